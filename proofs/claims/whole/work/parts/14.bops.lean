/-! calls: what is loose, what is weak, what falls, hours -/
theorem wn_n {x : Int32} {lo hi : Int} (h : wn x lo hi = true) (h0 : 0 ≤ lo) : ∃ n : Nat, lo ≤ n ∧ (n : Int) ≤ hi ∧ n < 2 ^ 31 ∧ x = nI n := by
  have h1 := of_decide_eq_true h
  obtain ⟨n, hn, e⟩ := nI_of (x := x) (by rw [Int32.lt_iff_toInt_lt]; show ¬ _ < (0 : Int); omega)
  rw [e, nI_toInt hn] at h1
  exact ⟨n, h1.1, h1.2, hn, e⟩
theorem wi_1_48 (x : Int32) : f_X6_isWithin x 1 48 = some (bI (wn x 1 48)) := pu_within x 1 48
theorem in_1_48 (x : Int32) : f_X7_in x.toInt64 1 48 = some (bI (wn x 1 48)) := pu_in32 x 1 48
theorem g_loose : hy_loose Gd := by
  intro k isk fnd nhour nair nrub nz nnb nkd ncl ngr noc nlit ncold nccell ncpow nsp nwm ndr khour kair krub kz knb kkd kcl kgr koc klit kcold kccell kcpow ksp kwm kdr thour tair trub tz tnb tkd tcl tgr toc tlit tcold tccell tcpow tsp twm tdr tok sta en val tsize tby sbits ssize snum misKept mtaped msort mfrom mto mvalue mbad mm mkept mwas mother mfound mwarm mdrip mtape mbits msize mnumber hk hG
  obtain ⟨⟨N, A, rfl, rfl, hA, hM, hV, hS, hC⟩, hK, hF, hT, hSh⟩ := hG
  have hN := hM.hN
  have hk1 := gd_k k
  obtain ⟨p, -, e1, e2⟩ := lo_both hM.rm hV.wi hV.dc
  unfold f_X6_loose f_X7_loose
  rw [e1, e2, pu_b1]
  exact ⟨mk p N, rfl, rfl, ⟨N, A, rfl, rfl, by omega, hM, hV, hS, hC⟩, hK.mono hk1, hF, hT, hSh⟩
theorem g_weak : hy_weak Gd := by
  intro k isk fnd nhour nair nrub nz nnb nkd ncl ngr noc nlit ncold nccell ncpow nsp nwm ndr khour kair krub kz knb kkd kcl kgr koc klit kcold kccell kcpow ksp kwm kdr thour tair trub tz tnb tkd tcl tgr toc tlit tcold tccell tcpow tsp twm tdr tok sta en val tsize tby sbits ssize snum misKept mtaped msort mfrom mto mvalue mbad mm mkept mwas mother mfound mwarm mdrip mtape mbits msize mnumber hk hG
  obtain ⟨⟨N, A, rfl, rfl, hA, hM, hV, hS, hC⟩, hK, hF, hT, hSh⟩ := hG
  have hN := hM.hN
  have hk1 := gd_k k
  obtain ⟨p, -, e1, e2⟩ := we_both hM.rm hV.wi hV.oc
  unfold f_X6_weak f_X7_weak
  rw [e1, e2, pu_b1]
  exact ⟨mk p N, rfl, rfl, ⟨N, A, rfl, rfl, by omega, hM, hV, hS, hC⟩, hK.mono hk1, hF, hT, hSh⟩
theorem g_fall : hy_fall Gd := by
  intro k isk fnd nhour nair nrub nz nnb nkd ncl ngr noc nlit ncold nccell ncpow nsp nwm ndr khour kair krub kz knb kkd kcl kgr koc klit kcold kccell kcpow ksp kwm kdr thour tair trub tz tnb tkd tcl tgr toc tlit tcold tccell tcpow tsp twm tdr tok sta en val tsize tby sbits ssize snum misKept mtaped msort mfrom mto mvalue mbad mm mkept mwas mother mfound mwarm mdrip mtape mbits msize mnumber hk hG
  obtain ⟨⟨N, A, rfl, rfl, hA, hM, hV, hS, hC⟩, hK, hF, hT, hSh⟩ := hG
  have hN := hM.hN
  have hk1 := gd_k k
  obtain ⟨rub', cl', gr', oc', v', mm', a1, a2, a3, a4, e1, e2⟩ := co_both hM hV
  unfold f_X6_fall f_X7_fall
  rw [e1, pu_b5, m_goneNow hM, pu_b1, e2, pu_b1, m_goneNow a1, pu_b1, m_went hN (fun a ha => by
    rcases a4 a ha with ⟨q, -⟩ | ⟨q, -⟩
    · exact Or.inl q
    · exact Or.inr q), pu_b1]
  have ev : live ncl N - live cl' N = v' := by omega
  rw [ev]
  exact ⟨nI v', _, _, _, _, _, rfl, rfl, ⟨N, A, rfl, rfl, by omega, a1, a2, GS_LO hS a4, hC⟩, hK.mono hk1, hF, hT, hSh⟩
theorem g_hours : hy_hours Gd := by
  intro k isk fnd nhour nair nrub nz nnb nkd ncl ngr noc nlit ncold nccell ncpow nsp nwm ndr khour kair krub kz knb kkd kcl kgr koc klit kcold kccell kcpow ksp kwm kdr thour tair trub tz tnb tkd tcl tgr toc tlit tcold tccell tcpow tsp twm tdr tok sta en val tsize tby sbits ssize snum misKept mtaped msort mfrom mto mvalue mbad mm mkept mwas mother mfound mwarm mdrip mtape mbits msize mnumber x1 hk hG
  obtain ⟨⟨N, A, rfl, rfl, hA, hM, hV, hS, hC⟩, hK, hF, hT, hSh⟩ := hG
  have hN := hM.hN
  have hk1 := gd_k k
  unfold f_X6_hours f_X7_hours
  rw [wi_1_48, in_1_48, pu_b1, pu_b1]
  cases hw : wn x1 1 48
  · obtain ⟨f', g', t1, t2, t3⟩ := fe1 hF
    rw [if_pos bI_f, if_pos bI_f, t1, t2, pu_b2, pu_b2]
    exact ⟨_, _, _, _, _, _, _, _, _, _, _, _, _, _, rfl, rfl, ⟨N, A, rfl, rfl, by omega, hM, hV, hS, hC⟩, hK.mono hk1, t3, hT, hSh⟩
  · obtain ⟨n, n1, n2, n3, rfl⟩ := wn_n hw (by decide)
    unfold f_X6_hasHours
    rw [if_neg (show ¬ bI true = 0 by decide), if_neg (show ¬ bI true = 0 by decide), pu_c0, hM.h0]
    by_cases q : (9999 : Int32) < nhour + nI n
    · obtain ⟨f', g', t1, t2, t3⟩ := fe5 hF
      rw [if_pos q, pu_b1, if_pos rfl, if_neg (Int32.not_le.mpr q), t1, t2, pu_b2, pu_b2]
      exact ⟨_, _, _, _, _, _, _, _, _, _, _, _, _, _, rfl, rfl, ⟨N, A, rfl, rfl, by omega, hM, hV, hS, hC⟩, hK.mono hk1, t3, hT, hSh⟩
    · rw [if_neg q, pu_b1, if_neg (show ¬ (1 : Int32) = 0 by decide), if_pos (Int32.not_lt.mp q), m_goneNow hM, pu_b1]
      obtain ⟨hr, A', rb, cl, gr, oc, dr, v, mm', W, md, ⟨e1, e2, e3, e4, e5, e6, e7, e8, e9, e10⟩, hq⟩ := hq_ex hM hV hS hC (M := n) (by omega) (wm := fw (fv ncl nlit ncold nccell ncpow) nwm N) (fun b hb _ => fw_at N b hb) ndr mwarm mdrip
      have w := w_hours hq (Nat.le_refl n) (by omega)
      rw [e1, e2, e3, e4, e5, e6, e7] at w
      have hm : ik_lp4 (b_X7_hours_47 mfound (nI n) (mk (fun b => decide (ncl b < 0)) N)) ik_fu mm mwarm mdrip 0 = some (nI (live ncl N - live (cl n) N), mm' n, mfound, W n, md n) := by
        have := lp_for4 (f := b_X7_hours_47 mfound (nI n) (mk (fun b => decide (ncl b < 0)) N)) mm' W md nI (some (nI (live ncl N - live (cl n) N), mm' n, mfound, W n, md n)) n (fun rc i hi => ?_) (fun rc => ?_) (pu_fu (show n < 4000 by omega))
        · rw [e8, e9, e10] at this
          exact this
        · unfold b_X7_hours_47
          rw [if_neg (nI_ge hi (by omega)), (hq.2 i hi).2.1, pu_b3, nI_1]
        · unfold b_X7_hours_47
          rw [if_pos (nI_le (Nat.le_refl _) (by omega)), m_goneNow (hq.1 n (Nat.le_refl _)).1, pu_b1, m_went hN (fun a ha => by rw [← e4]; exact (hq.1 n (Nat.le_refl _)).2.2.2.2 a ha), pu_b1]
      unfold f_X1_passHours
      rw [w_feel hN hV.wi hC, pu_b1, w, pu_b9, hm]
      obtain ⟨z1, z2, z3, z4, z5⟩ := hq.1 n (Nat.le_refl _)
      exact ⟨_, _, _, _, _, _, _, _, _, _, _, _, _, _, rfl, rfl, ⟨N, A' n, rfl, rfl, by omega, z1, z2, z3, hC⟩, hK.mono hk1, hF, hT, hSh⟩
