/-! spots, what is kept, the tape, the counts -/
theorem wi_spot (x : Int32) : f_X6_isSpot x = some (bI (wn x 0 9)) := by unfold f_X6_isSpot; rw [pu_within, pu_b1, pu_gz]; rfl
theorem in_0_9 (x : Int32) : f_X7_in x.toInt64 0 9 = some (bI (wn x 0 9)) := pu_in32 x 0 9
theorem wi_kind (x : Int32) : f_X6_isKind x = some (bI (wn x 0 6)) := by unfold f_X6_isKind; rw [pu_within, pu_b1, pu_gz]; rfl
theorem in_kind (x : Int32) : f_X7_isKind x = some (bI (wn x 0 6)) := by unfold f_X7_isKind; rw [in_0_6, pu_b1, pu_gz]
theorem SPn.set {n v : Int32} {sp : Nat → Int32} (h : SPn n sp) (hv : v = -1 ∨ ∃ b, b < 16 ∧ v = nI b ∧ nI b < n) (i : Nat) : SPn n (upd sp i v) := by
  intro j hj
  by_cases e : j = i
  · rw [e, upd_eq]; exact hv
  · rw [upd_ne e]; exact h j hj
theorem SPn.cg {n : Int32} {sp sp' : Nat → Int32} (h : SPn n sp) (e : ∀ j, j < 10 → sp' j = sp j) : SPn n sp' := fun j hj => by rw [e j hj]; exact h j hj
theorem g_hold : hy_hold Gd := by
  intro k isk fnd nhour nair nrub nz nnb nkd ncl ngr noc nlit ncold nccell ncpow nsp nwm ndr khour kair krub kz knb kkd kcl kgr koc klit kcold kccell kcpow ksp kwm kdr thour tair trub tz tnb tkd tcl tgr toc tlit tcold tccell tcpow tsp twm tdr tok sta en val tsize tby sbits ssize snum misKept mtaped msort mfrom mto mvalue mbad mm mkept mwas mother mfound mwarm mdrip mtape mbits msize mnumber x1 x2 hk hG
  obtain ⟨⟨N, A, rfl, rfl, hA, hM, hV, hS, hC⟩, hK, hF, hT, hSh⟩ := hG
  have hN := hM.hN
  have hk1 := gd_k k
  unfold f_X6_hold f_X7_hold
  rw [wi_spot, in_0_9, pu_b1, pu_b1]
  cases hw : wn x1 0 9
  · rw [if_pos bI_f, if_pos bI_f]
    obtain ⟨f', g', t1, t2, t3⟩ := fe1 hF
    rw [t1, t2, pu_b2, pu_b2]
    exact ⟨_, _, _, _, _, rfl, rfl, ⟨N, A, rfl, rfl, by omega, hM, hV, hS, hC⟩, hK.mono hk1, t3, hT, hSh⟩
  · obtain ⟨j, n1, n2, n3, rfl⟩ := wn_n hw (by decide)
    have e72 : (72 : Int32) + nI j = nI (72 + j) := nI_add 72 j
    rw [if_neg (show ¬ bI true = 0 by decide), if_neg (show ¬ bI true = 0 by decide), e72, pu_gdN (show 72 + j < 82 by omega) (by omega), pu_gdN (show j < 10 by omega) (by omega), nI_clamp (show j < 2 ^ 31 by omega), nI_clamp (show 72 + j < 2 ^ 31 by omega)]
    by_cases g : x2 = -1
    · rw [if_pos g, if_pos g]
      exact ⟨_, _, _, _, _, rfl, rfl, ⟨N, A, rfl, rfl, by omega, hM.u_sp (by omega) x2, hV, hS, hC⟩, hK.mono hk1, hF, hT, hSh.1, hSh.2.set (Or.inl g) j⟩
    · rw [if_neg g, if_neg g, w_isBlock hN, m_isBlock hM.rm, pu_b1, pu_b1]
      cases hw2 : wn x2 0 (N - 1 : Int)
      · rw [if_pos bI_f, if_pos bI_f]
        obtain ⟨f', g', t1, t2, t3⟩ := fe1 hF
        rw [t1, t2, pu_b2, pu_b2]
        exact ⟨_, _, _, _, _, rfl, rfl, ⟨N, A, rfl, rfl, by omega, hM, hV, hS, hC⟩, hK.mono hk1, t3, hT, hSh⟩
      · obtain ⟨b, b1, b2, b3, rfl⟩ := wn_n hw2 (by decide)
        rw [if_neg (show ¬ bI true = 0 by decide), if_neg (show ¬ bI true = 0 by decide)]
        exact ⟨_, _, _, _, _, rfl, rfl, ⟨N, A, rfl, rfl, by omega, hM.u_sp (by omega) (nI b), hV, hS, hC⟩, hK.mono hk1, hF, hT, hSh.1, hSh.2.set (Or.inr ⟨b, by omega, rfl, nI_lt (by omega) (by omega)⟩) j⟩
def und (k q : Nat) : Bool := decide (k = q) || decide (q = 0) || (decide (k = 3) && decide (q = 1)) || (decide (k = 5) && decide (q = 2))
theorem w_und : ∀ k, k < 7 → ∀ q, q < 7 → f_X6_isUnder (nI k) (nI q) = some (bI (und k q)) := by decide +kernel
theorem as_0 {mm mfound : Nat → Int32} {x1 x2 : Int32} (n : Nat) (h : ¬ (0 : Int32) = x2) : ik_lp1 (b_X7_as_55 mm mfound x1 x2) (n + 1 + 1) 0 = ik_b2 (f_X7_finds mfound (-1000003)) (fun r4 g5 => some (r4, g5)) := by
  show b_X7_as_55 mm mfound x1 x2 _ 0 = _
  unfold b_X7_as_55
  rw [if_neg (show ¬ (0 : Int32) < 0 by decide), if_neg h, show f_X7_under 0 = some (-1) from rfl, pu_b1]
  show b_X7_as_55 mm mfound x1 x2 _ (-1) = _
  unfold b_X7_as_55
  rw [if_pos (show (-1 : Int32) < 0 by decide)]
theorem as_s {mm mfound : Nat → Int32} {x1 x2 x y : Int32} (n : Nat) (h0 : ¬ x < 0) (h : ¬ x = x2) (hy : f_X7_under x = some y) : ik_lp1 (b_X7_as_55 mm mfound x1 x2) (n + 1) x = ik_lp1 (b_X7_as_55 mm mfound x1 x2) n y := by
  show b_X7_as_55 mm mfound x1 x2 _ x = _
  unfold b_X7_as_55
  rw [if_neg h0, if_neg h, hy, pu_b1]
theorem as_e {mm mfound : Nat → Int32} {x1 x2 x : Int32} (n : Nat) (h0 : ¬ x < 0) (h : x = x2) : ik_lp1 (b_X7_as_55 mm mfound x1 x2) (n + 1) x = some (mm ((72 : Int32) + x1).toNatClampNeg, mfound) := by
  show b_X7_as_55 mm mfound x1 x2 _ x = _
  unfold b_X7_as_55
  rw [if_neg h0, if_pos h]
theorem as_loop (mm mfound : Nat → Int32) (x1 : Int32) {k q : Nat} (hk : k < 7) (hq : q < 7) : ik_lp1 (b_X7_as_55 mm mfound x1 (nI q)) ik_fu (nI k) = if und k q then some (mm ((72 : Int32) + x1).toNatClampNeg, mfound) else ik_b2 (f_X7_finds mfound (-1000003)) (fun r4 g5 => some (r4, g5)) := by
  have hfu : ik_fu = 4090 + 1 + 1 + 1 + 1 + 1 + 1 := rfl
  rw [hfu]
  have hk0 : ¬ nI k < 0 := nI_pos (by omega)
  have z0 : ¬ (0 : Int32) < 0 := by decide
  by_cases e : k = q
  · rw [as_e _ hk0 (by rw [e]), show und k q = true by unfold und; rw [decide_eq_true e]; rfl, if_pos rfl]
  · have ne : ¬ nI k = nI q := fun p => e ((nI_eq (by omega) (by omega)).mp p)
    by_cases e0 : q = 0
    · subst e0
      rw [show und k 0 = true by unfold und; simp, if_pos rfl]
      by_cases k3 : k = 3
      · subst k3
        rw [as_s (y := 1) _ hk0 ne rfl, as_s (y := 0) _ (by decide) (by decide) rfl, as_e (x := 0) (x2 := nI 0) _ z0 rfl]
      · by_cases k5 : k = 5
        · subst k5
          rw [as_s (y := 2) _ hk0 ne rfl, as_s (y := 0) _ (by decide) (by decide) rfl, as_e (x := 0) (x2 := nI 0) _ z0 rfl]
        · rw [as_s (y := 0) _ hk0 ne (by rcases (show k = 1 ∨ k = 2 ∨ k = 4 ∨ k = 6 by omega) with rfl | rfl | rfl | rfl <;> rfl), as_e (x := 0) (x2 := nI 0) _ z0 rfl]
    · have n0 : ¬ (0 : Int32) = nI q := fun p => e0 ((nI_eq (a := 0) (by omega) (by omega)).mp p).symm
      by_cases k3 : k = 3
      · subst k3
        rw [as_s (y := 1) _ hk0 ne rfl]
        by_cases e1 : q = 1
        · subst e1
          rw [as_e (x := 1) (x2 := nI 1) _ (by decide) rfl]; rfl
        · have n1 : ¬ (1 : Int32) = nI q := fun p => e1 ((nI_eq (a := 1) (by omega) (by omega)).mp p).symm
          rw [as_s (y := 0) _ (by decide) n1 rfl, as_0 _ n0, show und 3 q = false by unfold und; simp [e, e0, e1]]; rfl
      · by_cases k5 : k = 5
        · subst k5
          rw [as_s (y := 2) _ hk0 ne rfl]
          by_cases e1 : q = 2
          · subst e1
            rw [as_e (x := 2) (x2 := nI 2) _ (by decide) rfl]; rfl
          · have n1 : ¬ (2 : Int32) = nI q := fun p => e1 ((nI_eq (a := 2) (by omega) (by omega)).mp p).symm
            rw [as_s (y := 0) _ (by decide) n1 rfl, as_0 _ n0, show und 5 q = false by unfold und; simp [e, e0, e1]]; rfl
        · rw [show und k q = false by unfold und; simp [e, e0, k3, k5]]
          by_cases k0 : k = 0
          · subst k0
            exact as_0 _ n0
          · rw [as_s (y := 0) _ hk0 ne (by rcases (show k = 1 ∨ k = 2 ∨ k = 4 ∨ k = 6 by omega) with rfl | rfl | rfl | rfl <;> rfl), as_0 _ n0]; rfl
theorem g_as : hy_as Gd := by
  intro k isk fnd nhour nair nrub nz nnb nkd ncl ngr noc nlit ncold nccell ncpow nsp nwm ndr khour kair krub kz knb kkd kcl kgr koc klit kcold kccell kcpow ksp kwm kdr thour tair trub tz tnb tkd tcl tgr toc tlit tcold tccell tcpow tsp twm tdr tok sta en val tsize tby sbits ssize snum misKept mtaped msort mfrom mto mvalue mbad mm mkept mwas mother mfound mwarm mdrip mtape mbits msize mnumber x1 x2 hk hG
  obtain ⟨⟨N, A, rfl, rfl, hA, hM, hV, hS, hC⟩, hK, hF, hT, hSh⟩ := hG
  have hN := hM.hN
  have hk1 := gd_k k
  unfold f_X6_as f_X7_as
  rw [wi_spot, in_0_9, pu_b1, pu_b1]
  cases hw : wn x1 0 9
  · rw [if_pos bI_f, if_pos bI_f]
    obtain ⟨f', g', t1, t2, t3⟩ := fe1 hF
    rw [t1, t2, pu_b2, pu_b2]
    exact ⟨_, _, _, rfl, rfl, ⟨N, A, rfl, rfl, by omega, hM, hV, hS, hC⟩, hK.mono hk1, t3, hT, hSh⟩
  · obtain ⟨j, n1, n2, n3, rfl⟩ := wn_n hw (by decide)
    rw [if_neg (show ¬ bI true = 0 by decide), if_neg (show ¬ bI true = 0 by decide), wi_kind, in_kind, pu_b1, pu_b1]
    cases hw2 : wn x2 0 6
    · rw [if_pos bI_f, if_pos bI_f]
      obtain ⟨f', g', t1, t2, t3⟩ := fe1 hF
      rw [t1, t2, pu_b2, pu_b2]
      exact ⟨_, _, _, rfl, rfl, ⟨N, A, rfl, rfl, by omega, hM, hV, hS, hC⟩, hK.mono hk1, t3, hT, hSh⟩
    · obtain ⟨q, q1, q2, q3, rfl⟩ := wn_n hw2 (by decide)
      have e72 : (72 : Int32) + nI j = nI (72 + j) := nI_add 72 j
      have hsp : mm ((72 : Int32) + nI j).toNatClampNeg = nsp j := by rw [e72, nI_clamp (by omega)]; exact hM.hs j (by omega)
      rw [if_neg (show ¬ bI true = 0 by decide), if_neg (show ¬ bI true = 0 by decide), hsp, e72, pu_gdN (show 72 + j < 82 by omega) (by omega), pu_gdN (show j < 10 by omega) (by omega), nI_clamp (show j < 2 ^ 31 by omega), w_isBlock hN, pu_b1]
      rcases hSh.2 j (by omega) with g | ⟨b, hb, g, hbn⟩
      · rw [g, show wn (-1) 0 (N - 1 : Int) = false from decide_eq_false (by rintro ⟨p, -⟩; exact absurd p (by decide)), if_pos bI_f, if_neg (show ¬ (0 : Int32) ≤ -1 by decide)]
        obtain ⟨f', g', t1, t2, t3⟩ := fe6 hF
        rw [t1, t2, pu_b2, pu_b2]
        exact ⟨_, _, _, rfl, rfl, ⟨N, A, rfl, rfl, by omega, hM, hV, hS, hC⟩, hK.mono hk1, t3, hT, hSh⟩
      · have hbN : b < N := (nI_ltI (by omega) (by omega)).mp hbn
        obtain ⟨⟨kk, hk7, ek⟩, -⟩ := hV.wi.2 b hbN
        rw [g, show wn (nI b) 0 (N - 1 : Int) = true from decide_eq_true (by rw [nI_toInt (by omega)]; omega), if_neg (show ¬ bI true = 0 by decide), if_pos (nI_pos' (by omega)), pu_gdN hb (by omega), nI_clamp (by omega), m_kind hM.rm hb, pu_b1, ek, w_und kk hk7 q (by omega), pu_b1, as_loop _ _ _ hk7 (by omega), hsp, g]
        cases und kk q
        · rw [if_pos bI_f, if_neg (show ¬ false = true by decide)]
          obtain ⟨f', g', t1, t2, t3⟩ := fe3 hF
          rw [t1, t2, pu_b2, pu_b2]
          exact ⟨_, _, _, rfl, rfl, ⟨N, A, rfl, rfl, by omega, hM, hV, hS, hC⟩, hK.mono hk1, t3, hT, hSh⟩
        · rw [if_neg (show ¬ bI true = 0 by decide), if_pos rfl]
          exact ⟨_, _, _, rfl, rfl, ⟨N, A, rfl, rfl, by omega, hM, hV, hS, hC⟩, hK.mono hk1, hF, hT, hSh⟩
theorem g_image : hy_image Gd := by
  intro k isk fnd nhour nair nrub nz nnb nkd ncl ngr noc nlit ncold nccell ncpow nsp nwm ndr khour kair krub kz knb kkd kcl kgr koc klit kcold kccell kcpow ksp kwm kdr thour tair trub tz tnb tkd tcl tgr toc tlit tcold tccell tcpow tsp twm tdr tok sta en val tsize tby sbits ssize snum misKept mtaped msort mfrom mto mvalue mbad mm mkept mwas mother mfound mwarm mdrip mtape mbits msize mnumber hk hG
  obtain ⟨⟨N, A, rfl, rfl, hA, hM, hV, hS, hC⟩, hK, hF, hT, hSh⟩ := hG
  have hN := hM.hN
  have hk1 := gd_k k
  unfold f_X6_image f_X7_image
  obtain ⟨kd', cl', gr', oc', ccell', cpow', sp', e, r1, r2, r3, r4, r5, r6, r7, r8, r9, r10, r11⟩ := w_copy hM hV hS hC khour kair krub kz knb kkd kcl kgr koc klit kcold kccell kcpow ksp
  rw [m_row, pu_b1, e, pu_b14]
  exact ⟨_, _, _, _, _, _, _, _, _, _, _, _, _, _, _, _, _, _, rfl, rfl, ⟨N, A, rfl, rfl, by omega, hM, hV, hS, hC⟩, ⟨rfl, Or.inr ⟨rfl, ⟨N, A, rfl, rfl, by omega, r1.fw, r2, r3, r4⟩, hSh.2.cg r11⟩⟩, hF, hT, hSh⟩
theorem g_undo : hy_undo Gd := by
  intro k isk fnd nhour nair nrub nz nnb nkd ncl ngr noc nlit ncold nccell ncpow nsp nwm ndr khour kair krub kz knb kkd kcl kgr koc klit kcold kccell kcpow ksp kwm kdr thour tair trub tz tnb tkd tcl tgr toc tlit tcold tccell tcpow tsp twm tdr tok sta en val tsize tby sbits ssize snum misKept mtaped msort mfrom mto mvalue mbad mm mkept mwas mother mfound mwarm mdrip mtape mbits msize mnumber hk hG
  obtain ⟨⟨N, A, rfl, rfl, hA, hM, hV, hS, hC⟩, hK, hF, hT, hSh⟩ := hG
  have hN := hM.hN
  have hk1 := gd_k k
  unfold f_X6_undo f_X7_undo
  rcases hK with ⟨rfl, rfl | ⟨rfl, ⟨N2, A2, rfl, rfl, hA2, hM2, hV2, hS2, hC2⟩, hSP⟩⟩
  · rw [if_pos rfl, if_pos rfl]
    obtain ⟨f', g', t1, t2, t3⟩ := fe4 hF
    rw [t1, t2, pu_b2, pu_b2]
    exact ⟨_, _, _, _, _, _, _, _, _, _, _, _, _, _, _, _, _, _, rfl, rfl, ⟨N, A, rfl, rfl, by omega, hM, hV, hS, hC⟩, ⟨rfl, Or.inl rfl⟩, t3, hT, hSh⟩
  · obtain ⟨kd', cl', gr', oc', ccell', cpow', sp', e, r1, r2, r3, r4, r5, r6, r7, r8, r9, r10, r11⟩ := w_copy hM2 hV2 hS2 hC2 nhour (nI A) nrub nz (nI N) nkd ncl ngr noc nlit ncold nccell ncpow nsp
    rw [if_neg (show ¬ (1 : Int32) = 0 by decide), if_neg (show ¬ (1 : Int32) = 0 by decide), m_row, pu_b1, e, pu_b14, pu_c0, r1.fw.h0]
    exact ⟨_, _, _, _, _, _, _, _, _, _, _, _, _, _, _, _, _, _, rfl, rfl, ⟨N2, A2, rfl, rfl, by omega, r1.fw, r2, r3, r4⟩, ⟨rfl, Or.inr ⟨rfl, ⟨N2, A2, rfl, rfl, by omega, hM2, hV2, hS2, hC2⟩, hSP⟩⟩, hF, hT, hSh.1, hSP.cg r11⟩
theorem g_tear : hy_tear Gd := by
  intro k isk fnd nhour nair nrub nz nnb nkd ncl ngr noc nlit ncold nccell ncpow nsp nwm ndr khour kair krub kz knb kkd kcl kgr koc klit kcold kccell kcpow ksp kwm kdr thour tair trub tz tnb tkd tcl tgr toc tlit tcold tccell tcpow tsp twm tdr tok sta en val tsize tby sbits ssize snum misKept mtaped msort mfrom mto mvalue mbad mm mkept mwas mother mfound mwarm mdrip mtape mbits msize mnumber hk hG
  obtain ⟨⟨N, A, rfl, rfl, hA, hM, hV, hS, hC⟩, hK, hF, hT, hSh⟩ := hG
  have hN := hM.hN
  have hk1 := gd_k k
  unfold f_X6_tear f_X7_tear
  rcases hK with ⟨rfl, rfl | ⟨rfl, -⟩⟩
  · rw [if_pos rfl]
    exact ⟨_, _, _, rfl, rfl, ⟨N, A, rfl, rfl, by omega, hM, hV, hS, hC⟩, ⟨rfl, Or.inl rfl⟩, hF, hT, hSh⟩
  · rw [if_neg (show ¬ (1 : Int32) = 0 by decide)]
    exact ⟨_, _, _, rfl, rfl, ⟨N, A, rfl, rfl, by omega, hM, hV, hS, hC⟩, ⟨rfl, Or.inl rfl⟩, hF, hT, hSh⟩
theorem g_wipe : hy_wipe Gd := by
  intro k isk fnd nhour nair nrub nz nnb nkd ncl ngr noc nlit ncold nccell ncpow nsp nwm ndr khour kair krub kz knb kkd kcl kgr koc klit kcold kccell kcpow ksp kwm kdr thour tair trub tz tnb tkd tcl tgr toc tlit tcold tccell tcpow tsp twm tdr tok sta en val tsize tby sbits ssize snum misKept mtaped msort mfrom mto mvalue mbad mm mkept mwas mother mfound mwarm mdrip mtape mbits msize mnumber hk hG
  obtain ⟨⟨N, A, rfl, rfl, hA, hM, hV, hS, hC⟩, hK, hF, hT, hSh⟩ := hG
  have hN := hM.hN
  have hk1 := gd_k k
  unfold f_X6_wipe f_X7_wipe
  rw [hT.1]
  exact ⟨_, _, _, rfl, rfl, ⟨N, A, rfl, rfl, by omega, hM, hV, hS, hC⟩, hK.mono hk1, hF, ⟨rfl, ⟨0, by omega, rfl⟩, hT.2.2⟩, hSh⟩
theorem by_both (x : Int32) {i : Nat} (hi : i < 4) : (ik_us x (8 * nI i) &&& 255) = ((x >>> ((8 * nI i) &&& 31)) &&& 255) ∧ ∃ c, c < 256 ∧ (ik_us x (8 * nI i) &&& 255) = nI c := by
  have e : (8 : Int32) * nI i = nI (8 * i) := pk_mul 8 i
  refine ⟨?_, pk_andE _ 8 (by decide)⟩
  rw [e]
  refine b_ext (fun j hj => ?_)
  rw [b_and, b_and]
  unfold ik_us
  rw [b_ushr (8 * i) (by omega) x j, b_sshr (8 * i) (by omega) x hj]
  rcases Nat.lt_or_ge j 8 with h | h
  · rw [if_pos (by omega)]
  · rw [(by decide +kernel : ∀ j, j < 32 → 8 ≤ j → bt 255 j = false) j hj h, Bool.and_false, Bool.and_false]
theorem TP.add {T : Nat} {tby mtape : Nat → Int32} (h : TP (nI T) tby (nI T) mtape) (hT : T < 120) {v w : Int32} (e : v = w) (hv : ∃ c, c < 256 ∧ v = nI c) : TP (nI (T + 1)) (upd tby T v) (nI (T + 1)) (upd mtape T w) := by
  refine ⟨rfl, ⟨T + 1, by omega, rfl⟩, fun i hi => ?_⟩
  by_cases g : i = T
  · rw [g, upd_eq, upd_eq]; exact ⟨e, hv⟩
  · rw [upd_ne g, upd_ne g]; exact h.2.2 i hi
theorem wi_1_4 (x : Int32) : f_X6_isWithin x 1 4 = some (bI (wn x 1 4)) := pu_within x 1 4
theorem in_1_4 (x : Int32) : f_X7_in x.toInt64 1 4 = some (bI (wn x 1 4)) := pu_in32 x 1 4
theorem g_feed : hy_feed Gd := by
  intro k isk fnd nhour nair nrub nz nnb nkd ncl ngr noc nlit ncold nccell ncpow nsp nwm ndr khour kair krub kz knb kkd kcl kgr koc klit kcold kccell kcpow ksp kwm kdr thour tair trub tz tnb tkd tcl tgr toc tlit tcold tccell tcpow tsp twm tdr tok sta en val tsize tby sbits ssize snum misKept mtaped msort mfrom mto mvalue mbad mm mkept mwas mother mfound mwarm mdrip mtape mbits msize mnumber x1 x2 hk hG
  obtain ⟨⟨N, A, rfl, rfl, hA, hM, hV, hS, hC⟩, hK, hF, hT, hSh⟩ := hG
  have hN := hM.hN
  have hk1 := gd_k k
  unfold f_X6_feed f_X7_feed
  rw [wi_1_4, in_1_4, pu_b1, pu_b1]
  cases hw : wn x2 1 4
  · rw [if_pos bI_f, if_pos bI_f]
    obtain ⟨f', g', t1, t2, t3⟩ := fe1 hF
    rw [t1, t2, pu_b2, pu_b2]
    exact ⟨_, _, _, _, _, _, _, rfl, rfl, ⟨N, A, rfl, rfl, by omega, hM, hV, hS, hC⟩, hK.mono hk1, t3, hT, hSh⟩
  · obtain ⟨n, n1, n2, n3, rfl⟩ := wn_n hw (by decide)
    obtain ⟨rfl, ⟨T, hT1, rfl⟩, hT3⟩ := hT
    have hT : TP (nI T) tby (nI T) mtape := ⟨rfl, ⟨T, hT1, rfl⟩, hT3⟩
    rw [if_neg (show ¬ bI true = 0 by decide), if_neg (show ¬ bI true = 0 by decide), nI_add]
    by_cases g : T + n ≤ 120
    · have g1 : nI (T + n) ≤ (120 : Int32) := nI_le (b := 120) g (by omega)
      rw [if_pos g1, if_pos g1, lp_unc3, lp_unc3]
      refine lp_rel (R := (fun p q => ∃ (R : Int32) (fnd_r : Nat → Int32) (tsize_r : Int32) (tby_r : Nat → Int32) (mtaped_r : Int32) (mfound_r : Nat → Int32) (mtape_r : Nat → Int32), p = some (R, fnd_r, tsize_r, tby_r) ∧ q = some (R, mtaped_r, mfound_r, mtape_r) ∧ Gd (k + 1) isk fnd_r nhour (nI A) nrub nz (nI N) nkd ncl ngr noc nlit ncold nccell ncpow nsp nwm ndr khour kair krub kz knb kkd kcl kgr koc klit kcold kccell kcpow ksp kwm kdr thour tair trub tz tnb tkd tcl tgr toc tlit tcold tccell tcpow tsp twm tdr tok sta en val tsize_r tby_r sbits ssize snum misKept mtaped_r msort mfrom mto mvalue mbad mm mkept mwas mother mfound_r mwarm mdrip mtape_r mbits msize mnumber)) (fun i q r => ∃ b m, q = (nI (T + i), b, nI (n - i) - 1) ∧ r = (nI (T + i), m, nI (n - i) - 1) ∧ TP (nI (T + i)) b (nI (T + i)) m) n ?_ ?_ _ _ ⟨tby, mtape, rfl, rfl, hT⟩ _ _ (pu_fu (by omega)) (pu_fu (by omega))
      · rintro i q r hi ⟨b, m, rfl, rfl, i1⟩ rc rd - - hc
        have es : nI (n - i) - 1 = nI (n - i - 1) := pk_sub (b := 1) (by omega)
        have es2 : nI (n - i - 1) + -1 = nI (n - (i + 1)) - 1 := by rw [show n - (i + 1) = n - i - 1 by omega, i_sub1]
        obtain ⟨c1, c2⟩ := by_both x1 (i := n - i - 1) (by omega)
        dsimp only
        unfold b_X6_feed_41 b_X7_feed_41 f_X3_append
        rw [es, if_neg (nI_pos (by omega)), if_neg (nI_pos (by omega)), es2, if_neg (show ¬ (120 : Int32) ≤ nI (T + i) from nI_ge (b := 120) (by omega) (by omega)), pu_gdN (show T + i < 120 by omega) (by omega), pu_gdN (show T + i < 120 by omega) (by omega), nI_clamp (by omega), nI_1, pu_b2, Nat.add_assoc]
        exact hc _ _ ⟨_, _, rfl, rfl, i1.add (by omega) c1 c2⟩
      · rintro q r ⟨b, m, rfl, rfl, i1⟩ rc rd
        have es : nI (n - n) - 1 = -1 := by rw [Nat.sub_self]; rfl
        dsimp only
        unfold b_X6_feed_41 b_X7_feed_41
        rw [es, if_pos (show (-1 : Int32) < 0 by decide), if_pos (show (-1 : Int32) < 0 by decide)]
        exact ⟨_, _, _, _, _, _, _, rfl, rfl, ⟨N, A, rfl, rfl, by omega, hM, hV, hS, hC⟩, hK.mono hk1, hF, i1, hSh⟩
    · have g1 : ¬ nI (T + n) ≤ (120 : Int32) := nI_ge (a := 120) (by omega) (by omega)
      rw [if_neg g1, if_neg g1]
      obtain ⟨f', g', t1, t2, t3⟩ := fe2 hF
      rw [t1, t2, pu_b2, pu_b2]
      exact ⟨_, _, _, _, _, _, _, rfl, rfl, ⟨N, A, rfl, rfl, by omega, hM, hV, hS, hC⟩, hK.mono hk1, t3, hT, hSh⟩
def sm (f : Nat → Int32) : Nat → Int32
  | 0 => 0
  | n + 1 => sm f n + f n
theorem wi_m1_6 (x : Int32) : f_X6_isWithin x (-1) 6 = some (bI (wn x (-1) 6)) := pu_within x (-1) 6
theorem in_m1_6 (x : Int32) : f_X7_in x.toInt64 (-1) 6 = some (bI (wn x (-1) 6)) := pu_in32 x (-1) 6
theorem g_status : hy_status Gd := by
  intro k isk fnd nhour nair nrub nz nnb nkd ncl ngr noc nlit ncold nccell ncpow nsp nwm ndr khour kair krub kz knb kkd kcl kgr koc klit kcold kccell kcpow ksp kwm kdr thour tair trub tz tnb tkd tcl tgr toc tlit tcold tccell tcpow tsp twm tdr tok sta en val tsize tby sbits ssize snum misKept mtaped msort mfrom mto mvalue mbad mm mkept mwas mother mfound mwarm mdrip mtape mbits msize mnumber x1 hk hG
  obtain ⟨⟨N, A, rfl, rfl, hA, hM, hV, hS, hC⟩, hK, hF, hT, hSh⟩ := hG
  have hN := hM.hN
  have hk1 := gd_k k
  unfold f_X6_status f_X7_status
  rw [wi_m1_6, in_m1_6, pu_b1, pu_b1]
  cases hw : wn x1 (-1) 6
  · rw [if_pos bI_f, if_pos bI_f]
    obtain ⟨f', g', t1, t2, t3⟩ := fe1 hF
    rw [t1, t2, pu_b2, pu_b2]
    exact ⟨_, _, _, rfl, rfl, ⟨N, A, rfl, rfl, by omega, hM, hV, hS, hC⟩, hK.mono hk1, t3, hT, hSh⟩
  · rw [if_neg (show ¬ bI true = 0 by decide), if_neg (show ¬ bI true = 0 by decide)]
    by_cases g : x1 < 0
    · have h1 : ik_lp2 (b_X6_status_32 fnd) ik_fu 0 0 = some (sm fnd 7, fnd) := by
        refine lp_for2 (sm fnd) nI (some (sm fnd 7, fnd)) 7 (fun rc j hj => ?_) (fun rc => ?_) (pu_fu (by omega))
        · unfold b_X6_status_32
          rw [if_neg (show ¬ (7 : Int32) ≤ nI j from nI_ge (b := 7) hj (by omega)), pu_gdN hj (by omega), nI_clamp (by omega), nI_1]
          rfl
        · unfold b_X6_status_32
          rw [if_pos (show (7 : Int32) ≤ nI 7 from nI_le (a := 7) (by omega) (by omega))]
      have h2 : ik_lp2 (b_X7_status_25 mfound x1) ik_fu 0 0 = some (sm fnd 7, mfound) := by
        refine lp_for2 (sm fnd) nI (some (sm fnd 7, mfound)) 7 (fun rc j hj => ?_) (fun rc => ?_) (pu_fu (by omega))
        · unfold b_X7_status_25
          rw [if_neg (show ¬ (7 : Int32) ≤ nI j from nI_ge (b := 7) hj (by omega)), if_pos g, pu_gdN hj (by omega), nI_clamp (by omega), nI_1, ← hF j hj]
          rfl
        · unfold b_X7_status_25
          rw [if_pos (show (7 : Int32) ≤ nI 7 from nI_le (a := 7) (by omega) (by omega))]
      rw [if_pos g, h1, h2]
      exact ⟨_, _, _, rfl, rfl, ⟨N, A, rfl, rfl, by omega, hM, hV, hS, hC⟩, hK.mono hk1, hF, hT, hSh⟩
    · obtain ⟨q, hq, rfl⟩ := nI_of g
      have hq7 : q < 7 := by
        have := of_decide_eq_true hw
        rw [nI_toInt hq] at this
        omega
      have h2 : ik_lp2 (b_X7_status_25 mfound (nI q)) ik_fu 0 0 = some (fnd q, mfound) := by
        refine lp_for2 (fun i => if q < i then fnd q else 0) nI (some (fnd q, mfound)) 7 (fun rc j hj => ?_) (fun rc => ?_) (pu_fu (by omega))
        · unfold b_X7_status_25
          rw [if_neg (show ¬ (7 : Int32) ≤ nI j from nI_ge (b := 7) hj (by omega)), if_neg g, nI_1]
          by_cases e : q = j
          · subst e
            rw [if_pos rfl, pu_gdN hj (by omega), nI_clamp (by omega), ← hF q hj, if_neg (show ¬ q < q by omega), if_pos (show q < q + 1 by omega), Int32.zero_add]
          · rw [if_neg (fun p => e ((nI_eq (by omega) (by omega)).mp p)), Int32.add_zero]
            by_cases e2 : q < j
            · rw [if_pos e2, if_pos (show q < j + 1 by omega)]
            · rw [if_neg e2, if_neg (show ¬ q < j + 1 by omega)]
        · unfold b_X7_status_25
          rw [if_pos (show (7 : Int32) ≤ nI 7 from nI_le (a := 7) (by omega) (by omega)), if_pos hq7]
      rw [if_neg g, pu_gdN hq7 (by omega), nI_clamp (by omega), h2]
      exact ⟨_, _, _, rfl, rfl, ⟨N, A, rfl, rfl, by omega, hM, hV, hS, hC⟩, hK.mono hk1, hF, hT, hSh⟩
theorem g_count : hy_count Gd := by
  intro k isk fnd nhour nair nrub nz nnb nkd ncl ngr noc nlit ncold nccell ncpow nsp nwm ndr khour kair krub kz knb kkd kcl kgr koc klit kcold kccell kcpow ksp kwm kdr thour tair trub tz tnb tkd tcl tgr toc tlit tcold tccell tcpow tsp twm tdr tok sta en val tsize tby sbits ssize snum misKept mtaped msort mfrom mto mvalue mbad mm mkept mwas mother mfound mwarm mdrip mtape mbits msize mnumber x1 hk hG
  obtain ⟨⟨N, A, rfl, rfl, hA, hM, hV, hS, hC⟩, hK, hF, hT, hSh⟩ := hG
  have hN := hM.hN
  have hk1 := gd_k k
  unfold f_X6_count f_X7_count
  rw [pu_c0, pu_c5, pu_c2, pu_c3, pu_c4, hM.h0, hM.h5, hM.h2, hM.h3, hM.h4, m_goneNow hM, pu_b1, m_all hM.rm, pu_b1, w_goneSet hN, pu_b1, w_all hN, pu_b1, bc_mk _ hN, pu_b1, m_many, pu_b1]
  obtain ⟨rfl, hT2⟩ := hT
  have hT : TP tsize tby tsize mtape := ⟨rfl, hT2⟩
  by_cases c0 : x1 = 0
  · rw [if_pos c0, if_pos c0]
    exact ⟨_, _, _, rfl, rfl, ⟨N, A, rfl, rfl, by omega, hM, hV, hS, hC⟩, hK.mono hk1, hF, hT, hSh⟩
  · rw [if_neg c0, if_neg c0]
    by_cases c1 : x1 = 1
    · rw [if_pos c1, if_pos c1]
      exact ⟨_, _, _, rfl, rfl, ⟨N, A, rfl, rfl, by omega, hM, hV, hS, hC⟩, hK.mono hk1, hF, hT, hSh⟩
    · rw [if_neg c1, if_neg c1]
      by_cases c2 : x1 = 2
      · rw [if_pos c2, if_pos c2]
        exact ⟨_, _, _, rfl, rfl, ⟨N, A, rfl, rfl, by omega, hM, hV, hS, hC⟩, hK.mono hk1, hF, hT, hSh⟩
      · rw [if_neg c2, if_neg c2]
        by_cases c3 : x1 = 3
        · rw [if_pos c3, if_pos c3]
          exact ⟨_, _, _, rfl, rfl, ⟨N, A, rfl, rfl, by omega, hM, hV, hS, hC⟩, hK.mono hk1, hF, hT, hSh⟩
        · rw [if_neg c3, if_neg c3]
          by_cases c4 : x1 = 4
          · rw [if_pos c4, if_pos c4]
            exact ⟨_, _, _, rfl, rfl, ⟨N, A, rfl, rfl, by omega, hM, hV, hS, hC⟩, hK.mono hk1, hF, hT, hSh⟩
          · rw [if_neg c4, if_neg c4]
            by_cases c5 : x1 = 5
            · rw [if_pos c5, if_pos c5]
              exact ⟨_, _, _, rfl, rfl, ⟨N, A, rfl, rfl, by omega, hM, hV, hS, hC⟩, hK.mono hk1, hF, hT, hSh⟩
            · rw [if_neg c5, if_neg c5]
              by_cases c6 : x1 = 6
              · rw [if_pos c6, if_pos c6]
                exact ⟨_, _, _, rfl, rfl, ⟨N, A, rfl, rfl, by omega, hM, hV, hS, hC⟩, hK.mono hk1, hF, hT, hSh⟩
              · rw [if_neg c6, if_neg c6]
                by_cases c7 : x1 = 7
                · rw [if_pos c7, if_pos c7]
                  exact ⟨_, _, _, rfl, rfl, ⟨N, A, rfl, rfl, by omega, hM, hV, hS, hC⟩, hK.mono hk1, hF, hT, hSh⟩
                · rw [if_neg c7, if_neg c7]
                  obtain ⟨f', g', t1, t2, t3⟩ := fe1 hF
                  rw [t1, t2, pu_b2, pu_b2]
                  exact ⟨_, _, _, rfl, rfl, ⟨N, A, rfl, rfl, by omega, hM, hV, hS, hC⟩, hK.mono hk1, t3, hT, hSh⟩
