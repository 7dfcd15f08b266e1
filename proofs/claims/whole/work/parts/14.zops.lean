/-! who may come when -/
def bl_judge (s : Nat) (fnd : Nat → Int32) (nnb : Int32) (nkd : Nat → Int32) (ncl : Nat → Int32) (ssize : Nat → Int32) (snum : Nat → Nat → Int32) (rc_49 : Int64 → Int32 → Option (Int32 × (Nat → Int32))) (x4_49 : Int64) (x6_49 : Int32) : Option (Int32 × (Nat → Int32)) := (if (ssize s) ≤ x6_49 then (ik_b1 (f_X5_occupied nnb ncl) (fun r3 => (if (lg_cmp x4_49 r3) = (0 : Int32) then (some ((0 : Int32), fnd)) else (some ((41 : Int32), fnd))))) else (ik_gd x6_49 40 (ik_b1 (f_X5_isBlock nnb ((snum s) (x6_49).toNatClampNeg)) (fun r3 => (if r3 = (0 : Int32) then (some (((1 : Int32) + x6_49), fnd)) else (ik_b1 (f_X5_isComer nkd ncl ((snum s) (x6_49).toNatClampNeg) x4_49) (fun r4 => (if r4 = (0 : Int32) then (some (((1 : Int32) + x6_49), fnd)) else (ik_b1 (f_X5_cellBit ncl ((snum s) (x6_49).toNatClampNeg)) (fun r5 => (rc_49 (x4_49 ||| r5) (x6_49 + (1 : Int32)))))))))))))
theorem cnt_F : ∀ n, cnt (fun _ => false) n = 0
  | 0 => rfl
  | n + 1 => cnt_F n
theorem CM_eq {N : Nat} {kd cl oc : Nat → Int32} {T S : Nat → Bool} {x u : Int64} {y t : Int32} (hV : WV N kd cl oc) (hN : N ≤ 16) (hx : CB N cl T x) (hy : MB N T y) (hu : CB N cl S u) (ht : MB N S t) (gT : ∀ b, b < N → T b = true → ¬ cl b < 0) (gS : ∀ b, b < N → S b = true → ¬ cl b < 0) : (x = u ↔ ∀ b, b < N → T b = S b) ∧ (y = t ↔ ∀ b, b < N → T b = S b) := by
  refine ⟨⟨fun h => ?_, fun h => CB_eq hx hu h⟩, ⟨fun h => ?_, fun h => MB_eq hy ht h⟩⟩
  · subst h; exact CB_inj hV.wi hV.dc gT gS hx hu
  · subst h; exact MB_inj hN hy ht
theorem lv_g (cl : Nat → Int32) (N : Nat) : ∀ b, b < N → lv cl b = true → ¬ cl b < 0 := fun b _ h q => by
  unfold lv at h
  rw [decide_eq_true q] at h
  exact absurd h (by decide)
theorem add1_g {N : Nat} {cl : Nat → Int32} {T : Nat → Bool} (gT : ∀ b, b < N → T b = true → ¬ cl b < 0) {c : Nat} (hc : ¬ cl c < 0) : ∀ b, b < N → add1 T c b = true → ¬ cl b < 0 := fun b hb h => by
  unfold add1 at h
  rw [Bool.or_eq_true, decide_eq_true_eq] at h
  rcases h with g | g
  · exact gT b hb g
  · rw [g]; exact hc
theorem cnt_add1 {N : Nat} {T : Nat → Bool} {b : Nat} (hb : b < N) (h : T b = false) : cnt (add1 T b) N = cnt T N + 1 := by
  refine (cnt_dec (T := add1 T b) (S := T) N b hb (by unfold add1; rw [decide_eq_true rfl, Bool.or_true]) h (fun a ha q => ?_)).symm
  unfold add1
  rw [decide_eq_false q, Bool.or_false]
theorem w_bit {N : Nat} {kd cl oc : Nat → Int32} {T : Nat → Bool} (hV : WV N kd cl oc) (hN : N ≤ 16) {x : Int64} (hx : CB N cl T x) {b : Nat} (hb : b < N) (hl : ¬ cl b < 0) : ∃ v, f_X5_cellBit cl (nI b) = some v ∧ CB N cl (add1 T b) (x ||| v) := by
  rcases (hV.wi.2 b hb).2 with e | ⟨c, hc, e⟩
  · exact absurd (by rw [e]; decide) hl
  · exact ⟨_, w_cellBit (by omega) hc e, CB_add hx hb hc e⟩
theorem g_judge : hy_judge Gd := by
  intro k isk fnd nhour nair nrub nz nnb nkd ncl ngr noc nlit ncold nccell ncpow nsp nwm ndr khour kair krub kz knb kkd kcl kgr koc klit kcold kccell kcpow ksp kwm kdr thour tair trub tz tnb tkd tcl tgr toc tlit tcold tccell tcpow tsp twm tdr tok sta en val tsize tby sbits ssize snum misKept mtaped msort mfrom mto mvalue mbad mm mkept mwas mother mfound mwarm mdrip mtape mbits msize mnumber x1 hk hG
  obtain ⟨⟨N, A, rfl, rfl, hA, hM, hV, hS, hC⟩, hK, hF, hT, hSh⟩ := hG
  have hN := hM.hN
  have hk1 := gd_k k
  unfold f_X6_judge f_X7_judge
  rw [wi_sheet, in_sheet, pu_b1, pu_b1]
  cases hw : wn x1 0 3
  · rw [if_pos bI_f, if_pos bI_f]
    obtain ⟨f', g', t1, t2, t3⟩ := fe1 hF
    rw [t1, t2, pu_b2, pu_b2]
    exact ⟨_, _, _, rfl, rfl, ⟨N, A, rfl, rfl, by omega, hM, hV, hS, hC⟩, hK.mono hk1, t3, hT, hSh⟩
  · obtain ⟨s, s1, s2, s3, rfl⟩ := wn_n hw (by decide)
    have hs : s < 4 := by omega
    obtain ⟨e1, e2, e3, ⟨n, hn, e4⟩, e5⟩ := hSh.1 s hs
    rw [if_neg (show ¬ bI true = 0 by decide), if_neg (show ¬ bI true = 0 by decide), nI_clamp (show s < 2 ^ 31 by omega), ← e1, show b_X6_judge_49 = bl_judge 0 from rfl, show b_X6_judge_49s1 = bl_judge 1 from rfl, show b_X6_judge_49s2 = bl_judge 2 from rfl, show b_X6_judge_49s3 = bl_judge 3 from rfl, sel4 (fun s => (ik_b1 (f_X2_isMissing (sbits s)) (fun r2 => (if r2 = (0 : Int32) then (ik_lp2 (bl_judge s fnd (nI N) nkd ncl ssize snum) ik_fu (0 : Int64) (0 : Int32)) else (ik_b2 (f_X6_tell fnd (-1000006 : Int32)) (fun r3 g4 => (some (r3, g4)))))))) hs rfl rfl rfl rfl, w_missing, pu_b1, pu_gdN hs (by omega), pu_gdN hs (by omega)]
    by_cases c : sbits s = 0
    · rw [if_pos c, decide_eq_true c, if_neg (show ¬ bI true = 0 by decide)]
      obtain ⟨f', g', t1, t2, t3⟩ := fe6 hF
      rw [t1, t2, pu_b2, pu_b2]
      exact ⟨_, _, _, rfl, rfl, ⟨N, A, rfl, rfl, by omega, hM, hV, hS, hC⟩, hK.mono hk1, t3, hT, hSh⟩
    · rw [if_neg c, decide_eq_false c, if_pos bI_f, lp_unc2, lp_unc2]
      obtain ⟨u, hu1, hu2⟩ := w_occ hV hN
      obtain ⟨t, ht1, ht2⟩ := m_there hM
      refine lp_rel (R := (fun p q => ∃ (R : Int32) (fnd_r : Nat → Int32) (mfound_r : Nat → Int32), p = some (R, fnd_r) ∧ q = some (R, mfound_r) ∧ Gd (k + 1) isk fnd_r nhour (nI A) nrub nz (nI N) nkd ncl ngr noc nlit ncold nccell ncpow nsp nwm ndr khour kair krub kz knb kkd kcl kgr koc klit kcold kccell kcpow ksp kwm kdr thour tair trub tz tnb tkd tcl tgr toc tlit tcold tccell tcpow tsp twm tdr tok sta en val tsize tby sbits ssize snum misKept mtaped msort mfrom mto mvalue mbad mm mkept mwas mother mfound_r mwarm mdrip mtape mbits msize mnumber)) (fun i q r => ∃ T x y, q = (x, nI i) ∧ r = (y, nI i) ∧ CB N ncl T x ∧ MB N T y ∧ ∀ b, b < N → T b = true → ¬ ncl b < 0) n ?_ ?_ _ _ ⟨fun _ => false, 0, 0, rfl, rfl, CB_0 (fun _ _ => rfl), MB_0 (fun _ _ => rfl), fun b _ h => absurd h Bool.false_ne_true⟩ _ _ (pu_fu (by omega)) (pu_fu (by omega))
      · rintro i q r hi ⟨T, x, y, rfl, rfl, i1, i2, i3⟩ rc rd - - hc
        dsimp only
        unfold bl_judge b_X7_judge_35
        rw [pu_gdN hs (by omega), nI_clamp (show s < 2 ^ 31 by omega), ← e2, e4, if_neg (nI_ge hi (by omega)), if_neg (nI_ge hi (by omega)), sh_ix, pu_gdN (show 40 * s + i < 160 by omega) (by omega), nI_clamp (show 40 * s + i < 2 ^ 31 by omega), pu_gdN (show i < 40 by omega) (by omega), nI_clamp (show i < 2 ^ 31 by omega), ← e5 i (by omega), w_isBlock hN, m_isBlock hM.rm, pu_b1, pu_b1]
        cases hw2 : wn (snum s i) 0 (N - 1 : Int)
        · rw [if_pos bI_f, if_pos bI_f]
          exact ⟨_, _, _, rfl, rfl, ⟨N, A, rfl, rfl, by omega, hM, hV, hS, hC⟩, hK.mono hk1, hF, hT, hSh⟩
        · obtain ⟨b, b1, b2, b3, eb⟩ := wn_n hw2 (by decide)
          have hb : b < N := by omega
          rw [if_neg (show ¬ bI true = 0 by decide), if_neg (show ¬ bI true = 0 by decide), eb, w_comer hV hN i1 i3 hb, m_gone hM.rm (by omega), pu_b1, pu_b1]
          by_cases hl : ncl b < 0
          · rw [decide_eq_true hl, if_neg (show ¬ bI true = 0 by decide), com_G i3 hl, if_pos bI_f]
            exact ⟨_, _, _, rfl, rfl, ⟨N, A, rfl, rfl, by omega, hM, hV, hS, hC⟩, hK.mono hk1, hF, hT, hSh⟩
          · have hlv : lv ncl b = true := by unfold lv; rw [decide_eq_false hl]; rfl
            rw [decide_eq_false hl, if_pos bI_f, pu_has (by omega), i2 b (by omega), decide_eq_true hb, Bool.true_and, pu_b1]
            cases hTb : T b
            · rw [if_pos bI_f, m_comer hM.rm hV i2 hb (by rw [hlv, hTb]; rfl), pu_b1, nI_1]
              cases hcm : com N nkd ncl T b
              · rw [if_pos bI_f, if_pos bI_f]
                exact ⟨_, _, _, rfl, rfl, ⟨N, A, rfl, rfl, by omega, hM, hV, hS, hC⟩, hK.mono hk1, hF, hT, hSh⟩
              · obtain ⟨v, v1, v2⟩ := w_bit hV hN i1 hb hl
                rw [if_neg (show ¬ bI true = 0 by decide), if_neg (show ¬ bI true = 0 by decide), v1, pu_b1]
                exact hc _ _ ⟨_, _, _, rfl, rfl, v2, MB_add i2 hb hN, add1_g i3 hl⟩
            · rw [if_neg (show ¬ bI true = 0 by decide), com_T hTb, if_pos bI_f]
              exact ⟨_, _, _, rfl, rfl, ⟨N, A, rfl, rfl, by omega, hM, hV, hS, hC⟩, hK.mono hk1, hF, hT, hSh⟩
      · rintro q r ⟨T, x, y, rfl, rfl, i1, i2, i3⟩ rc rd
        obtain ⟨q1, q2⟩ := CM_eq hV hN i1 i2 hu2 ht2 i3 (lv_g ncl N)
        dsimp only
        unfold bl_judge b_X7_judge_35
        rw [pu_gdN hs (by omega), nI_clamp (show s < 2 ^ 31 by omega), ← e2, e4, if_pos (nI_le (Nat.le_refl _) (by omega)), if_pos (nI_le (Nat.le_refl _) (by omega)), hu1, ht1, pu_b1, pu_b1]
        by_cases g : ∀ b, b < N → T b = lv ncl b
        · rw [if_pos ((lg0 _ _).mpr (q1.mpr g)), if_pos (q2.mpr g)]
          exact ⟨_, _, _, rfl, rfl, ⟨N, A, rfl, rfl, by omega, hM, hV, hS, hC⟩, hK.mono hk1, hF, hT, hSh⟩
        · rw [if_neg (fun h => g (q1.mp ((lg0 _ _).mp h))), if_neg (fun h => g (q2.mp h))]
          exact ⟨_, _, _, rfl, rfl, ⟨N, A, rfl, rfl, by omega, hM, hV, hS, hC⟩, hK.mono hk1, hF, hT, hSh⟩
theorem ord_in {mm gr kd cl oc : Nat → Int32} {N : Nat} {T : Nat → Bool} (h : RM mm N kd cl gr) (hV : WV N kd cl oc) (hN : N ≤ 16) {y t : Int32} (hy : MB N T y) (ht1 : f_X7_there mm = some t) (ht : MB N (lv cl) t) (mfound : Nat → Int32) (x1 z i : Int32) (rc : Int32 → Int32 → Int32 → Option (Int32 × (Nat → Int32))) : ik_lp2 (b_X7_order_50 mm mfound x1 y z i rc) ik_fu (-1) (nI N - 1) = b_X7_order_50 mm mfound x1 y z i rc (fun _ _ => none) (low (com N kd cl T) N N) (-1) := by
  refine lp_for2 (low (com N kd cl T) N) (fun d => nI (N - d) - 1) _ N (fun rc' d hd => ?_) (fun rc' => ?_) (pu_fu (by omega))
  · have es : nI (N - d) - 1 = nI (N - (d + 1)) := pk_sub (b := 1) (by omega)
    have es2 : nI (N - (d + 1)) + -1 = nI (N - (d + 1)) - 1 := (i_sub1 _).symm
    have hb : N - (d + 1) < N := by omega
    have el : low (com N kd cl T) N (d + 1) = if com N kd cl T (N - (d + 1)) then nI (N - (d + 1)) else low (com N kd cl T) N d := rfl
    unfold b_X7_order_50
    rw [es, if_neg (nI_pos (by omega)), ht1, pu_b1, m_hasn hN hy ht hb, pu_b1, es2]
    cases hh : (lv cl (N - (d + 1)) && !T (N - (d + 1)))
    · rw [if_pos bI_f, el, com_n hh]; rfl
    · rw [if_neg (show ¬ bI true = 0 by decide), m_comer h hV hy hb hh, pu_b1, el]
      cases com N kd cl T (N - (d + 1))
      · rw [if_pos bI_f]; rfl
      · rw [if_neg (show ¬ bI true = 0 by decide)]; rfl
  · have es : nI (N - N) - 1 = -1 := by rw [Nat.sub_self]; rfl
    rw [es]
    unfold b_X7_order_50
    rw [if_pos (show (-1 : Int32) < 0 by decide), if_pos (show (-1 : Int32) < 0 by decide)]
theorem wi_0_15 (x : Int32) : f_X6_isWithin x 0 15 = some (bI (wn x 0 15)) := pu_within x 0 15
theorem in_0_15 (x : Int32) : f_X7_in x.toInt64 0 15 = some (bI (wn x 0 15)) := pu_in32 x 0 15
theorem g_order : hy_order Gd := by
  intro k isk fnd nhour nair nrub nz nnb nkd ncl ngr noc nlit ncold nccell ncpow nsp nwm ndr khour kair krub kz knb kkd kcl kgr koc klit kcold kccell kcpow ksp kwm kdr thour tair trub tz tnb tkd tcl tgr toc tlit tcold tccell tcpow tsp twm tdr tok sta en val tsize tby sbits ssize snum misKept mtaped msort mfrom mto mvalue mbad mm mkept mwas mother mfound mwarm mdrip mtape mbits msize mnumber x1 hk hG
  obtain ⟨⟨N, A, rfl, rfl, hA, hM, hV, hS, hC⟩, hK, hF, hT, hSh⟩ := hG
  have hN := hM.hN
  have hk1 := gd_k k
  unfold f_X6_order f_X7_order
  rw [wi_0_15, in_0_15, pu_b1, pu_b1]
  cases hw : wn x1 0 15
  · rw [if_pos bI_f, if_pos bI_f]
    obtain ⟨f', g', t1, t2, t3⟩ := fe1 hF
    rw [t1, t2, pu_b2, pu_b2]
    exact ⟨_, _, _, rfl, rfl, ⟨N, A, rfl, rfl, by omega, hM, hV, hS, hC⟩, hK.mono hk1, t3, hT, hSh⟩
  · obtain ⟨u, hu1, hu2⟩ := w_occ hV hN
    obtain ⟨t, ht1, ht2⟩ := m_there hM
    rw [if_neg (show ¬ bI true = 0 by decide), if_neg (show ¬ bI true = 0 by decide), hu1, pu_b1, lp_unc4, lp_unc3]
    have hend : ∀ a : Int32, (a = -1 ∨ ∃ b, b < 16 ∧ a = nI b) → (fun p q => ∃ (R : Int32) (fnd_r : Nat → Int32) (mfound_r : Nat → Int32), p = some (R, fnd_r) ∧ q = some (R, mfound_r) ∧ Gd (k + 1) isk fnd_r nhour (nI A) nrub nz (nI N) nkd ncl ngr noc nlit ncold nccell ncpow nsp nwm ndr khour kair krub kz knb kkd kcl kgr koc klit kcold kccell kcpow ksp kwm kdr thour tair trub tz tnb tkd tcl tgr toc tlit tcold tccell tcpow tsp twm tdr tok sta en val tsize tby sbits ssize snum misKept mtaped msort mfrom mto mvalue mbad mm mkept mwas mother mfound_r mwarm mdrip mtape mbits msize mnumber) (if (0 : Int32) ≤ a then some (a, fnd) else ik_b2 (f_X6_tell fnd (-1000004)) (fun r3 g4 => some (r3, g4))) (ik_b2 (f_X7_orNone mfound a) (fun r3 g4 => some (r3, g4))) := by
      intro a ha
      unfold f_X7_orNone
      rcases ha with rfl | ⟨b, hb, rfl⟩
      · obtain ⟨f', g', t1, t2, t3⟩ := fe4 hF
        rw [if_neg (show ¬ (0 : Int32) ≤ -1 by decide), if_neg (show ¬ (0 : Int32) ≤ -1 by decide), t1, t2, pu_b2, pu_b2, pu_b2]
        exact ⟨_, _, _, rfl, rfl, ⟨N, A, rfl, rfl, by omega, hM, hV, hS, hC⟩, hK.mono hk1, t3, hT, hSh⟩
      · rw [if_pos (nI_pos' (by omega)), if_pos (nI_pos' (by omega)), pu_b2]
        exact ⟨_, _, _, rfl, rfl, ⟨N, A, rfl, rfl, by omega, hM, hV, hS, hC⟩, hK.mono hk1, hF, hT, hSh⟩
    refine lp_rel (R := (fun p q => ∃ (R : Int32) (fnd_r : Nat → Int32) (mfound_r : Nat → Int32), p = some (R, fnd_r) ∧ q = some (R, mfound_r) ∧ Gd (k + 1) isk fnd_r nhour (nI A) nrub nz (nI N) nkd ncl ngr noc nlit ncold nccell ncpow nsp nwm ndr khour kair krub kz knb kkd kcl kgr koc klit kcold kccell kcpow ksp kwm kdr thour tair trub tz tnb tkd tcl tgr toc tlit tcold tccell tcpow tsp twm tdr tok sta en val tsize tby sbits ssize snum misKept mtaped msort mfrom mto mvalue mbad mm mkept mwas mother mfound_r mwarm mdrip mtape mbits msize mnumber)) (fun i q r => ∃ T x y a, q = (fnd, x, a, nI i) ∧ r = (y, a, nI i) ∧ CB N ncl T x ∧ MB N T y ∧ (∀ b, b < N → T b = true → ¬ ncl b < 0) ∧ cnt T N = i ∧ (a = -1 ∨ ∃ b, b < 16 ∧ a = nI b)) N ?_ ?_ _ _ ⟨fun _ => false, 0, 0, -1, rfl, rfl, CB_0 (fun _ _ => rfl), MB_0 (fun _ _ => rfl), fun b _ h => absurd h Bool.false_ne_true, cnt_F N, Or.inl rfl⟩ _ _ (pu_fu (by omega)) (pu_fu (by omega))
    · rintro i q r hi ⟨T, x, y, a, rfl, rfl, i1, i2, i3, i4, i5⟩ rc rd - - hc
      obtain ⟨q1, q2⟩ := CM_eq hV hN i1 i2 hu2 ht2 i3 (lv_g ncl N)
      dsimp only
      unfold b_X6_order_39 b_X7_order_26
      rw [if_neg (show ¬ (16 : Int32) ≤ nI i from nI_ge (b := 16) (by omega) (by omega)), pu_c5, hM.h5, if_neg (nI_ge hi (by omega)), ord_in hM.rm hV hN i2 ht1 ht2]
      unfold b_X7_order_50
      rw [if_pos (show (-1 : Int32) < 0 by decide), ht1, pu_b1]
      by_cases g : ∀ b, b < N → T b = lv ncl b
      · have hlow : low (com N nkd ncl T) N N = -1 := by
          rcases low_cases (com N nkd ncl T) N N (Nat.le_refl N) with ⟨h1, -⟩ | ⟨b, -, hb, h3, -⟩
          · exact h1
          · obtain ⟨k1, k2⟩ := com_lv h3
            rw [g b hb, k1] at k2
            exact absurd k2 (by decide)
        rw [if_pos ((lg0 _ _).mpr (q1.mpr g)), hlow, if_neg (show ¬ (0 : Int32) ≤ -1 by decide), if_pos (q2.mpr g)]
        exact hend a i5
      · rw [if_neg (fun h => g (q1.mp ((lg0 _ _).mp h))), show (0 : Int32) = nI 0 from rfl, w_next hV hN i1 i3 (Nat.zero_le N), Nat.sub_zero, pu_b1, nI_0]
        rcases low_cases (com N nkd ncl T) N N (Nat.le_refl N) with ⟨h1, -⟩ | ⟨b, -, hb, h3, h4, -⟩
        · obtain ⟨f', g', t1, t2, t3⟩ := fe4 hF
          rw [h1, if_neg (show ¬ (0 : Int32) ≤ -1 by decide), if_neg (show ¬ (0 : Int32) ≤ -1 by decide), if_neg (fun h => g (q2.mp h)), t1, t2, pu_b2, pu_b2]
          exact ⟨_, _, _, rfl, rfl, ⟨N, A, rfl, rfl, by omega, hM, hV, hS, hC⟩, hK.mono hk1, t3, hT, hSh⟩
        · obtain ⟨k1, k2⟩ := com_lv h3
          have hl := lv_g ncl N b hb k1
          obtain ⟨v, v1, v2⟩ := w_bit hV hN i1 hb hl
          rw [h4, if_pos (nI_pos' (by omega)), if_pos (nI_pos' (by omega)), v1, pu_b1, pu_b1, nI_1]
          by_cases e : nI i = x1
          · rw [if_pos e, if_pos e]
            exact hc _ _ ⟨_, _, _, _, rfl, rfl, v2, MB_add i2 hb hN, add1_g i3 hl, by rw [cnt_add1 hb k2, i4], Or.inr ⟨b, by omega, rfl⟩⟩
          · rw [if_neg e, if_neg e]
            exact hc _ _ ⟨_, _, _, _, rfl, rfl, v2, MB_add i2 hb hN, add1_g i3 hl, by rw [cnt_add1 hb k2, i4], i5⟩
    · rintro q r ⟨T, x, y, a, rfl, rfl, i1, i2, i3, i4, i5⟩ rc rd
      obtain ⟨q1, q2⟩ := CM_eq hV hN i1 i2 hu2 ht2 i3 (lv_g ncl N)
      have g : ∀ b, b < N → T b = lv ncl b := fun b hb => by
        have hTb := cnt_full N i4 b hb
        rw [hTb]
        unfold lv
        rw [decide_eq_false (i3 b hb hTb)]
        rfl
      dsimp only
      unfold b_X6_order_39 b_X7_order_26
      rw [if_pos ((lg0 _ _).mpr (q1.mpr g)), ite_self, pu_c5, hM.h5, if_pos (nI_le (Nat.le_refl _) (by omega)), ht1, pu_b1, if_pos (q2.mpr g)]
      exact hend a i5
theorem stp_in {mm gr kd cl oc : Nat → Int32} {N L : Nat} {T : Nat → Bool} (h : RM mm N kd cl gr) (h5 : mm 5 = nI N) (hV : WV N kd cl oc) (hN : N ≤ 16) (hL : L < 2 ^ 31) {y t : Int32} (hy : MB N T y) (ht1 : f_X7_there mm = some t) (ht : MB N (lv cl) t) (mfound : Nat → Int32) (z : Int32) (rc : (Nat → Int32) → Int32 → Int32 → Option (Int32 × (Nat → Int32))) : ik_lp2 (b_X7_steps_37 mm (nI L) mfound y z rc) ik_fu 0 0 = (if mk (tk (com N kd cl T) L) N = 0 then ik_b2 (f_X7_finds mfound (-1000004)) (fun r3 g4 => some (r3, g4)) else rc mfound (y ||| mk (tk (com N kd cl T) L) N) (z + 1)) := by
  refine lp_for2 (mk (tk (com N kd cl T) L)) nI _ N (fun rc' j hj => ?_) (fun rc' => ?_) (pu_fu (by omega))
  · have el : mk (tk (com N kd cl T) L) (j + 1) = if (com N kd cl T j && decide (cnt (com N kd cl T) j < L)) then mk (tk (com N kd cl T) L) j ||| ((1 : Int32) <<< (nI j &&& 31)) else mk (tk (com N kd cl T) L) j := rfl
    unfold b_X7_steps_37
    rw [pu_c5, h5, if_neg (nI_ge hj (by omega)), ht1, pu_b1, m_hasn hN hy ht hj, pu_b1, nI_1, or0]
    cases hh : (lv cl j && !T j)
    · rw [if_pos bI_f, el, com_n hh]; rfl
    · rw [if_neg (show ¬ bI true = 0 by decide), m_many, pu_b1, mk_cnt _ (by omega), cnt_tk, m_comer h hV hy hj hh, pu_b1]
      by_cases g : cnt (com N kd cl T) j < L
      · rw [if_neg (nI_ge (by omega) hL), el, decide_eq_true g]
        cases com N kd cl T j
        · rw [if_pos bI_f]; rfl
        · rw [if_neg (show ¬ bI true = 0 by decide)]; rfl
      · rw [if_pos (nI_le (by omega) (by omega)), el, decide_eq_false g, Bool.and_false]; rfl
  · unfold b_X7_steps_37
    rw [pu_c5, h5, if_pos (nI_le (Nat.le_refl _) (by omega))]
theorem w_comers {N L : Nat} {kd cl oc : Nat → Int32} {T : Nat → Bool} (hV : WV N kd cl oc) (hN : N ≤ 16) (hL : L < 100) {y : Int64} (hy : CB N cl T y) (gT : ∀ b, b < N → T b = true → ¬ cl b < 0) : ∃ z, f_X5_comers (nI N) kd cl y (nI L) = some z ∧ CB N cl (tk (com N kd cl T) L) z := by
  unfold f_X5_comers
  rw [lp_unc3]
  refine lp_relR (R := fun p => ∃ z, p = some z ∧ CB N cl (tk (com N kd cl T) L) z) (fun i q => ∃ s z, q = (z, nI s, nI i) ∧ s ≤ N ∧ cnt (com N kd cl T) s = i ∧ CB N cl (fun b => decide (b < s) && com N kd cl T b) z) L ?_ ?_ _ ⟨0, 0, rfl, Nat.zero_le _, rfl, CB_0 (fun b _ => by rw [decide_eq_false (by omega), Bool.false_and])⟩ _ (pu_fu (by omega))
  · rintro i q hi ⟨s, z, rfl, hs, i1, i2⟩ rd - hc
    dsimp only
    unfold b_X5_comers_9
    rw [if_neg (nI_ge hi (by omega)), w_next hV hN hy gT hs, pu_b1]
    rcases low_cases (com N kd cl T) N (N - s) (by omega) with ⟨h1, h2⟩ | ⟨b, h1, hb, h3, h4, h5⟩
    · rw [h1, if_neg (show ¬ (0 : Int32) ≤ -1 by decide)]
      refine ⟨z, rfl, CB_cg i2 (fun b hb => ?_)⟩
      unfold tk
      by_cases g : b < s
      · obtain ⟨d, rfl⟩ : ∃ d, s = b + 1 + d := ⟨s - (b + 1), by omega⟩
        have hu := cnt_up (com N kd cl T) (a := b + 1) d
        cases hcm : com N kd cl T b
        · rw [Bool.and_false, Bool.false_and]
        · have : cnt (com N kd cl T) (b + 1) = cnt (com N kd cl T) b + 1 := by
            show cnt (com N kd cl T) b + (if com N kd cl T b then 1 else 0) = _
            rw [hcm]; rfl
          rw [decide_eq_true g, decide_eq_true (by omega)]
      · rw [h2 b (by omega) hb, Bool.and_false, Bool.false_and]
    · obtain ⟨k1, k2⟩ := com_lv h3
      have hl := lv_g cl N b hb k1
      obtain ⟨v, v1, v2⟩ := w_bit hV hN i2 hb hl
      rw [h4, if_pos (nI_pos' (by omega)), v1, pu_b1, nI_1, nI_1]
      have hcb : cnt (com N kd cl T) b = i := by
        obtain ⟨d, rfl⟩ : ∃ d, b = s + d := ⟨b - s, by omega⟩
        rw [cnt_skip d (fun a g1 g2 => h5 a (by omega) (by omega)), i1]
      refine hc _ ⟨b + 1, _, rfl, by omega, ?_, CB_cg v2 (fun a ha => ?_)⟩
      · show cnt (com N kd cl T) b + (if com N kd cl T b then 1 else 0) = _
        rw [h3, hcb]; rfl
      · show ((decide (a < s) && com N kd cl T a) || decide (a = b)) = (decide (a < b + 1) && com N kd cl T a)
        by_cases e : a = b
        · rw [e, h3, decide_eq_true rfl, decide_eq_true (show b < b + 1 by omega), Bool.or_true]; rfl
        · rw [decide_eq_false e, Bool.or_false]
          by_cases g : a < s
          · rw [decide_eq_true g, decide_eq_true (show a < b + 1 by omega)]
          · rw [decide_eq_false g]
            by_cases g2 : a < b
            · rw [h5 a (by omega) g2, Bool.and_false, Bool.and_false]
            · rw [decide_eq_false (show ¬ a < b + 1 by omega)]
  · rintro q ⟨s, z, rfl, hs, i1, i2⟩ rd
    dsimp only
    unfold b_X5_comers_9
    rw [if_pos (nI_le (Nat.le_refl _) (by omega))]
    refine ⟨z, rfl, CB_cg i2 (fun b hb => ?_)⟩
    unfold tk
    by_cases g : b < s
    · obtain ⟨d, rfl⟩ : ∃ d, s = b + 1 + d := ⟨s - (b + 1), by omega⟩
      have hu := cnt_up (com N kd cl T) (a := b + 1) d
      cases hcm : com N kd cl T b
      · rw [Bool.and_false, Bool.false_and]
      · have : cnt (com N kd cl T) (b + 1) = cnt (com N kd cl T) b + 1 := by
          show cnt (com N kd cl T) b + (if com N kd cl T b then 1 else 0) = _
          rw [hcm]; rfl
        rw [decide_eq_true g, decide_eq_true (by omega)]
    · obtain ⟨d, rfl⟩ : ∃ d, b = s + d := ⟨b - s, by omega⟩
      have hu := cnt_up (com N kd cl T) (a := s) d
      rw [decide_eq_false g, decide_eq_false (by omega), Bool.and_false, Bool.false_and]
theorem CB_or {N : Nat} {cl : Nat → Int32} {T S : Nat → Bool} {x y : Int64} (hx : CB N cl T x) (hy : CB N cl S y) : CB N cl (fun b => T b || S b) (x ||| y) := by
  intro c hc
  rw [lb_or, hx c hc, hy c hc]
  have : onB N cl (fun b => T b || S b) (nI c) = (onB N cl T (nI c) || onB N cl S (nI c)) := by
    rw [Bool.eq_iff_iff, Bool.or_eq_true, onB_t, onB_t, onB_t]
    constructor
    · rintro ⟨b, h1, h2, h3⟩
      rw [Bool.or_eq_true] at h2
      rcases h2 with g | g
      · exact Or.inl ⟨b, h1, g, h3⟩
      · exact Or.inr ⟨b, h1, g, h3⟩
    · rintro (⟨b, h1, h2, h3⟩ | ⟨b, h1, h2, h3⟩)
      · exact ⟨b, h1, by rw [h2]; rfl, h3⟩
      · exact ⟨b, h1, by rw [h2, Bool.or_true], h3⟩
  rw [this]
  cases decide (c < 48) <;> rfl
theorem MB_or {N : Nat} {T S : Nat → Bool} {x y : Int32} (hx : MB N T x) (hy : MB N S y) : MB N (fun b => T b || S b) (x ||| y) := by
  intro b hb
  rw [b_or, hx b hb, hy b hb]
  cases decide (b < N) <;> rfl
theorem wi_1_8 (x : Int32) : f_X6_isWithin x 1 8 = some (bI (wn x 1 8)) := pu_within x 1 8
theorem in_1_8 (x : Int32) : f_X7_in x.toInt64 1 8 = some (bI (wn x 1 8)) := pu_in32 x 1 8
theorem stp_stuck (fnd : Nat → Int32) {N L : Nat} {kd cl : Nat → Int32} {x u : Int64} (hz : f_X5_comers (nI N) kd cl x (nI L) = some 0) (hne : ¬ x = u) : ∀ d i, i + d = 17 → ∀ n, d < n → ik_lp2 (b_X6_steps_34 fnd (nI N) kd cl (nI L) u) n x (nI i) = ik_b2 (f_X6_tell fnd (-1000004)) (fun r3 g4 => some (r3, g4))
  | 0, i, hi, n, hn => by
    obtain ⟨n, rfl⟩ := Nat.exists_eq_succ_of_ne_zero (show n ≠ 0 by omega)
    show b_X6_steps_34 fnd (nI N) kd cl (nI L) u _ x (nI i) = _
    unfold b_X6_steps_34
    rw [if_pos (show (16 : Int32) < nI i from nI_lt (a := 16) (by omega) (by omega))]
  | d + 1, i, hi, n, hn => by
    obtain ⟨n, rfl⟩ := Nat.exists_eq_succ_of_ne_zero (show n ≠ 0 by omega)
    have ih := stp_stuck fnd hz hne d (i + 1) (by omega) n (by omega)
    have e : ∀ rc, b_X6_steps_34 fnd (nI N) kd cl (nI L) u rc x (nI i) = rc x (nI (i + 1)) := by
      intro rc
      unfold b_X6_steps_34
      rw [if_neg (show ¬ (16 : Int32) < nI i from nI_nlt (a := 16) (by omega) (by omega)), if_neg (fun h => hne ((lg0 _ _).mp h)), hz, pu_b1, lor0, nI_1]
    show b_X6_steps_34 fnd (nI N) kd cl (nI L) u _ x (nI i) = _
    rw [e, ih]
theorem g_steps : hy_steps Gd := by
  intro k isk fnd nhour nair nrub nz nnb nkd ncl ngr noc nlit ncold nccell ncpow nsp nwm ndr khour kair krub kz knb kkd kcl kgr koc klit kcold kccell kcpow ksp kwm kdr thour tair trub tz tnb tkd tcl tgr toc tlit tcold tccell tcpow tsp twm tdr tok sta en val tsize tby sbits ssize snum misKept mtaped msort mfrom mto mvalue mbad mm mkept mwas mother mfound mwarm mdrip mtape mbits msize mnumber x1 hk hG
  obtain ⟨⟨N, A, rfl, rfl, hA, hM, hV, hS, hC⟩, hK, hF, hT, hSh⟩ := hG
  have hN := hM.hN
  have hk1 := gd_k k
  unfold f_X6_steps f_X7_steps
  rw [wi_1_8, in_1_8, pu_b1, pu_b1]
  cases hw : wn x1 1 8
  · rw [if_pos bI_f, if_pos bI_f]
    obtain ⟨f', g', t1, t2, t3⟩ := fe1 hF
    rw [t1, t2, pu_b2, pu_b2]
    exact ⟨_, _, _, rfl, rfl, ⟨N, A, rfl, rfl, by omega, hM, hV, hS, hC⟩, hK.mono hk1, t3, hT, hSh⟩
  · obtain ⟨L, n1, n2, n3, rfl⟩ := wn_n hw (by decide)
    obtain ⟨u, hu1, hu2⟩ := w_occ hV hN
    obtain ⟨t, ht1, ht2⟩ := m_there hM
    rw [if_neg (show ¬ bI true = 0 by decide), if_neg (show ¬ bI true = 0 by decide), hu1, pu_b1]
    have key : ∀ d i, i + d = 17 → ∀ T x y, CB N ncl T x → MB N T y → (∀ b, b < N → T b = true → ¬ ncl b < 0) → i ≤ cnt T N → ∀ n m, d < n → d < m → (fun p q => ∃ (R : Int32) (fnd_r : Nat → Int32) (mfound_r : Nat → Int32), p = some (R, fnd_r) ∧ q = some (R, mfound_r) ∧ Gd (k + 1) isk fnd_r nhour (nI A) nrub nz (nI N) nkd ncl ngr noc nlit ncold nccell ncpow nsp nwm ndr khour kair krub kz knb kkd kcl kgr koc klit kcold kccell kcpow ksp kwm kdr thour tair trub tz tnb tkd tcl tgr toc tlit tcold tccell tcpow tsp twm tdr tok sta en val tsize tby sbits ssize snum misKept mtaped msort mfrom mto mvalue mbad mm mkept mwas mother mfound_r mwarm mdrip mtape mbits msize mnumber) (ik_lp2 (b_X6_steps_34 fnd (nI N) nkd ncl (nI L) u) n x (nI i)) (ik_lp3 (b_X7_steps_23 mm (nI L)) m mfound y (nI i)) := by
      intro d
      induction d with
      | zero =>
        intro i hi T x y i1 i2 i3 i4
        have := cnt_le T N
        omega
      | succ d ih =>
        intro i hi T x y i1 i2 i3 i4 n m hn hm
        obtain ⟨n, rfl⟩ := Nat.exists_eq_succ_of_ne_zero (show n ≠ 0 by omega)
        obtain ⟨m, rfl⟩ := Nat.exists_eq_succ_of_ne_zero (show m ≠ 0 by omega)
        obtain ⟨q1, q2⟩ := CM_eq hV hN i1 i2 hu2 ht2 i3 (lv_g ncl N)
        obtain ⟨z, z1, z2⟩ := w_comers hV hN (show L < 100 by omega) i1 i3
        have h16 : ¬ (16 : Int32) < nI i := nI_nlt (a := 16) (by omega) (by omega)
        have ec : ∀ rc, b_X6_steps_34 fnd (nI N) nkd ncl (nI L) u rc x (nI i) = (if lg_cmp x u = 0 then some (nI i, fnd) else rc (x ||| z) (nI (i + 1))) := by
          intro rc
          unfold b_X6_steps_34
          rw [if_neg h16, z1, pu_b1, nI_1]
        have em : ∀ rc, b_X7_steps_23 mm (nI L) rc mfound y (nI i) = (if y = t then some (nI i, mfound) else if mk (tk (com N nkd ncl T) L) N = 0 then ik_b2 (f_X7_finds mfound (-1000004)) (fun r3 g4 => some (r3, g4)) else rc mfound (y ||| mk (tk (com N nkd ncl T) L) N) (nI (i + 1))) := by
          intro rc
          unfold b_X7_steps_23
          rw [ht1, pu_b1, stp_in hM.rm hM.h5 hV hN n3 i2 ht1 ht2, nI_1]
        show (fun p q => ∃ (R : Int32) (fnd_r : Nat → Int32) (mfound_r : Nat → Int32), p = some (R, fnd_r) ∧ q = some (R, mfound_r) ∧ Gd (k + 1) isk fnd_r nhour (nI A) nrub nz (nI N) nkd ncl ngr noc nlit ncold nccell ncpow nsp nwm ndr khour kair krub kz knb kkd kcl kgr koc klit kcold kccell kcpow ksp kwm kdr thour tair trub tz tnb tkd tcl tgr toc tlit tcold tccell tcpow tsp twm tdr tok sta en val tsize tby sbits ssize snum misKept mtaped msort mfrom mto mvalue mbad mm mkept mwas mother mfound_r mwarm mdrip mtape mbits msize mnumber) (b_X6_steps_34 fnd (nI N) nkd ncl (nI L) u (ik_lp2 (b_X6_steps_34 fnd (nI N) nkd ncl (nI L) u) n) x (nI i)) (b_X7_steps_23 mm (nI L) (ik_lp3 (b_X7_steps_23 mm (nI L)) m) mfound y (nI i))
        rw [ec, em]
        by_cases g : ∀ b, b < N → T b = lv ncl b
        · rw [if_pos ((lg0 _ _).mpr (q1.mpr g)), if_pos (q2.mpr g)]
          exact ⟨_, _, _, rfl, rfl, ⟨N, A, rfl, rfl, by omega, hM, hV, hS, hC⟩, hK.mono hk1, hF, hT, hSh⟩
        · rw [if_neg (fun h => g (q1.mp ((lg0 _ _).mp h))), if_neg (fun h => g (q2.mp h))]
          by_cases h0 : mk (tk (com N nkd ncl T) L) N = 0
          · have hall := (mk_0 hN).mp h0
            have ez : z = 0 := CB_eq z2 (CB_0 (T := fun _ => false) (fun _ _ => rfl)) hall
            obtain ⟨f', g', t1, t2, t3⟩ := fe4 hF
            rw [if_pos h0, ez, lor0, stp_stuck fnd (by rw [z1, ez]) (fun h => g (q1.mp h)) d (i + 1) (by omega) n (by omega), t1, t2, pu_b2, pu_b2]
            exact ⟨_, _, _, rfl, rfl, ⟨N, A, rfl, rfl, by omega, hM, hV, hS, hC⟩, hK.mono hk1, t3, hT, hSh⟩
          · rw [if_neg h0]
            have hex : ∃ b, b < N ∧ tk (com N nkd ncl T) L b = true := by
              apply Classical.byContradiction
              intro hno
              exact h0 ((mk_0 hN).mpr (fun b hb => by
                cases hb2 : tk (com N nkd ncl T) L b
                · rfl
                · exact absurd ⟨b, hb, hb2⟩ hno))
            have htk : ∀ b, tk (com N nkd ncl T) L b = true → com N nkd ncl T b = true := fun b h => by
              unfold tk at h
              rw [Bool.and_eq_true] at h
              exact h.1
            refine ih (i + 1) (by omega) (fun b => T b || tk (com N nkd ncl T) L b) _ _ (CB_or i1 z2) (MB_or i2 (mk_MB _ hN)) (fun b hb h => ?_) ?_ n m (by omega) (by omega)
            · have h' : (T b || tk (com N nkd ncl T) L b) = true := h
              rw [Bool.or_eq_true] at h'
              rcases h' with q | q
              · exact i3 b hb q
              · exact lv_g ncl N b hb (com_lv (htk b q)).1
            · obtain ⟨b, hb, hbt⟩ := hex
              have := cnt_lt (T := T) (S := fun b => T b || tk (com N nkd ncl T) L b) N (fun a _ h => by show (T a || _) = true; rw [h]; rfl) ⟨b, hb, by show (T b || _) = true; rw [hbt, Bool.or_true], (com_lv (htk b hbt)).2⟩
              omega
    exact key 17 0 (by omega) (fun _ => false) 0 0 (CB_0 (fun _ _ => rfl)) (MB_0 (fun _ _ => rfl)) (fun b _ h => absurd h Bool.false_ne_true) (Nat.zero_le _) _ _ (pu_fu (by omega)) (pu_fu (by omega))
