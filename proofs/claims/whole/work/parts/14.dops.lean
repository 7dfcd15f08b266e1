/-! calls that try -/
theorem held_both {hour rub z : Int32} {A N : Nat} {kd cl gr oc : Nat → Int32} {lit cold : Int32} {ccell cpow sp mm : Nat → Int32} (hM : MS mm hour cold (nI A) rub z N kd cl gr lit ccell cpow sp) (hV : WV N kd cl oc) (hS : GS N cl gr) (hC : CI cold ccell cpow) {n : Nat} (hn : n < 200) (hA : A < 100000000) (wm dr mwas mwarm mdrip : Nat → Int32) :
    ∃ (x : Nat) (hr' air' rb' : Int32) (cl' gr' oc' wm' dr' m' W' md' : Nat → Int32), x ≤ n ∧ f_X1_hoursHeld hour (nI A) rub (nI N) kd cl gr oc lit cold ccell cpow wm dr (nI n) = some (nI x, hr', air', rb', cl', gr', oc', wm', dr') ∧ f_X7_held mm mwas mwarm mdrip (nI n) = some (nI x, fw (fw mm mwas 82) m' 82, fw mm mwas 82, W', md') := by
  have hN := hM.hN
  obtain ⟨hr, A', rb, cl2, gr2, oc2, dr2, v, mm', W, md, ⟨e1, e2, e3, e4, e5, e6, e7, e8, e9, e10⟩, hq⟩ := hq_ex hM hV hS hC (M := n) (by omega) (wm := fw (fv cl lit cold ccell cpow) wm N) (fun b hb _ => fw_at N b hb) dr mwarm mdrip
  obtain ⟨hr', air', rb', cl', gr', oc', dr', w⟩ := w_held hq (Nat.le_refl n) (by omega)
  obtain ⟨m', W', md', u⟩ := m_held hq (Nat.le_refl n) (by omega) mwas
  rw [e1, e2, e3, e4, e5, e6, e7] at w
  rw [e8, e9, e10] at u
  refine ⟨fst v n, hr', air', rb', cl', gr', oc', fw (fv cl lit cold ccell cpow) wm N, dr', m', W', md', fst_le v n, ?_, u⟩
  unfold f_X1_hoursHeld
  rw [w_feel hN hV.wi hC, pu_b1, w]
theorem gone_both {hour rub z : Int32} {A N : Nat} {kd cl gr oc : Nat → Int32} {lit cold : Int32} {ccell cpow sp mm : Nat → Int32} (hM : MS mm hour cold (nI A) rub z N kd cl gr lit ccell cpow sp) (hV : WV N kd cl oc) (hS : GS N cl gr) (hC : CI cold ccell cpow) {b n : Nat} (hb : b < N) (hl : ¬ cl b < 0) (hn : n < 200) (hA : A < 100000000) (wm dr mwas mwarm mdrip : Nat → Int32) :
    ∃ (x : Nat) (hr' air' rb' : Int32) (cl' gr' oc' wm' dr' m' W' md' : Nat → Int32), x ≤ n + 1 ∧ f_X1_goneIn hour (nI A) rub (nI N) kd cl gr oc lit cold ccell cpow wm dr (nI b) (nI n) = some (nI x, hr', air', rb', cl', gr', oc', wm', dr') ∧ f_X7_goneIn mm mwas mwarm mdrip (nI b) (nI n) = some (nI x, fw (fw mm mwas 82) m' 82, fw mm mwas 82, W', md') := by
  have hN := hM.hN
  obtain ⟨hr, A', rb, cl2, gr2, oc2, dr2, v, mm', W, md, ⟨e1, e2, e3, e4, e5, e6, e7, e8, e9, e10⟩, hq⟩ := hq_ex hM hV hS hC (M := n) (by omega) (wm := fw (fv cl lit cold ccell cpow) wm N) (fun b hb _ => fw_at N b hb) dr mwarm mdrip
  obtain ⟨hr', air', rb', cl', gr', oc', dr', w⟩ := w_goneIn hq hb (by rw [e4]; exact hl) (Nat.le_refl n) (by omega)
  obtain ⟨m', W', md', u⟩ := m_goneIn hq hb (by rw [e4]; exact hl) (Nat.le_refl n) (by omega) mwas
  rw [e1, e2, e3, e4, e5, e6, e7] at w
  rw [e8, e9, e10] at u
  refine ⟨gin cl2 b n, hr', air', rb', cl', gr', oc', fw (fv cl lit cold ccell cpow) wm N, dr', m', W', md', gin_le cl2 b n, ?_, u⟩
  unfold f_X1_goneIn
  rw [w_feel hN hV.wi hC, pu_b1, w]
theorem m_far {hour cold air rub z : Int32} {N : Nat} {kd cl gr : Nat → Int32} {lit : Int32} {ccell cpow sp mm : Nat → Int32} (hM : MS mm hour cold air rub z N kd cl gr lit ccell cpow sp) (x : Int32) : f_X7_isFarOn mm x = some (bI (decide ((9999 : Int32) < hour + x))) := by
  unfold f_X7_isFarOn
  rw [pu_c0, hM.h0]
  by_cases q : (9999 : Int32) < hour + x
  · rw [if_neg (Int32.not_le.mpr q), decide_eq_true q]; rfl
  · rw [if_pos (Int32.not_lt.mp q), decide_eq_false q]; rfl
theorem w_has (hour x : Int32) : f_X6_hasHours hour x = some (bI (!decide ((9999 : Int32) < hour + x))) := by
  unfold f_X6_hasHours
  by_cases q : (9999 : Int32) < hour + x
  · rw [if_pos q, decide_eq_true q]; rfl
  · rw [if_neg q, decide_eq_false q]; rfl
theorem g_holds : hy_holds Gd := by
  intro k isk fnd nhour nair nrub nz nnb nkd ncl ngr noc nlit ncold nccell ncpow nsp nwm ndr khour kair krub kz knb kkd kcl kgr koc klit kcold kccell kcpow ksp kwm kdr thour tair trub tz tnb tkd tcl tgr toc tlit tcold tccell tcpow tsp twm tdr tok sta en val tsize tby sbits ssize snum misKept mtaped msort mfrom mto mvalue mbad mm mkept mwas mother mfound mwarm mdrip mtape mbits msize mnumber hk hG
  obtain ⟨⟨N, A, rfl, rfl, hA, hM, hV, hS, hC⟩, hK, hF, hT, hSh⟩ := hG
  have hN := hM.hN
  have hk1 := gd_k k
  unfold f_X6_holds f_X7_holds
  rw [w_has, m_far hM, pu_b1, pu_b1]
  cases decide ((9999 : Int32) < nhour + 96)
  · rw [if_neg (show ¬ bI (!false) = 0 by decide), if_pos bI_f]
    obtain ⟨kd', cl', gr', oc', ccell', cpow', sp', e, r1, r2, r3, r4, r5⟩ := w_fresh hM hV hS hC thour tair trub tz tnb tkd tcl tgr toc tlit tcold tccell tcpow tsp
    obtain ⟨x, hr', air', rb', cl2, gr2, oc2, wm', dr', m', W', md', -, w, u⟩ := held_both r1 r2 r3 r4 (n := 96) (by omega) (by omega) twm tdr mwas mwarm mdrip
    have w2 : f_X1_hoursHeld nhour (nI A) nrub (nI N) kd' cl' gr' oc' nlit ncold ccell' cpow' twm tdr 96 = _ := w
    have u2 : f_X7_held mm mwas mwarm mdrip 96 = _ := u
    rw [e, pu_b14, w2, pu_b9, u2, pu_b5]
    exact ⟨_, _, _, _, _, _, _, _, _, _, _, _, _, _, _, _, _, _, _, _, _, _, _, rfl, rfl, ⟨N, A, rfl, rfl, by omega, hM.fw.fw, hV, hS, hC⟩, hK.mono hk1, hF, hT, hSh⟩
  · obtain ⟨f', g', t1, t2, t3⟩ := fe5 hF
    rw [if_pos (show bI (!true) = 0 from rfl), if_neg (show ¬ bI true = 0 by decide), t1, t2, pu_b2, pu_b2]
    exact ⟨_, _, _, _, _, _, _, _, _, _, _, _, _, _, _, _, _, _, _, _, _, _, _, rfl, rfl, ⟨N, A, rfl, rfl, by omega, hM, hV, hS, hC⟩, hK.mono hk1, t3, hT, hSh⟩
theorem g_goes : hy_goes Gd := by
  intro k isk fnd nhour nair nrub nz nnb nkd ncl ngr noc nlit ncold nccell ncpow nsp nwm ndr khour kair krub kz knb kkd kcl kgr koc klit kcold kccell kcpow ksp kwm kdr thour tair trub tz tnb tkd tcl tgr toc tlit tcold tccell tcpow tsp twm tdr tok sta en val tsize tby sbits ssize snum misKept mtaped msort mfrom mto mvalue mbad mm mkept mwas mother mfound mwarm mdrip mtape mbits msize mnumber x1 hk hG
  obtain ⟨⟨N, A, rfl, rfl, hA, hM, hV, hS, hC⟩, hK, hF, hT, hSh⟩ := hG
  have hN := hM.hN
  have hk1 := gd_k k
  unfold f_X6_goes f_X7_goes
  rw [w_isBlock hN, m_isBlock hM.rm, pu_b1, pu_b1]
  cases hw : wn x1 0 (N - 1 : Int)
  · obtain ⟨f', g', t1, t2, t3⟩ := fe1 hF
    rw [if_pos bI_f, if_pos bI_f, t1, t2, pu_b2, pu_b2]
    exact ⟨_, _, _, _, _, _, _, _, _, _, _, _, _, _, _, _, _, _, _, _, _, _, _, rfl, rfl, ⟨N, A, rfl, rfl, by omega, hM, hV, hS, hC⟩, hK.mono hk1, t3, hT, hSh⟩
  · obtain ⟨b, b1, b2, b3, rfl⟩ := wn_n hw (by decide)
    have hb : b < N := by omega
    rw [if_neg (show ¬ bI true = 0 by decide), if_neg (show ¬ bI true = 0 by decide), w_gone (by omega), m_gone hM.rm (by omega), pu_b1, pu_b1]
    by_cases hl : ncl b < 0
    · obtain ⟨f', g', t1, t2, t3⟩ := fe5 hF
      rw [decide_eq_true hl, if_neg (show ¬ bI true = 0 by decide), if_neg (show ¬ bI true = 0 by decide), t1, t2, pu_b2, pu_b2]
      exact ⟨_, _, _, _, _, _, _, _, _, _, _, _, _, _, _, _, _, _, _, _, _, _, _, rfl, rfl, ⟨N, A, rfl, rfl, by omega, hM, hV, hS, hC⟩, hK.mono hk1, t3, hT, hSh⟩
    · rw [decide_eq_false hl, if_pos bI_f, if_pos bI_f, w_has, m_far hM, pu_b1, pu_b1]
      cases decide ((9999 : Int32) < nhour + 96)
      · rw [if_neg (show ¬ bI (!false) = 0 by decide), if_pos bI_f]
        obtain ⟨kd', cl', gr', oc', ccell', cpow', sp', e, r1, r2, r3, r4, r5, r6⟩ := w_fresh hM hV hS hC thour tair trub tz tnb tkd tcl tgr toc tlit tcold tccell tcpow tsp
        obtain ⟨x, hr', air', rb', cl2, gr2, oc2, wm', dr', m', W', md', hx, w, u⟩ := gone_both r1 r2 r3 r4 (n := 96) hb (by rw [r5 b (by omega)]; exact hl) (by omega) (by omega) twm tdr mwas mwarm mdrip
        have w2 : f_X1_goneIn nhour (nI A) nrub (nI N) kd' cl' gr' oc' nlit ncold ccell' cpow' twm tdr (nI b) 96 = _ := w
        have u2 : f_X7_goneIn mm mwas mwarm mdrip (nI b) 96 = _ := u
        rw [e, pu_b14, w2, pu_b9, u2, pu_b5]
        by_cases q : nI x ≤ (96 : Int32)
        · rw [if_pos q, if_pos q]
          exact ⟨_, _, _, _, _, _, _, _, _, _, _, _, _, _, _, _, _, _, _, _, _, _, _, rfl, rfl, ⟨N, A, rfl, rfl, by omega, hM.fw.fw, hV, hS, hC⟩, hK.mono hk1, hF, hT, hSh⟩
        · obtain ⟨f', g', t1, t2, t3⟩ := fe4 hF
          rw [if_neg q, if_neg q, t1, t2, pu_b2, pu_b2]
          exact ⟨_, _, _, _, _, _, _, _, _, _, _, _, _, _, _, _, _, _, _, _, _, _, _, rfl, rfl, ⟨N, A, rfl, rfl, by omega, hM.fw.fw, hV, hS, hC⟩, hK.mono hk1, t3, hT, hSh⟩
      · obtain ⟨f', g', t1, t2, t3⟩ := fe5 hF
        rw [if_pos (show bI (!true) = 0 from rfl), if_neg (show ¬ bI true = 0 by decide), t1, t2, pu_b2, pu_b2]
        exact ⟨_, _, _, _, _, _, _, _, _, _, _, _, _, _, _, _, _, _, _, _, _, _, _, rfl, rfl, ⟨N, A, rfl, rfl, by omega, hM, hV, hS, hC⟩, hK.mono hk1, t3, hT, hSh⟩
