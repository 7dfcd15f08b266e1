/-! building, taking, watering, lights -/
theorem wi_1_99 (x : Int32) : f_X6_isWithin x 1 99 = some (bI (wn x 1 99)) := pu_within x 1 99
theorem WV_build {N : Nat} {kd cl oc : Nat → Int32} (hN : N < 16) (hV : WV N kd cl oc) {q c : Nat} (hq : q < 7) (hc : c < 48) (hf : ∀ a, a < N → ¬ cl a = nI c) : WV (N + 1) (upd kd N (nI q)) (upd cl N (nI c)) (upd oc c (nI N)) := by
  refine ⟨⟨by omega, fun b hb => ?_⟩, fun a b ha hb q1 q2 => ?_, OC_mk (fun b c' hb hc' e => ?_) (fun c' hc' q => ?_)⟩
  · by_cases e : b = N
    · rw [e, upd_eq, upd_eq]; exact ⟨⟨q, hq, rfl⟩, Or.inr ⟨c, hc, rfl⟩⟩
    · rw [upd_ne e, upd_ne e]; exact hV.wi.2 b (by omega)
  · by_cases ea : a = N
    · by_cases eb : b = N
      · rw [ea, eb]
      · rw [ea, upd_eq, upd_ne eb] at q2; exact absurd q2.symm (hf b (by omega))
    · rw [upd_ne ea] at q1 q2
      by_cases eb : b = N
      · rw [eb, upd_eq] at q2; exact absurd q2 (hf a (by omega))
      · rw [upd_ne eb] at q2; exact hV.dc a b (by omega) (by omega) q1 q2
  · by_cases eb : b = N
    · rw [eb, upd_eq] at e
      have : c = c' := (nI_eq (by omega) (by omega)).mp e
      rw [← this, upd_eq, eb]
    · rw [upd_ne eb] at e
      have : c' ≠ c := fun p => hf b (by omega) (by rw [e, p])
      rw [upd_ne this]; exact OC_1 hV.oc hV.dc (by omega) hc' e
  · have : c' ≠ c := fun p => q N (by omega) (by rw [upd_eq, p])
    rw [upd_ne this]
    exact OC_2 hV.oc hc' (fun b hb e => q b (by omega) (by rw [upd_ne (by omega)]; exact e))
theorem WV_move {N : Nat} {kd cl oc : Nat → Int32} (hV : WV N kd cl oc) {b c d : Nat} (hb : b < N) (hc : c < 48) (e : cl b = nI c) (hd : d < 48) (hf : ∀ a, a < N → a ≠ b → ¬ cl a = nI d) : WV N kd (upd cl b (nI d)) (upd (upd oc c (-1)) d (nI b)) := by
  refine ⟨⟨hV.wi.1, fun a ha => ⟨(hV.wi.2 a ha).1, ?_⟩⟩, fun x y hx hy q1 q2 => ?_, OC_mk (fun a c' ha hc' ea => ?_) (fun c' hc' q => ?_)⟩
  · by_cases g : a = b
    · rw [g, upd_eq]; exact Or.inr ⟨d, hd, rfl⟩
    · rw [upd_ne g]; exact (hV.wi.2 a ha).2
  · by_cases gx : x = b
    · by_cases gy : y = b
      · rw [gx, gy]
      · rw [gx, upd_eq, upd_ne gy] at q2; exact absurd q2.symm (hf y hy gy)
    · rw [upd_ne gx] at q1 q2
      by_cases gy : y = b
      · rw [gy, upd_eq] at q2; exact absurd q2 (hf x hx gx)
      · rw [upd_ne gy] at q2; exact hV.dc x y hx hy q1 q2
  · by_cases g : a = b
    · rw [g, upd_eq] at ea
      have : d = c' := (nI_eq (by omega) (by omega)).mp ea
      rw [← this, upd_eq, g]
    · rw [upd_ne g] at ea
      have h1 : c' ≠ d := fun p => hf a ha g (by rw [ea, p])
      have h2 : c' ≠ c := fun p => g (hV.dc a b ha hb (by rw [ea]; exact nI_pos (by omega)) (by rw [ea, e, p]))
      rw [upd_ne h1, upd_ne h2]; exact OC_1 hV.oc hV.dc ha hc' ea
  · have h1 : c' ≠ d := fun p => q b hb (by rw [upd_eq, p])
    rw [upd_ne h1]
    by_cases g : c' = c
    · rw [g, upd_eq]
    · rw [upd_ne g]
      refine OC_2 hV.oc hc' (fun a ha ea => ?_)
      by_cases g2 : a = b
      · rw [g2, e] at ea; exact g ((nI_eq (by omega) (by omega)).mp ea.symm)
      · exact q a ha (by rw [upd_ne g2]; exact ea)
theorem w_setLit {lit x : Int32} {j : Nat} (hj : j < 32) : ∃ y, f_X0_setLit lit (nI j) x = some y ∧ bt y j = (!decide (x = 0)) ∧ ∀ i, i < 32 → ¬ i = j → bt y i = bt lit i := by
  unfold f_X0_setLit
  by_cases g : x = 0
  · rw [if_pos g]
    refine ⟨_, rfl, ?_, fun i hi q => ?_⟩
    · rw [b_and, b_xor, bt_sl hj, b_m1 j hj, decide_eq_true rfl, decide_eq_true g]; cases bt lit j <;> rfl
    · rw [b_and, b_xor, bt_sl hj, b_m1 i hi, decide_eq_false (fun p => q p.symm)]; cases bt lit i <;> rfl
  · rw [if_neg g]
    refine ⟨_, rfl, ?_, fun i hi q => ?_⟩
    · rw [b_or, bt_sl hj, decide_eq_true rfl, decide_eq_false g]; cases bt lit j <;> rfl
    · rw [b_or, bt_sl hj, decide_eq_false (fun p => q p.symm)]; cases bt lit i <;> rfl
theorem g_block : hy_block Gd := by
  intro k isk fnd nhour nair nrub nz nnb nkd ncl ngr noc nlit ncold nccell ncpow nsp nwm ndr khour kair krub kz knb kkd kcl kgr koc klit kcold kccell kcpow ksp kwm kdr thour tair trub tz tnb tkd tcl tgr toc tlit tcold tccell tcpow tsp twm tdr tok sta en val tsize tby sbits ssize snum misKept mtaped msort mfrom mto mvalue mbad mm mkept mwas mother mfound mwarm mdrip mtape mbits msize mnumber x1 x2 x3 hk hG
  obtain ⟨⟨N, A, rfl, rfl, hA, hM, hV, hS, hC⟩, hK, hF, hT, hSh⟩ := hG
  have hN := hM.hN
  have hk1 := gd_k k
  unfold f_X6_block f_X7_block
  rw [pu_6kind, pu_7kind, pu_b1, pu_b1]
  cases hw : wn x1 0 6
  · rw [if_pos bI_f, if_pos bI_f]
    obtain ⟨f', g', t1, t2, t3⟩ := fe1 hF
    rw [t1, t2, pu_b2, pu_b2]
    exact ⟨_, _, _, _, _, _, _, _, _, rfl, rfl, ⟨N, A, rfl, rfl, by omega, hM, hV, hS, hC⟩, hK.mono hk1, t3, hT, hSh⟩
  · obtain ⟨q, q1, q2, q3, rfl⟩ := wn_n hw (by decide)
    rw [if_neg (show ¬ bI true = 0 by decide), if_neg (show ¬ bI true = 0 by decide), pu_6cell, pu_7cell, pu_b1, pu_b1]
    cases hw2 : wn x2 0 47
    · rw [if_pos bI_f, if_pos bI_f]
      obtain ⟨f', g', t1, t2, t3⟩ := fe1 hF
      rw [t1, t2, pu_b2, pu_b2]
      exact ⟨_, _, _, _, _, _, _, _, _, rfl, rfl, ⟨N, A, rfl, rfl, by omega, hM, hV, hS, hC⟩, hK.mono hk1, t3, hT, hSh⟩
    · obtain ⟨c, c1, c2, c3, rfl⟩ := wn_n hw2 (by decide)
      rw [if_neg (show ¬ bI true = 0 by decide), if_neg (show ¬ bI true = 0 by decide), wi_1_99, pu_7some, pu_b1, pu_b1]
      cases hw3 : wn x3 1 99
      · rw [if_pos bI_f, if_pos bI_f]
        obtain ⟨f', g', t1, t2, t3⟩ := fe1 hF
        rw [t1, t2, pu_b2, pu_b2]
        exact ⟨_, _, _, _, _, _, _, _, _, rfl, rfl, ⟨N, A, rfl, rfl, by omega, hM, hV, hS, hC⟩, hK.mono hk1, t3, hT, hSh⟩
      · obtain ⟨g, g1, g2, g3, rfl⟩ := wn_n hw3 (by decide)
        rw [if_neg (show ¬ bI true = 0 by decide), if_neg (show ¬ bI true = 0 by decide)]
        unfold f_X5_build f_X5_isFull
        rw [pu_c5, hM.h5]
        by_cases hf : N < 16
        · have l1 : nI N < (16 : Int32) := nI_lt (b := 16) hf (by omega)
          have l2 : ¬ nI N = (16 : Int32) := fun p => by have := (nI_eq (b := 16) (by omega) (by omega)).mp p; omega
          rw [if_pos l1, pu_b1, if_pos rfl, if_neg l2, w_blockAt hV.oc (show c < 48 by omega), m_bon hM.rm (nI_pos (by omega))]
          simp only [pu_b1]
          rcases bo_cases N ncl (nI c) with ⟨b, p1, p2, p3⟩ | ⟨p1, p2⟩
          · obtain ⟨f', g', t1, t2, t3⟩ := fe5 hF
            rw [p3]
            simp only [if_neg (nI_pos (show b < 2 ^ 31 by omega))]
            rw [t1, t2, pu_b2, pu_b2]
            exact ⟨_, _, _, _, _, _, _, _, _, rfl, rfl, ⟨N, A, rfl, rfl, by omega, hM, hV, hS, hC⟩, hK.mono hk1, t3, hT, hSh⟩
          · rw [p1]
            simp only [if_pos (show (-1 : Int32) < 0 by decide), if_true, pu_6cell, pu_b1, hw2, if_neg (show ¬ bI true = 0 by decide)]
            rw [ pu_gdN hf (by omega), pu_gdN hf (by omega), pu_gdN hf (by omega), pu_gdN (show c < 48 by omega) (by omega), nI_clamp (show N < 2 ^ 31 by omega), nI_clamp (show c < 2 ^ 31 by omega), pu_b6, nI_1]
            unfold f_X7_comes
            rw [pu_c5, hM.h5, pu_x2, pu_x1, pu_x0, pu_gdN (show 24 + 3 * N < 82 by omega) (by omega), pu_gdN (show 25 + 3 * N < 82 by omega) (by omega), pu_gdN (show 26 + 3 * N < 82 by omega) (by omega), nI_clamp (show 24 + 3 * N < 2 ^ 31 by omega), nI_clamp (show 25 + 3 * N < 2 ^ 31 by omega), nI_clamp (show 26 + 3 * N < 2 ^ 31 by omega), upd_ne (show 5 ≠ 26 + 3 * N by omega), upd_ne (show 5 ≠ 25 + 3 * N by omega), upd_ne (show 5 ≠ 24 + 3 * N by omega), hM.h5, pu_b2, nI_1]
            exact ⟨_, _, _, _, _, _, _, _, _, rfl, rfl, ⟨N + 1, A, rfl, rfl, by omega, (((hM.u_kd hf (nI q)).u_cl hf (nI c)).u_gr hf (nI g)).u_N (by omega), WV_build hf hV (by omega) (by omega) p2, fun a ha => by
              by_cases e : a = N
              · rw [e, upd_eq, upd_eq]; exact ⟨g, by omega, rfl, fun r => absurd r (nI_pos (by omega)), fun r => by omega⟩
              · rw [upd_ne e, upd_ne e]; exact hS a (by omega), hC⟩, hK.mono hk1, hF, hT, hSh.1, hSh.2.up (nI_le (by omega) (by omega))⟩
        · have hN16 : N = 16 := by omega
          subst hN16
          have l1 : ¬ nI 16 < (16 : Int32) := by decide
          have l2 : nI 16 = (16 : Int32) := by decide
          obtain ⟨f', g', t1, t2, t3⟩ := fe2 hF
          rw [if_neg l1, pu_b1, if_neg (show ¬ (1 : Int32) = 0 by decide), if_pos l2, t1, t2, pu_b2, pu_b2]
          exact ⟨_, _, _, _, _, _, _, _, _, rfl, rfl, ⟨16, A, rfl, rfl, by omega, hM, hV, hS, hC⟩, hK.mono hk1, t3, hT, hSh⟩
