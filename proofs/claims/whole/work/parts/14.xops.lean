/-! sheet to sheet -/
theorem w_range {n : Nat} (hn : n ≤ 40) (x l : Int32) : f_X2_hasRange (nI n) x l = some (bI (decide (0 ≤ x.toInt ∧ 0 ≤ l.toInt ∧ x.toInt + l.toInt ≤ n))) := by
  have z : (0 : Int32).toInt = 0 := rfl
  have hN := nI_toInt (n := n) (by omega)
  have lx := Int32.lt_iff_toInt_lt (x := x) (y := 0)
  have ll := Int32.lt_iff_toInt_lt (x := l) (y := 0)
  have ln := Int32.lt_iff_toInt_lt (x := nI n) (y := l)
  unfold f_X2_hasRange
  by_cases c1 : x < 0
  · rw [if_pos c1, decide_eq_false (by rw [lx] at c1; omega)]; rfl
  · rw [if_neg c1]
    by_cases c2 : l < 0
    · rw [if_pos c2, decide_eq_false (by rw [ll] at c2; omega)]; rfl
    · rw [if_neg c2]
      rw [lx] at c1
      rw [ll] at c2
      by_cases c3 : nI n < l
      · rw [if_pos c3, decide_eq_false (by rw [ln] at c3; omega)]; rfl
      · rw [if_neg c3]
        rw [ln] at c3
        have hs : (nI n - l).toInt = n - l.toInt := by
          rw [Int32.toInt_sub, hN]
          exact pu_bm (by omega) (by omega)
        have lz := Int32.lt_iff_toInt_lt (x := nI n - l) (y := x)
        rw [hs] at lz
        by_cases c4 : nI n - l < x
        · rw [if_pos c4, decide_eq_false (by rw [lz] at c4; omega)]; rfl
        · rw [if_neg c4, decide_eq_true (by rw [lz] at c4; omega)]; rfl
theorem cp_up {f : Nat → Int32} {s d t : Nat} (h : s + t < d ∨ d + t ≤ s + t) : upd (va_cpy f f s d t) (d + t) (va_cpy f f s d t (s + t)) = va_cpy f f s d (t + 1) := by
  funext j
  by_cases e : j = d + t
  · rw [e, upd_eq]
    unfold va_cpy
    rw [if_neg (by omega), if_pos (by omega)]
    congr 1
    omega
  · rw [upd_ne e]
    unfold va_cpy
    by_cases g : d ≤ j ∧ j < d + t
    · rw [if_pos g, if_pos (by omega)]
    · rw [if_neg g, if_neg (by omega)]
theorem cp_dn {f : Nat → Int32} {s d t l : Nat} (h : s < d) (ht : t < l) : upd (va_cpy f f (s + (l - t)) (d + (l - t)) t) (d + (l - 1 - t)) (va_cpy f f (s + (l - t)) (d + (l - t)) t (s + (l - 1 - t))) = va_cpy f f (s + (l - (t + 1))) (d + (l - (t + 1))) (t + 1) := by
  funext j
  by_cases e : j = d + (l - 1 - t)
  · rw [e, upd_eq]
    unfold va_cpy
    rw [if_neg (by omega), if_pos (by omega)]
    congr 1
    omega
  · rw [upd_ne e]
    unfold va_cpy
    by_cases g : d + (l - t) ≤ j ∧ j < d + (l - t) + t
    · rw [if_pos g, if_pos (by omega)]
      congr 1
      omega
    · rw [if_neg g, if_neg (by omega)]
theorem cp_ix (s p v : Nat) : (40 : Int32) * nI s + nI p + nI v = nI (40 * s + p + v) := by rw [sh_ix, nI_add]
theorem m_cpy (mfound mnumber : Nat → Int32) {a b p q l : Nat} (ha : a < 4) (hb : b < 4) (hp : p + l ≤ 40) (hq : q + l ≤ 40) {v : Int32} (hv : (v = 0 ∧ (a = b → q ≤ p)) ∨ (v = 1 ∧ a = b ∧ p < q)) : j_X7_copy_134 mfound mnumber (nI a) (nI p) (nI b) (nI q) (nI l) v = some (nI l, mfound, va_cpy mnumber mnumber (40 * a + p) (40 * b + q) l) := by
  unfold j_X7_copy_134
  rcases hv with ⟨rfl, h⟩ | ⟨rfl, h1, h2⟩
  · have h0 : mnumber = va_cpy mnumber mnumber (40 * a + p) (40 * b + q) 0 := by
      funext j
      unfold va_cpy
      rw [if_neg (by omega)]
    have := lp_for2 (f := b_X7_copy_139 mfound (nI a) (nI p) (nI b) (nI q) (nI l) 0) (n := ik_fu) (va_cpy mnumber mnumber (40 * a + p) (40 * b + q)) nI (some (nI l, mfound, va_cpy mnumber mnumber (40 * a + p) (40 * b + q) l)) l (fun rc t ht => ?_) (fun rc => ?_) (pu_fu (by omega))
    · rw [← h0] at this
      exact this
    · unfold b_X7_copy_139 j_X7_copy_163
      rw [if_neg (nI_ge ht (by omega)), if_pos rfl, cp_ix, cp_ix, pu_gdN (show 40 * a + p + t < 160 by omega) (by omega), pu_gdN (show 40 * b + q + t < 160 by omega) (by omega), nI_clamp (by omega), nI_clamp (by omega), nI_1, cp_up]
      rcases Nat.lt_trichotomy a b with g | g | g
      · exact Or.inl (by omega)
      · exact Or.inr (by have := h g; omega)
      · exact Or.inr (by omega)
    · unfold b_X7_copy_139
      rw [if_pos (nI_le (Nat.le_refl _) (by omega))]
  · subst h1
    have hend : va_cpy mnumber mnumber (40 * a + p) (40 * a + q) l = va_cpy mnumber mnumber (40 * a + p + (l - l)) (40 * a + q + (l - l)) l := by rw [Nat.sub_self, Nat.add_zero, Nat.add_zero]
    have h0 : mnumber = va_cpy mnumber mnumber (40 * a + p + (l - 0)) (40 * a + q + (l - 0)) 0 := by
      funext j
      unfold va_cpy
      rw [if_neg (by omega)]
    rw [hend]
    have := lp_for2 (f := b_X7_copy_139 mfound (nI a) (nI p) (nI a) (nI q) (nI l) 1) (n := ik_fu) (fun t => va_cpy mnumber mnumber (40 * a + p + (l - t)) (40 * a + q + (l - t)) t) nI (some (nI l, mfound, va_cpy mnumber mnumber (40 * a + p + (l - l)) (40 * a + q + (l - l)) l)) l (fun rc t ht => ?_) (fun rc => ?_) (pu_fu (by omega))
    · rw [← h0] at this
      exact this
    · unfold b_X7_copy_139 j_X7_copy_163
      rw [if_neg (nI_ge ht (by omega)), if_neg (show ¬ (1 : Int32) = 0 by decide), show nI l - 1 - nI t = nI (l - 1 - t) by rw [show nI l - 1 = nI (l - 1) from pk_sub (b := 1) (by omega), pk_sub (by omega)], cp_ix, cp_ix, pu_gdN (show 40 * a + p + (l - 1 - t) < 160 by omega) (by omega), pu_gdN (show 40 * a + q + (l - 1 - t) < 160 by omega) (by omega), nI_clamp (by omega), nI_clamp (by omega), nI_1, cp_dn (by omega) ht]
    · unfold b_X7_copy_139
      rw [if_pos (nI_le (Nat.le_refl _) (by omega))]
theorem g_copy : hy_copy Gd := by
  intro k isk fnd nhour nair nrub nz nnb nkd ncl ngr noc nlit ncold nccell ncpow nsp nwm ndr khour kair krub kz knb kkd kcl kgr koc klit kcold kccell kcpow ksp kwm kdr thour tair trub tz tnb tkd tcl tgr toc tlit tcold tccell tcpow tsp twm tdr tok sta en val tsize tby sbits ssize snum misKept mtaped msort mfrom mto mvalue mbad mm mkept mwas mother mfound mwarm mdrip mtape mbits msize mnumber x1 x2 x3 x4 x5 hk hG
  obtain ⟨⟨N, A, rfl, rfl, hA, hM, hV, hS, hC⟩, hK, hF, hT, hSh⟩ := hG
  have hN := hM.hN
  have hk1 := gd_k k
  unfold f_X6_copy f_X7_copy
  rw [wi_sheet, in_sheet, pu_b1, pu_b1]
  cases hw : wn x1 0 3
  · rw [if_pos bI_f, if_pos bI_f]
    obtain ⟨f', g', t1, t2, t3⟩ := fe1 hF
    rw [t1, t2, pu_b2, pu_b2]
    exact ⟨_, _, _, _, _, rfl, rfl, ⟨N, A, rfl, rfl, by omega, hM, hV, hS, hC⟩, hK.mono hk1, t3, hT, hSh⟩
  · obtain ⟨a, s1, s2, s3, rfl⟩ := wn_n hw (by decide)
    have ha : a < 4 := by omega
    obtain ⟨a1, a2, a3, ⟨na, hna, a4⟩, a5⟩ := hSh.1 a ha
    rw [if_neg (show ¬ bI true = 0 by decide), if_neg (show ¬ bI true = 0 by decide), wi_sheet, in_sheet, pu_b1, pu_b1]
    cases hw2 : wn x3 0 3
    · rw [if_pos bI_f, if_pos bI_f]
      obtain ⟨f', g', t1, t2, t3⟩ := fe1 hF
      rw [t1, t2, pu_b2, pu_b2]
      exact ⟨_, _, _, _, _, rfl, rfl, ⟨N, A, rfl, rfl, by omega, hM, hV, hS, hC⟩, hK.mono hk1, t3, hT, hSh⟩
    · obtain ⟨b, t1, t2, t3, rfl⟩ := wn_n hw2 (by decide)
      have hb : b < 4 := by omega
      obtain ⟨b1, b2, b3, ⟨nb, hnb, b4⟩, b5⟩ := hSh.1 b hb
      rw [if_neg (show ¬ bI true = 0 by decide), if_neg (show ¬ bI true = 0 by decide), nI_clamp (show a < 2 ^ 31 by omega), nI_clamp (show b < 2 ^ 31 by omega), ← a1, ← b1, ← a2, ← b2]
      rw [pu_gdN ha (show 4 < 2 ^ 31 by omega), sel4 (fun a => (ik_gd (nI b) 4 (if (nI b) = (0 : Int32) then (ik_b1 (f_X2_isMissing (sbits a)) (fun r3 => (if r3 = (0 : Int32) then (ik_b1 (f_X2_isMissing (sbits 0)) (fun r4 => (if r4 = (0 : Int32) then (if (sbits a) = (sbits 0) then (ik_b1 (f_X2_hasRange (ssize a) x2 x5) (fun r5 => (if r5 = (0 : Int32) then (ik_b2 (f_X6_tell fnd (-1000001 : Int32)) (fun r6 g7 => (some (r6, g7, snum)))) else (ik_b1 (f_X2_hasRange (ssize 0) x4 x5) (fun r6 => (if r6 = (0 : Int32) then (ik_b2 (f_X6_tell fnd (-1000001 : Int32)) (fun r7 g8 => (some (r7, g8, snum)))) else (ik_gc x2 x4 x5 40 40 (some (x5, fnd, (va_up snum 0 (va_cpy (snum a) (snum 0) (x2).toNatClampNeg (x4).toNatClampNeg (x5).toNatClampNeg))))))))))) else (ik_b2 (f_X6_tell fnd (-1000003 : Int32)) (fun r5 g6 => (some (r5, g6, snum))))) else (ik_b2 (f_X6_tell fnd (-1000006 : Int32)) (fun r5 g6 => (some (r5, g6, snum))))))) else (ik_b2 (f_X6_tell fnd (-1000006 : Int32)) (fun r4 g5 => (some (r4, g5, snum))))))) else if (nI b) = (1 : Int32) then (ik_b1 (f_X2_isMissing (sbits a)) (fun r3 => (if r3 = (0 : Int32) then (ik_b1 (f_X2_isMissing (sbits 1)) (fun r4 => (if r4 = (0 : Int32) then (if (sbits a) = (sbits 1) then (ik_b1 (f_X2_hasRange (ssize a) x2 x5) (fun r5 => (if r5 = (0 : Int32) then (ik_b2 (f_X6_tell fnd (-1000001 : Int32)) (fun r6 g7 => (some (r6, g7, snum)))) else (ik_b1 (f_X2_hasRange (ssize 1) x4 x5) (fun r6 => (if r6 = (0 : Int32) then (ik_b2 (f_X6_tell fnd (-1000001 : Int32)) (fun r7 g8 => (some (r7, g8, snum)))) else (ik_gc x2 x4 x5 40 40 (some (x5, fnd, (va_up snum 1 (va_cpy (snum a) (snum 1) (x2).toNatClampNeg (x4).toNatClampNeg (x5).toNatClampNeg))))))))))) else (ik_b2 (f_X6_tell fnd (-1000003 : Int32)) (fun r5 g6 => (some (r5, g6, snum))))) else (ik_b2 (f_X6_tell fnd (-1000006 : Int32)) (fun r5 g6 => (some (r5, g6, snum))))))) else (ik_b2 (f_X6_tell fnd (-1000006 : Int32)) (fun r4 g5 => (some (r4, g5, snum))))))) else if (nI b) = (2 : Int32) then (ik_b1 (f_X2_isMissing (sbits a)) (fun r3 => (if r3 = (0 : Int32) then (ik_b1 (f_X2_isMissing (sbits 2)) (fun r4 => (if r4 = (0 : Int32) then (if (sbits a) = (sbits 2) then (ik_b1 (f_X2_hasRange (ssize a) x2 x5) (fun r5 => (if r5 = (0 : Int32) then (ik_b2 (f_X6_tell fnd (-1000001 : Int32)) (fun r6 g7 => (some (r6, g7, snum)))) else (ik_b1 (f_X2_hasRange (ssize 2) x4 x5) (fun r6 => (if r6 = (0 : Int32) then (ik_b2 (f_X6_tell fnd (-1000001 : Int32)) (fun r7 g8 => (some (r7, g8, snum)))) else (ik_gc x2 x4 x5 40 40 (some (x5, fnd, (va_up snum 2 (va_cpy (snum a) (snum 2) (x2).toNatClampNeg (x4).toNatClampNeg (x5).toNatClampNeg))))))))))) else (ik_b2 (f_X6_tell fnd (-1000003 : Int32)) (fun r5 g6 => (some (r5, g6, snum))))) else (ik_b2 (f_X6_tell fnd (-1000006 : Int32)) (fun r5 g6 => (some (r5, g6, snum))))))) else (ik_b2 (f_X6_tell fnd (-1000006 : Int32)) (fun r4 g5 => (some (r4, g5, snum))))))) else (ik_b1 (f_X2_isMissing (sbits a)) (fun r3 => (if r3 = (0 : Int32) then (ik_b1 (f_X2_isMissing (sbits 3)) (fun r4 => (if r4 = (0 : Int32) then (if (sbits a) = (sbits 3) then (ik_b1 (f_X2_hasRange (ssize a) x2 x5) (fun r5 => (if r5 = (0 : Int32) then (ik_b2 (f_X6_tell fnd (-1000001 : Int32)) (fun r6 g7 => (some (r6, g7, snum)))) else (ik_b1 (f_X2_hasRange (ssize 3) x4 x5) (fun r6 => (if r6 = (0 : Int32) then (ik_b2 (f_X6_tell fnd (-1000001 : Int32)) (fun r7 g8 => (some (r7, g8, snum)))) else (ik_gc x2 x4 x5 40 40 (some (x5, fnd, (va_up snum 3 (va_cpy (snum a) (snum 3) (x2).toNatClampNeg (x4).toNatClampNeg (x5).toNatClampNeg))))))))))) else (ik_b2 (f_X6_tell fnd (-1000003 : Int32)) (fun r5 g6 => (some (r5, g6, snum))))) else (ik_b2 (f_X6_tell fnd (-1000006 : Int32)) (fun r5 g6 => (some (r5, g6, snum))))))) else (ik_b2 (f_X6_tell fnd (-1000006 : Int32)) (fun r4 g5 => (some (r4, g5, snum)))))))))) ha rfl rfl rfl rfl, pu_gdN hb (show 4 < 2 ^ 31 by omega), sel4 (fun b => (ik_b1 (f_X2_isMissing (sbits a)) (fun r3 => (if r3 = (0 : Int32) then (ik_b1 (f_X2_isMissing (sbits b)) (fun r4 => (if r4 = (0 : Int32) then (if (sbits a) = (sbits b) then (ik_b1 (f_X2_hasRange (ssize a) x2 x5) (fun r5 => (if r5 = (0 : Int32) then (ik_b2 (f_X6_tell fnd (-1000001 : Int32)) (fun r6 g7 => (some (r6, g7, snum)))) else (ik_b1 (f_X2_hasRange (ssize b) x4 x5) (fun r6 => (if r6 = (0 : Int32) then (ik_b2 (f_X6_tell fnd (-1000001 : Int32)) (fun r7 g8 => (some (r7, g8, snum)))) else (ik_gc x2 x4 x5 40 40 (some (x5, fnd, (va_up snum b (va_cpy (snum a) (snum b) (x2).toNatClampNeg (x4).toNatClampNeg (x5).toNatClampNeg))))))))))) else (ik_b2 (f_X6_tell fnd (-1000003 : Int32)) (fun r5 g6 => (some (r5, g6, snum))))) else (ik_b2 (f_X6_tell fnd (-1000006 : Int32)) (fun r5 g6 => (some (r5, g6, snum))))))) else (ik_b2 (f_X6_tell fnd (-1000006 : Int32)) (fun r4 g5 => (some (r4, g5, snum)))))))) hb rfl rfl rfl rfl, w_missing, w_missing, pu_b1]
      simp only [pu_gdN ha (show 4 < 2 ^ 31 by omega), pu_gdN hb (show 4 < 2 ^ 31 by omega)]
      by_cases c1 : sbits a = 0
      · rw [if_pos c1, decide_eq_true c1, if_neg (show ¬ bI true = 0 by decide)]
        obtain ⟨f', g', t1, t2, t3⟩ := fe6 hF
        rw [t1, t2, pu_b2, pu_b2]
        exact ⟨_, _, _, _, _, rfl, rfl, ⟨N, A, rfl, rfl, by omega, hM, hV, hS, hC⟩, hK.mono hk1, t3, hT, hSh⟩
      · rw [if_neg c1, decide_eq_false c1, if_pos bI_f, pu_b1]
        by_cases c2 : sbits b = 0
        · rw [if_pos c2, decide_eq_true c2, if_neg (show ¬ bI true = 0 by decide)]
          obtain ⟨f', g', t1, t2, t3⟩ := fe6 hF
          rw [t1, t2, pu_b2, pu_b2]
          exact ⟨_, _, _, _, _, rfl, rfl, ⟨N, A, rfl, rfl, by omega, hM, hV, hS, hC⟩, hK.mono hk1, t3, hT, hSh⟩
        · rw [if_neg c2, decide_eq_false c2, if_pos bI_f]
          by_cases c3 : sbits a = sbits b
          · rw [if_pos c3, if_pos c3, a4, b4, w_range hna, w_range hnb, pu_b1]
            have z : (0 : Int32).toInt = 0 := rfl
            have l5 := Int32.lt_iff_toInt_lt (x := x5) (y := 0)
            have l2 := Int32.lt_iff_toInt_lt (x := x2) (y := 0)
            have l4 := Int32.lt_iff_toInt_lt (x := x4) (y := 0)
            have ea := nI_toInt (n := na) (by omega)
            have eb := nI_toInt (n := nb) (by omega)
            by_cases good : (0 ≤ x2.toInt ∧ 0 ≤ x5.toInt ∧ x2.toInt + x5.toInt ≤ na) ∧ (0 ≤ x4.toInt ∧ 0 ≤ x5.toInt ∧ x4.toInt + x5.toInt ≤ nb)
            · obtain ⟨p, hp, rfl⟩ := nI_of (x := x2) (fun q => by have := l2.mp q; omega)
              obtain ⟨q, hq, rfl⟩ := nI_of (x := x4) (fun q => by have := l4.mp q; omega)
              obtain ⟨l, hl, rfl⟩ := nI_of (x := x5) (fun q => by have := l5.mp q; omega)
              rw [nI_toInt hp, nI_toInt hq, nI_toInt hl] at good
              rw [nI_toInt hp, nI_toInt hq, nI_toInt hl, decide_eq_true good.1, decide_eq_true good.2, if_neg (show ¬ bI true = 0 by decide), pu_b1, if_neg (show ¬ bI true = 0 by decide), if_neg (nI_pos hl), if_neg (nI_pos hp), if_neg (nI_pos hq), pk_sub (show p ≤ na by omega), pk_sub (show q ≤ nb by omega), if_neg (nI_nlt (show l ≤ na - p by omega) (by omega)), if_pos (nI_le (show l ≤ nb - q by omega) (by omega)), nI_clamp hp, nI_clamp hq, nI_clamp hl]
              unfold ik_gc
              rw [nI_clamp hp, nI_clamp hq, nI_clamp hl, if_pos ⟨nI_pos hp, nI_pos hq, nI_pos hl, by omega, by omega⟩]
              have hfin : ∀ v : Int32, ((v = 0 ∧ (a = b → q ≤ p)) ∨ (v = 1 ∧ a = b ∧ p < q)) → (fun p q => ∃ (R : Int32) (fnd_r : Nat → Int32) (snum_r : Nat → Nat → Int32) (mfound_r : Nat → Int32) (mnumber_r : Nat → Int32), p = some (R, fnd_r, snum_r) ∧ q = some (R, mfound_r, mnumber_r) ∧ Gd (k + 1) isk fnd_r nhour (nI A) nrub nz (nI N) nkd ncl ngr noc nlit ncold nccell ncpow nsp nwm ndr khour kair krub kz knb kkd kcl kgr koc klit kcold kccell kcpow ksp kwm kdr thour tair trub tz tnb tkd tcl tgr toc tlit tcold tccell tcpow tsp twm tdr tok sta en val tsize tby sbits ssize snum_r misKept mtaped msort mfrom mto mvalue mbad mm mkept mwas mother mfound_r mwarm mdrip mtape mbits msize mnumber_r) (some (nI l, fnd, va_up snum b (va_cpy (snum a) (snum b) p q l))) (j_X7_copy_134 mfound mnumber (nI a) (nI p) (nI b) (nI q) (nI l) v) := by
                intro v hv
                rw [m_cpy mfound mnumber ha hb (by omega) (by omega) hv]
                exact ⟨_, _, _, _, _, rfl, rfl, ⟨N, A, rfl, rfl, by omega, hM, hV, hS, hC⟩, hK.mono hk1, hF, hT, hSh.1.cpy ha hb (by omega) (by omega), hSh.2⟩
              by_cases d1 : a = b
              · rw [if_pos (show nI a = nI b by rw [d1])]
                by_cases d2 : q ≤ p
                · rw [if_pos (nI_le d2 hp)]
                  exact hfin 0 (Or.inl ⟨rfl, fun _ => d2⟩)
                · rw [if_neg (nI_ge (by omega) hq)]
                  exact hfin 1 (Or.inr ⟨rfl, d1, by omega⟩)
              · rw [if_neg (show ¬ nI a = nI b from fun h => d1 ((nI_eq (by omega) (by omega)).mp h))]
                exact hfin 0 (Or.inl ⟨rfl, fun h => absurd h d1⟩)
            · obtain ⟨f', g', t1, t2, t3⟩ := fe1 hF
              have hcl : (if bI (decide (0 ≤ x2.toInt ∧ 0 ≤ x5.toInt ∧ x2.toInt + x5.toInt ≤ na)) = 0 then ik_b2 (f_X6_tell fnd (-1000001)) (fun r6 g7 => some (r6, g7, snum)) else ik_b1 (some (bI (decide (0 ≤ x4.toInt ∧ 0 ≤ x5.toInt ∧ x4.toInt + x5.toInt ≤ nb)))) (fun r6 => if r6 = 0 then ik_b2 (f_X6_tell fnd (-1000001)) (fun r7 g8 => some (r7, g8, snum)) else ik_gc x2 x4 x5 40 40 (some (x5, fnd, va_up snum b (va_cpy (snum a) (snum b) x2.toNatClampNeg x4.toNatClampNeg x5.toNatClampNeg))))) = some (-1000001, f', snum) := by
                rw [t1, pu_b2, pu_b1]
                by_cases g1 : 0 ≤ x2.toInt ∧ 0 ≤ x5.toInt ∧ x2.toInt + x5.toInt ≤ na
                · rw [decide_eq_true g1, if_neg (show ¬ bI true = 0 by decide), decide_eq_false (fun g2 => good ⟨g1, g2⟩), if_pos bI_f]
                · rw [decide_eq_false g1, if_pos bI_f]
              rw [hcl, t2, pu_b2]
              by_cases m1 : x5 < 0
              · rw [if_pos m1]
                exact ⟨_, _, _, _, _, rfl, rfl, ⟨N, A, rfl, rfl, by omega, hM, hV, hS, hC⟩, hK.mono hk1, t3, hT, hSh⟩
              · rw [if_neg m1]
                by_cases m2 : x2 < 0
                · rw [if_pos m2]
                  exact ⟨_, _, _, _, _, rfl, rfl, ⟨N, A, rfl, rfl, by omega, hM, hV, hS, hC⟩, hK.mono hk1, t3, hT, hSh⟩
                · rw [if_neg m2]
                  by_cases m3 : x4 < 0
                  · rw [if_pos m3]
                    exact ⟨_, _, _, _, _, rfl, rfl, ⟨N, A, rfl, rfl, by omega, hM, hV, hS, hC⟩, hK.mono hk1, t3, hT, hSh⟩
                  · rw [if_neg m3]
                    by_cases m4 : nI na - x2 < x5
                    · rw [if_pos m4]
                      exact ⟨_, _, _, _, _, rfl, rfl, ⟨N, A, rfl, rfl, by omega, hM, hV, hS, hC⟩, hK.mono hk1, t3, hT, hSh⟩
                    · rw [if_neg m4]
                      by_cases m5 : x5 ≤ nI nb - x4
                      · exfalso
                        rw [l5] at m1
                        rw [l2] at m2
                        rw [l4] at m3
                        have h2r := Int32.toInt_lt x2
                        have h4r := Int32.toInt_lt x4
                        have es : (nI na - x2).toInt = na - x2.toInt := by
                          rw [Int32.toInt_sub, ea]
                          exact pu_bm (by omega) (by omega)
                        have es2 : (nI nb - x4).toInt = nb - x4.toInt := by
                          rw [Int32.toInt_sub, eb]
                          exact pu_bm (by omega) (by omega)
                        rw [Int32.lt_iff_toInt_lt, es] at m4
                        rw [Int32.le_iff_toInt_le, es2] at m5
                        exact good ⟨⟨by omega, by omega, by omega⟩, by omega, by omega, by omega⟩
                      · rw [if_neg m5]
                        exact ⟨_, _, _, _, _, rfl, rfl, ⟨N, A, rfl, rfl, by omega, hM, hV, hS, hC⟩, hK.mono hk1, t3, hT, hSh⟩
          · rw [if_neg c3, if_neg c3]
            obtain ⟨f', g', t1, t2, t3⟩ := fe3 hF
            rw [t1, t2, pu_b2, pu_b2]
            exact ⟨_, _, _, _, _, rfl, rfl, ⟨N, A, rfl, rfl, by omega, hM, hV, hS, hC⟩, hK.mono hk1, t3, hT, hSh⟩
