/-! one item, and the text -/
section
variable {T : Nat} {tby m mm : Nat → Int32} {hour cold air rub z : Int32} {N : Nat} {kd cl gr oc : Nat → Int32} {lit : Int32} {ccell cpow sp : Nat → Int32}
theorem item_both (hT : T ≤ 120) (hB : BY tby m) {tok0 val0 sort0 x0 : Int32} {f0 e0 : Nat} (tk0 : TK T m tok0 f0 e0 val0 sort0 x0) (hM : MS mm hour cold air rub z N kd cl gr lit ccell cpow sp) (hV : WV N kd cl oc) (hS : GS N cl gr) (hC : CI cold ccell cpow) :
    ∃ r tok' f' e' val' sort' w' bad' N' kd' cl' gr' oc' lit' cold' ccell' cpow' mm', f_X4_readItem tok0 (nI f0) (nI e0) val0 (nI T) tby (nI N) kd cl gr oc lit cold ccell cpow = some (r, tok', nI f', nI e', val', nI N', kd', cl', gr', oc', lit', cold', ccell', cpow') ∧ f_X7_item (nI T) sort0 (nI f0) (nI e0) x0 0 mm m = some (sort', nI f', nI e', w', bad', mm') ∧ ((r = 0 ∧ bad' = 1 ∧ f' ≤ T) ∨ (r = 1 ∧ bad' = 0 ∧ f0 < f' ∧ TK T m tok' f' e' val' sort' w' ∧ N ≤ N' ∧ MS mm' hour cold' air rub z N' kd' cl' gr' lit' ccell' cpow' sp ∧ WV N' kd' cl' oc' ∧ GS N' cl' gr' ∧ CI cold' ccell' cpow')) := by
  have tkk0 := tk0
  obtain ⟨hfe0, heT0, k0, w0, hk0, rfl, rfl, hw0, rfl, hv0, hfl0, hs0⟩ := tk0
  obtain ⟨r, r1, r2, hr⟩ := kind_both hT hB hk0 hfe0 heT0
  have t24 := m_takes (m := m) hT hk0 hfe0 heT0 (wi := 24) (by omega) (nI w0)
  have t25 := m_takes (m := m) hT hk0 hfe0 heT0 (wi := 25) (by omega) (nI w0)
  rw [wd_eq (a := 24) (b := 0) rfl] at t24
  rw [wd_eq (a := 25) (b := 1) rfl] at t25
  unfold f_X4_readItem f_X7_item
  rw [r1, pu_b1]
  rcases hr with rfl | ⟨q, hq, rfl, hk1, hwd⟩
  · rw [if_pos (show (-1 : Int32) < 0 by decide), w_isWord hT hB hk0 hfe0 heT0 (wi := 0) (by omega), pu_b1, t24]
    cases h0 : (decide (k0 = 1) && wdB m f0 e0 0)
    · rw [if_pos bI_f, if_pos bI_f, pu_b5, if_pos (show (0 : Int32) = 0 from rfl), w_isWord hT hB hk0 hfe0 heT0 (wi := 1) (by omega), pu_b1, t25]
      cases h1 : (decide (k0 = 1) && wdB m f0 e0 1)
      · rw [if_pos bI_f, if_pos bI_f, pu_b5, if_pos (show (0 : Int32) = 0 from rfl), r2, pu_b1]
        have hbi : f_X7_blockItem (nI T) (nI (min k0 3)) (nI f0) (nI e0) (nI w0) 0 mm m (-1) = some (nI (min k0 3), nI f0, nI e0, nI w0, 1, mm) := by
          unfold f_X7_blockItem j_X7_blockItem_28
          rw [if_pos (show (0 : Int32) = 0 from rfl), if_pos (show (-1 : Int32) < 0 by decide), show ∀ k : Option (Int32 × Int32 × Int32 × Int32 × Int32 × (Nat → Int32)), ik_gz 1 k = k from fun k => pu_gz (p := true), if_neg (show ¬ (1 : Int32) = 0 by decide)]
        rw [hbi, pu_b6]
        exact ⟨_, _, _, _, _, _, _, _, N, _, _, _, _, _, _, _, _, _, rfl, rfl, Or.inl ⟨rfl, rfl, by omega⟩⟩
      · have hkk : k0 = 1 := by rw [Bool.and_eq_true, decide_eq_true_eq] at h1; exact h1.1
        have hlt := hfl0 (by omega)
        rw [if_neg (show ¬ bI true = 0 by decide), if_neg (show ¬ bI true = 0 by decide)]
        obtain ⟨tok1, f1, e1, val1, sort1, x1, p1, tk1, a1, b1⟩ := tok_both hT hB (e0 := e0) heT0 (nI k0) (nI f0) val0 (nI (min k0 3)) (nI f0) (nI w0)
        have tkk1 := tk1
        obtain ⟨hfe1, heT1, k1, w1, hk1, rfl, rfl, hw1, rfl, hv1, hfl1, hs1⟩ := tk1
        rw [b1, pu_b4, pu_b5, if_neg (show ¬ (1 : Int32) = 0 by decide)]
        obtain ⟨r, tok', f', e', val', sort', w', bad', cold', mm', u1, u2, hu⟩ := cold_both hT hB a1 tkk1 hM hC
        rw [u1, pu_b6, u2, pu_b6]
        rcases hu with ⟨rfl, rfl, hfb⟩ | ⟨rfl, rfl, v1, v2, v3, v4⟩
        · rw [if_pos (show (0 : Int32) = 0 from rfl)]
          exact ⟨_, _, _, _, _, _, _, _, N, _, _, _, _, _, _, _, _, _, rfl, rfl, Or.inl ⟨rfl, rfl, by omega⟩⟩
        · rw [if_neg (show ¬ (1 : Int32) = 0 by decide)]
          exact ⟨_, _, _, _, _, _, _, _, N, _, _, _, _, _, _, _, _, _, rfl, rfl, Or.inr ⟨rfl, rfl, by omega, v2, Nat.le_refl N, v3, hV, hS, v4⟩⟩
    · have hkk : k0 = 1 := by rw [Bool.and_eq_true, decide_eq_true_eq] at h0; exact h0.1
      have hlt := hfl0 (by omega)
      rw [if_neg (show ¬ bI true = 0 by decide), if_neg (show ¬ bI true = 0 by decide)]
      obtain ⟨tok1, f1, e1, val1, sort1, x1, p1, tk1, a1, b1⟩ := tok_both hT hB (e0 := e0) heT0 (nI k0) (nI f0) val0 (nI (min k0 3)) (nI f0) (nI w0)
      have tkk1 := tk1
      obtain ⟨hfe1, heT1, k1, w1, hk1, rfl, rfl, hw1, rfl, hv1, hfl1, hs1⟩ := tk1
      rw [b1, pu_b4, pu_b5, if_neg (show ¬ (1 : Int32) = 0 by decide)]
      obtain ⟨r, tok', f', e', val', sort', w', bad', lit', ccell', cpow', mm', u1, u2, hu⟩ := candle_both hT hB a1 tkk1 hM hC
      rw [u1, pu_b8, u2, pu_b6]
      rcases hu with ⟨rfl, rfl, hfb⟩ | ⟨rfl, rfl, v1, v2, v3, v4⟩
      · unfold ik_gz
        rw [if_pos (Or.inl rfl)]
        exact ⟨_, _, _, _, _, _, _, _, N, _, _, _, _, _, _, _, _, _, rfl, rfl, Or.inl ⟨rfl, rfl, by omega⟩⟩
      · unfold ik_gz
        rw [if_pos (Or.inr rfl)]
        exact ⟨_, _, _, _, _, _, _, _, N, _, _, _, _, _, _, _, _, _, rfl, rfl, Or.inr ⟨rfl, rfl, by omega, v2, Nat.le_refl N, v3, hV, hS, v4⟩⟩
  · have hlt := hfl0 (by omega)
    have w0' : (decide (k0 = 1) && wdB m f0 e0 0) = false := by rw [wd_excl hq (b := 0) (by omega) hwd, Bool.and_false]
    have w1' : (decide (k0 = 1) && wdB m f0 e0 1) = false := by rw [wd_excl hq (b := 1) (by omega) hwd, Bool.and_false]
    rw [if_neg (nI_pos (by omega)), t24, w0', if_pos bI_f, pu_b5, if_pos (show (0 : Int32) = 0 from rfl), t25, w1', if_pos bI_f, pu_b5, if_pos (show (0 : Int32) = 0 from rfl), r2, pu_b1]
    obtain ⟨r, tok', f', e', val', sort', w', bad', N', kd', cl', gr', oc', mm', u1, u2, hu⟩ := block_both hT hB hq tkk0 hM hV hS
    rw [u1, pu_b10, u2, pu_b6]
    rcases hu with ⟨rfl, rfl, hfb⟩ | ⟨rfl, rfl, v1, v2, v3, v4, v5, v6⟩
    · unfold ik_gz
      rw [if_pos (Or.inl rfl)]
      exact ⟨_, _, _, _, _, _, _, _, N', _, _, _, _, _, _, _, _, _, rfl, rfl, Or.inl ⟨rfl, rfl, by omega⟩⟩
    · unfold ik_gz
      rw [if_pos (Or.inr rfl)]
      exact ⟨_, _, _, _, _, _, _, _, N', _, _, _, _, _, _, _, _, _, rfl, rfl, Or.inr ⟨rfl, rfl, by omega, v2, v3, v4, v5, v6, hC⟩⟩
theorem read_both (hT : T ≤ 120) (hB : BY tby m) (tok sta val sort fr value : Int32) (hM : MS mm hour cold air rub z N kd cl gr lit ccell cpow sp) (hV : WV N kd cl oc) (hS : GS N cl gr) (hC : CI cold ccell cpow) (g1 : Nat → Int32) :
    ∃ tok1 f1 e1 val1 sort1 x1, f_X7_token (nI T) sort fr 0 value m = some (sort1, nI f1, nI e1, x1) ∧ TK T m tok1 f1 e1 val1 sort1 x1 ∧
    ((∃ p a1 a2 a3 a4 a5 a6 a7 a8 a9 a10 a11 a12 a13 b2 b3 b4 b5 b6 mX, p ≤ 120 ∧ f_X4_readInto tok sta 0 val (nI T) tby (nI N) kd cl gr oc lit cold ccell cpow = some (-1 - nI p, a1, a2, a3, a4, a5, a6, a7, a8, a9, a10, a11, a12, a13) ∧ ik_lp8 (b_X7_text_29 (nI T) m g1) ik_fu sort1 (nI f1) (nI e1) x1 0 mm 0 1 = some (-1 - nI p, 0, b2, b3, b4, b5, b6, fw g1 mX 82, g1)) ∨
     (∃ n a1 a2 a3 a4 N' kd' cl' gr' oc' lit' cold' ccell' cpow' b2 b3 b4 b5 b6 mm', n < 200 ∧ f_X4_readInto tok sta 0 val (nI T) tby (nI N) kd cl gr oc lit cold ccell cpow = some (nI n, a1, a2, a3, a4, nI N', kd', cl', gr', oc', lit', cold', ccell', cpow') ∧ ik_lp8 (b_X7_text_29 (nI T) m g1) ik_fu sort1 (nI f1) (nI e1) x1 0 mm 0 1 = some (nI n, 0, b2, b3, b4, b5, b6, mm', g1) ∧ N ≤ N' ∧ MS mm' hour cold' air rub z N' kd' cl' gr' lit' ccell' cpow' sp ∧ WV N' kd' cl' oc' ∧ GS N' cl' gr' ∧ CI cold' ccell' cpow')) := by
  obtain ⟨tok1, f1, e1, val1, sort1, x1, p1, tk1, a1, b1⟩ := tok_both hT hB (e0 := 0) (Nat.zero_le _) tok sta val sort fr value
  refine ⟨tok1, f1, e1, val1, sort1, x1, b1, tk1, ?_⟩
  have a1' : f_X4_advance tok sta 0 val (nI T) tby = _ := a1
  unfold f_X4_readInto
  rw [a1', pu_b4, lp_unc14, lp_unc8]
  refine lp_rel (R := fun p q => (∃ p' a1 a2 a3 a4 a5 a6 a7 a8 a9 a10 a11 a12 a13 b2 b3 b4 b5 b6 mX, p' ≤ 120 ∧ p = some (-1 - nI p', a1, a2, a3, a4, a5, a6, a7, a8, a9, a10, a11, a12, a13) ∧ q = some (-1 - nI p', 0, b2, b3, b4, b5, b6, fw g1 mX 82, g1)) ∨
     (∃ n a1 a2 a3 a4 N' kd' cl' gr' oc' lit' cold' ccell' cpow' b2 b3 b4 b5 b6 mm', n < 200 ∧ p = some (nI n, a1, a2, a3, a4, nI N', kd', cl', gr', oc', lit', cold', ccell', cpow') ∧ q = some (nI n, 0, b2, b3, b4, b5, b6, mm', g1) ∧ N ≤ N' ∧ MS mm' hour cold' air rub z N' kd' cl' gr' lit' ccell' cpow' sp ∧ WV N' kd' cl' oc' ∧ GS N' cl' gr' ∧ CI cold' ccell' cpow'))
    (fun i q r => ∃ tok f e val sort x N' kd' cl' gr' oc' lit' cold' ccell' cpow' mm', q = (tok, nI f, nI e, val, nI N', kd', cl', gr', oc', lit', cold', ccell', cpow', nI (1 + i)) ∧ r = (sort, nI f, nI e, x, 0, mm', nI i, 1) ∧ 2 * i ≤ f ∧ TK T m tok f e val sort x ∧ N ≤ N' ∧ MS mm' hour cold' air rub z N' kd' cl' gr' lit' ccell' cpow' sp ∧ WV N' kd' cl' oc' ∧ GS N' cl' gr' ∧ CI cold' ccell' cpow') 61 ?_ ?_ _ _ ⟨tok1, f1, e1, val1, sort1, x1, N, _, _, _, _, _, _, _, _, mm, rfl, rfl, by omega, tk1, Nat.le_refl N, hM, hV, hS, hC⟩ _ _ (pu_fu (by omega)) (pu_fu (by omega))
  · rintro i q r hi ⟨tok0, f0, e0, val0, sort0, x0, N0, kd0, cl0, gr0, oc0, lit0, cold0, ccell0, cpow0, mm0, rfl, rfl, j1, j2, j3, j4, j5, j6, j7⟩ rc rd - hrd hc
    obtain ⟨r, tok', f', e', val', sort', w', bad', N', kd', cl', gr', oc', lit', cold', ccell', cpow', mm', u1, u2, hu⟩ := item_both hT hB j2 j4 j5 j6 j7
    have hf0 : f0 ≤ T := Nat.le_trans j2.1 j2.2.1
    dsimp only
    unfold b_X4_readInto_11 b_X7_text_29
    rw [if_neg (show ¬ (120 : Int32) < nI (1 + i) from nI_nlt (a := 120) (by omega) (by omega)), if_neg (show ¬ (1 : Int32) = 0 by decide), u1, pu_b14, u2, pu_b6]
    rcases hu with ⟨rfl, rfl, hfb⟩ | ⟨rfl, rfl, v1, v2, v3, v4, v5, v6, v7⟩
    · obtain ⟨rd', hr⟩ := hrd (sort', nI f', nI e', w', 1, mm', nI i + 1, 0)
      dsimp only at hr
      unfold b_X7_text_29 at hr
      rw [if_pos (show (0 : Int32) = 0 from rfl), if_neg (show ¬ (1 : Int32) = 0 by decide), if_neg (show ¬ (1 : Int32) = 0 by decide), m_row, pu_b1] at hr
      rw [if_pos (show (0 : Int32) = 0 from rfl), m_signB, pu_b1, if_pos (show (0 : Int32) = 0 from rfl)]
      dsimp only
      rw [hr]
      exact Or.inl ⟨f', _, _, _, _, _, _, _, _, _, _, _, _, _, _, _, _, _, _, _, by omega, rfl, rfl⟩
    · have tkk' := v2
      obtain ⟨hfe1, heT1, k1, w1, hk1, rfl, rfl, hw1, rfl, hv1, hfl1, hs1⟩ := v2
      have hsg := m_sign (e := e') hT hB hk1 (fun h => (hs1 h).1) (c := 59) (x := 59) (by omega) rfl
      rw [if_neg (show ¬ (1 : Int32) = 0 by decide), hsg, pu_b1]
      by_cases k0 : k1 = 0
      · subst k0
        obtain ⟨rd', hr⟩ := hrd (nI (min 0 3), nI f', nI e', nI w1, 0, mm', nI i + 1, 0)
        dsimp only at hr
        unfold b_X7_text_29 at hr
        rw [if_pos (show (0 : Int32) = 0 from rfl), if_pos (show (0 : Int32) = 0 from rfl), if_pos (show nI (min 0 3) = 0 from rfl), if_pos (show (0 : Int32) = 0 from rfl)] at hr
        rw [if_pos (show nI 0 = 0 from rfl), decide_eq_false (show ¬ 3 ≤ 0 by omega), Bool.false_and, if_pos bI_f]
        dsimp only
        rw [show bI false = 0 from rfl, hr, nI_1]
        exact Or.inr ⟨1 + i, _, _, _, _, N', _, _, _, _, _, _, _, _, _, _, _, _, _, mm', by omega, rfl, by rw [Nat.add_comm 1 i], by omega, v4, v5, v6, v7⟩
      · rw [if_neg (show ¬ nI k1 = 0 from fun h => k0 ((nI_eq (b := 0) (by omega) (by omega)).mp h))]
        by_cases k3 : k1 = 3
        · have hcy := (hs1 (by omega)).2.1.mp k3
          rw [if_pos (show nI k1 = 3 by rw [k3]; rfl), decide_eq_true (show 3 ≤ k1 by omega), decide_eq_true hcy, if_neg (show ¬ bI (true && true) = 0 by decide)]
          obtain ⟨tok2, f2, e2, val2, sort2, x2, p2, tk2, a2, b2⟩ := tok_both hT hB (e0 := e') heT1 (nI k1) (nI f') val' (nI (min k1 3)) (nI f') (nI w1)
          have hlt := hfl1 k0
          rw [a2, pu_b4, b2, pu_b4, nI_1, nI_1, Nat.add_assoc, show bI (true && true) = 1 from rfl]
          exact hc _ _ ⟨_, f2, e2, _, _, _, N', _, _, _, _, _, _, _, _, mm', rfl, rfl, by omega, tk2, by omega, v4, v5, v6, v7⟩
        · have hns : (decide (3 ≤ k1) && decide (cy m f' = 59)) = false := by
            by_cases g3 : 3 ≤ k1
            · rw [decide_eq_false (fun h => k3 ((hs1 g3).2.1.mpr h)), Bool.and_false]
            · rw [decide_eq_false g3, Bool.false_and]
          obtain ⟨rd', hr⟩ := hrd (nI (min k1 3), nI f', nI e', nI w1, 0, mm', nI i + 1, 0)
          dsimp only at hr
          unfold b_X7_text_29 at hr
          rw [if_pos (show (0 : Int32) = 0 from rfl), if_pos (show (0 : Int32) = 0 from rfl), if_neg (show ¬ nI (min k1 3) = 0 from fun h => by have := (nI_eq (b := 0) (by omega) (by omega)).mp h; omega), if_neg (show ¬ (1 : Int32) = 0 by decide), m_row, pu_b1] at hr
          rw [if_neg (show ¬ nI k1 = 3 from fun h => k3 ((nI_eq (b := 3) (by omega) (by omega)).mp h)), hns, if_pos bI_f]
          dsimp only
          rw [show bI false = 0 from rfl, hr]
          exact Or.inl ⟨f', _, _, _, _, _, _, _, _, _, _, _, _, _, _, _, _, _, _, _, by omega, rfl, rfl⟩
  · rintro q r ⟨tok0, f0, e0, val0, sort0, x0, N0, kd0, cl0, gr0, oc0, lit0, cold0, ccell0, cpow0, mm0, rfl, rfl, j1, j2, -⟩ rc rd
    have := j2.1
    have := j2.2.1
    omega
end
theorem g_text : hy_text Gd := by
  intro k isk fnd nhour nair nrub nz nnb nkd ncl ngr noc nlit ncold nccell ncpow nsp nwm ndr khour kair krub kz knb kkd kcl kgr koc klit kcold kccell kcpow ksp kwm kdr thour tair trub tz tnb tkd tcl tgr toc tlit tcold tccell tcpow tsp twm tdr tok sta en val tsize tby sbits ssize snum misKept mtaped msort mfrom mto mvalue mbad mm mkept mwas mother mfound mwarm mdrip mtape mbits msize mnumber hk hG
  obtain ⟨⟨N, A, rfl, rfl, hA, hM, hV, hS, hC⟩, hK, hF, hT, hSh⟩ := hG
  have hN := hM.hN
  have hk1 := gd_k k
  obtain ⟨rfl, ⟨T, hT1, rfl⟩, hT3⟩ := hT
  have hB : BY tby mtape := hT3
  have hT0 : TP 0 tby 0 mtape := ⟨rfl, ⟨0, by omega, rfl⟩, hT3⟩
  unfold f_X6_text f_X7_text
  obtain ⟨kd', cl', gr', oc', ccell', cpow', sp', e, r1, r2, r3, r4, r5, r6, r7, r8, r9, r10, r11⟩ := w_fresh hM hV hS hC thour tair trub tz tnb tkd tcl tgr toc tlit tcold tccell tcpow tsp
  obtain ⟨tok1, f1, e1, val1, sort1, y1, q1, -, hq⟩ := read_both hT1 hB tok sta val msort mfrom mvalue r1 r2 r3 r4 (fw mm mwas 82)
  rw [m_row, pu_b1, q1, pu_b4, e, pu_b14]
  have hen : ∀ en, f_X4_readInto tok sta en val (nI T) tby (nI N) kd' cl' gr' oc' nlit ncold ccell' cpow' = f_X4_readInto tok sta 0 val (nI T) tby (nI N) kd' cl' gr' oc' nlit ncold ccell' cpow' := fun _ => rfl
  rw [hen en]
  rcases hq with ⟨p, c1, c2, c3, c4, c5, c6, c7, c8, c9, c10, c11, c12, c13, b2, b3, b4, b5, b6, mX, hp, u1, u2⟩ | ⟨n, c1, c2, c3, c4, N', kd2, cl2, gr2, oc2, lit2, cold2, ccell2, cpow2, b2, b3, b4, b5, b6, mm2, hn, u1, u2, v1, v2, v3, v4, v5⟩
  · have hneg : (-1 : Int32) - nI p < 0 := by
      rw [Int32.lt_iff_toInt_lt, Int32.toInt_sub, nI_toInt (by omega), show (-1 : Int32).toInt = -1 from rfl, pu_bm (by omega) (by omega)]
      show _ < (0 : Int)
      omega
    rw [u1, pu_b14, u2, if_pos hneg]
    exact ⟨_, _, _, _, _, _, _, _, _, _, _, _, _, _, _, _, _, _, _, _, _, _, _, _, _, _, _, _, _, _, _, _, _, _, _, _, _, _, _, _, _, _, rfl, rfl, ⟨N, A, rfl, rfl, by omega, hM.fw.fw, hV, hS, hC⟩, hK.mono hk1, hF, hT0, hSh⟩
  · obtain ⟨kd3, cl3, gr3, oc3, ccell3, cpow3, sp3, e', s1, s2, s3, s4, s5, s6, s7, s8, s9, s10, s11⟩ := w_copy v2 v3 v4 v5 nhour (nI A) nrub nz (nI N) nkd ncl ngr noc nlit ncold nccell ncpow nsp
    have hN' := v2.hN
    rw [u1, pu_b14, u2, if_neg (nI_pos (by omega)), e', pu_b14]
    exact ⟨_, _, _, _, _, _, _, _, _, _, _, _, _, _, _, _, _, _, _, _, _, _, _, _, _, _, _, _, _, _, _, _, _, _, _, _, _, _, _, _, _, _, rfl, rfl, ⟨N', A, rfl, rfl, by omega, s1, s2, s3, s4⟩, hK.mono hk1, hF, hT0, hSh.1, (hSh.2.cg (fun j hj => (s11 j hj).trans (r11 j hj))).up (nI_le v1 (by omega))⟩
