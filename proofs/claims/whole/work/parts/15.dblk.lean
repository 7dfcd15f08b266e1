/-! the block of a text -/
section
variable {T : Nat} {tby m mm : Nat → Int32} {hour cold air rub z : Int32} {N : Nat} {kd cl gr oc : Nat → Int32} {lit : Int32} {ccell cpow sp : Nat → Int32}
theorem w_build (hN : N < 16) {c : Nat} (hc : c < 48) (x y : Int32) : f_X5_build (nI N) kd cl gr oc x (nI c) y = some (nI N, nI (N + 1), upd kd N x, upd cl N (nI c), upd gr N y, upd oc c (nI N)) := by
  unfold f_X5_build f_X5_isFull
  rw [if_pos (show nI N < (16 : Int32) from nI_lt (b := 16) hN (by omega)), pu_b1, if_pos rfl, pu_6cell, pu_b1, show wn (nI c) 0 47 = true from decide_eq_true (by rw [nI_toInt (by omega)]; omega), if_neg (show ¬ bI true = 0 by decide), pu_gdN hN (by omega), pu_gdN hN (by omega), pu_gdN hN (by omega), pu_gdN hc (by omega), nI_clamp (by omega), nI_clamp (by omega), nI_1]
theorem m_comes (hN : N < 16) (h5 : mm 5 = nI N) (x y v : Int32) : f_X7_comes mm x y v = some (nI N, upd (upd (upd (upd mm (24 + 3 * N) x) (25 + 3 * N) y) (26 + 3 * N) v) 5 (nI (N + 1))) := by
  unfold f_X7_comes
  rw [pu_c5, h5, pu_x2, pu_x1, pu_x0, pu_gdN (show 24 + 3 * N < 82 by omega) (by omega), pu_gdN (show 25 + 3 * N < 82 by omega) (by omega), pu_gdN (show 26 + 3 * N < 82 by omega) (by omega), nI_clamp (show 24 + 3 * N < 2 ^ 31 by omega), nI_clamp (show 25 + 3 * N < 2 ^ 31 by omega), nI_clamp (show 26 + 3 * N < 2 ^ 31 by omega), upd_ne (show 5 ≠ 26 + 3 * N by omega), upd_ne (show 5 ≠ 25 + 3 * N by omega), upd_ne (show 5 ≠ 24 + 3 * N by omega), h5, nI_1]
theorem GS_build (hS : GS N cl gr) {c g : Nat} (hc : c < 48) (g1 : 0 < g) (g2 : g ≤ 99) : GS (N + 1) (upd cl N (nI c)) (upd gr N (nI g)) := by
  intro a ha
  by_cases e : a = N
  · rw [e, upd_eq, upd_eq]; exact ⟨g, g2, rfl, fun r => absurd r (nI_pos (by omega)), fun r => by omega⟩
  · rw [upd_ne e, upd_ne e]; exact hS a (by omega)
theorem m_73B {w : Nat} (s f t q : Int32) (x : Int32) {v : Int32} (h : f_X7_number (nI T) s f t x 0 m 0 47 v = some (x, s, f, t, x, 1)) : j_X7_blockItem_73 (nI T) mm m q 0 s f t x v = some (s, f, t, x, 1, mm) := by
  unfold j_X7_blockItem_73
  rw [h, pu_b6, m_takesB, pu_b5, if_pos (show (0 : Int32) = 0 from rfl), if_neg (show ¬ (1 : Int32) = 0 by decide)]
theorem block_both (hT : T ≤ 120) (hB : BY tby m) {tok0 val0 sort0 x0 : Int32} {f0 e0 q : Nat} (hq : q < 7) (tk0 : TK T m tok0 f0 e0 val0 sort0 x0) (hM : MS mm hour cold air rub z N kd cl gr lit ccell cpow sp) (hV : WV N kd cl oc) (hS : GS N cl gr) :
    ∃ r tok' f' e' val' sort' w' bad' N' kd' cl' gr' oc' mm', f_X4_readBlock tok0 (nI f0) (nI e0) val0 (nI T) tby (nI N) kd cl gr oc (nI q) = some (r, tok', nI f', nI e', val', nI N', kd', cl', gr', oc') ∧ f_X7_blockItem (nI T) sort0 (nI f0) (nI e0) x0 0 mm m (nI q) = some (sort', nI f', nI e', w', bad', mm') ∧ ((r = 0 ∧ bad' = 1 ∧ f' ≤ T) ∨ (r = 1 ∧ bad' = 0 ∧ e0 ≤ f' ∧ TK T m tok' f' e' val' sort' w' ∧ N ≤ N' ∧ MS mm' hour cold air rub z N' kd' cl' gr' lit ccell cpow sp ∧ WV N' kd' cl' oc' ∧ GS N' cl' gr')) := by
  have hN := hM.hN
  have tkk0 := tk0
  obtain ⟨hfe0, heT0, k0, w0, hk0, rfl, rfl, hw0, rfl, hv0, hfl0, hs0⟩ := tk0
  unfold f_X4_readBlock f_X7_blockItem f_X5_isFull j_X7_blockItem_28
  rw [if_pos (show (0 : Int32) = 0 from rfl), if_neg (nI_pos (by omega)), pu_c5, hM.h5]
  by_cases hf : N < 16
  · have l2 : ¬ nI N = (16 : Int32) := fun p => by have := (nI_eq (b := 16) (by omega) (by omega)).mp p; omega
    obtain ⟨tok1, f1, e1, val1, sort1, x1, p1, tk1, a1, b1⟩ := tok_both hT hB (e0 := e0) heT0 (nI k0) (nI f0) val0 (nI (min k0 3)) (nI f0) (nI w0)
    have tkk1 := tk1
    obtain ⟨hfe1, heT1, k1, w1, hk1, rfl, rfl, hw1, rfl, hv1, hfl1, hs1⟩ := tk1
    rw [if_pos (show nI N < (16 : Int32) from nI_lt (b := 16) hf (by omega)), pu_b1, if_pos (show (0 : Int32) = 0 from rfl), if_neg l2, show ∀ k : Option (Int32 × Int32 × Int32 × Int32 × Int32 × (Nat → Int32)), ik_gz 0 k = k from fun k => pu_gz (p := false), if_pos (show (0 : Int32) = 0 from rfl), a1, pu_b4, b1, pu_b4, w_isNumber (lo := 0) (hi := 47) (x := 0) (y := 47) hk1 hv1 rfl rfl (by omega) (by omega), pu_b1, pu_7cell, pu_b1]
    have hnum := m_number (T := T) (m := m) (lo := 0) (hi := 47) (x := 0) (y := 47) hk1 hw1 rfl rfl (by omega) (by omega) (nI f1) (nI e1)
    cases hi : isn k1 w1 0 47
    · rw [if_pos bI_f]
      rw [hi, if_neg (show ¬ false = true by decide)] at hnum
      have q0 := m_73B (T := T) (m := m) (mm := mm) (w := 0) (nI (min k1 3)) (nI f1) (nI e1) (nI q) (nI w1) (v := 0) (m_number0 _ _ _ _ _ _)
      have q1 := m_73B (T := T) (m := m) (mm := mm) (w := 0) (nI (min k1 3)) (nI f1) (nI e1) (nI q) (nI w1) (v := 1) hnum
      rw [q0, q1]
      have hbo : ∃ y, (if bI (wn (nI w1) 0 47) = 0 then some (nI (min k1 3), nI f1, nI e1, nI w1, (1 : Int32), mm) else ik_b1 (f_X7_blockOn mm (nI w1)) (fun r6 => if (0 : Int32) ≤ r6 then some (nI (min k1 3), nI f1, nI e1, nI w1, 1, mm) else some (nI (min k1 3), nI f1, nI e1, nI w1, 1, mm))) = some y ∧ y = (nI (min k1 3), nI f1, nI e1, nI w1, 1, mm) := by
        rw [m_bon hM.rm (nI_pos (by omega)), pu_b1, ite_self, ite_self]
        exact ⟨_, rfl, rfl⟩
      obtain ⟨y, y1, rfl⟩ := hbo
      rw [y1]
      exact ⟨_, _, _, _, _, _, _, _, N, _, _, _, _, _, rfl, rfl, Or.inl ⟨rfl, rfl, by omega⟩⟩
    · obtain ⟨i1, i2, i3⟩ := isn_t hi
      rw [hi, if_pos rfl] at hnum
      have ev1 : val1 = nI w1 := by rw [hv1 i1, show min 1000 w1 = w1 by omega]
      subst ev1
      rw [if_neg (show ¬ bI true = 0 by decide), show wn (nI w1) 0 47 = true from decide_eq_true (by rw [nI_toInt (by omega)]; omega), if_neg (show ¬ bI true = 0 by decide), w_blockAt hV.oc (show w1 < 48 by omega), m_bon hM.rm (nI_pos (by omega)), pu_b1, pu_b1]
      rcases bo_cases N cl (nI w1) with ⟨b, p1', p2', p3'⟩ | ⟨p1', p2'⟩
      · rw [p3', if_neg (nI_pos (by omega)), if_pos (nI_pos' (by omega)), m_73B (w := 0) _ _ _ _ _ (m_number0 _ _ _ _ _ _)]
        exact ⟨_, _, _, _, _, _, _, _, N, _, _, _, _, _, rfl, rfl, Or.inl ⟨rfl, rfl, by omega⟩⟩
      · rw [p1', if_pos (show (-1 : Int32) < 0 by decide), if_neg (show ¬ (0 : Int32) ≤ -1 by decide)]
        unfold j_X7_blockItem_73
        obtain ⟨tok2, f2, e2, val2, sort2, x2, p2, tk2, a2, b2⟩ := tok_both hT hB (e0 := e1) heT1 (nI k1) (nI f1) (nI w1) (nI (min k1 3)) (nI f1) (nI w1)
        have tkk2 := tk2
        obtain ⟨hfe2, heT2, k2, w2, hk2, rfl, rfl, hw2, rfl, hv2, hfl2, hs2⟩ := tk2
        rw [a2, pu_b4, hnum, b2, pu_b4, pu_b6, w_isWord hT hB hk2 hfe2 heT2 (wi := 2) (by omega), pu_b1, m_takes hT hk2 hfe2 heT2 (wi := 23) (by omega), wd_eq (a := 23) (b := 2) rfl]
        cases hw : (decide (k2 = 1) && wdB m f2 e2 2)
        · rw [if_pos bI_f, if_pos bI_f, w_build hf (by omega), pu_b6, pu_b5, if_pos (show (0 : Int32) = 0 from rfl), if_pos (show (0 : Int32) = 0 from rfl), m_comes hf hM.h5, pu_b2]
          exact ⟨_, _, _, _, _, _, _, _, N + 1, _, _, _, _, _, rfl, rfl, Or.inr ⟨rfl, rfl, by omega, tkk2, by omega, (((hM.u_kd hf (nI q)).u_cl hf (nI w1)).u_gr hf (nI 20)).u_N (by omega), WV_build hf hV hq (by omega) p2', GS_build hS (g := 20) (by omega) (by omega) (by omega)⟩⟩
        · rw [if_neg (show ¬ bI true = 0 by decide), if_neg (show ¬ bI true = 0 by decide)]
          obtain ⟨tok3, f3, e3, val3, sort3, x3, p3, tk3, a3, b3⟩ := tok_both hT hB (e0 := e2) heT2 (nI k2) (nI f2) val2 (nI (min k2 3)) (nI f2) (nI w2)
          have tkk3 := tk3
          obtain ⟨hfe3, heT3, k3, w3, hk3, rfl, rfl, hw3, rfl, hv3, hfl3, hs3⟩ := tk3
          rw [a3, pu_b4, b3, pu_b4, pu_b5, if_neg (show ¬ (1 : Int32) = 0 by decide), w_isNumber (lo := 1) (hi := 99) (x := 1) (y := 99) hk3 hv3 rfl rfl (by omega) (by omega), pu_b1, m_number (lo := 1) (hi := 99) (x := 1) (y := 99) hk3 hw3 rfl rfl (by omega) (by omega)]
          cases hi3 : isn k3 w3 1 99
          · rw [if_pos bI_f, if_neg (show ¬ false = true by decide), pu_b6, if_neg (show ¬ (1 : Int32) = 0 by decide)]
            exact ⟨_, _, _, _, _, _, _, _, N, _, _, _, _, _, rfl, rfl, Or.inl ⟨rfl, rfl, by omega⟩⟩
          · obtain ⟨j1, j2, j3⟩ := isn_t hi3
            have ev3 : val3 = nI w3 := by rw [hv3 j1, show min 1000 w3 = w3 by omega]
            subst ev3
            obtain ⟨tok4, f4, e4, val4, sort4, x4, p4, tk4, a4, b4⟩ := tok_both hT hB (e0 := e3) heT3 (nI k3) (nI f3) (nI w3) (nI (min k3 3)) (nI f3) (nI w3)
            have tkk4 := tk4
            obtain ⟨hfe4, heT4, k4, w4, hk4, rfl, rfl, hw4, rfl, hv4, hfl4, hs4⟩ := tk4
            rw [if_neg (show ¬ bI true = 0 by decide), if_pos rfl, a4, pu_b4, b4, pu_b4, pu_b6, if_pos (show (0 : Int32) = 0 from rfl), w_build hf (by omega), pu_b6, m_comes hf hM.h5, pu_b2]
            exact ⟨_, _, _, _, _, _, _, _, N + 1, _, _, _, _, _, rfl, rfl, Or.inr ⟨rfl, rfl, by omega, tkk4, by omega, (((hM.u_kd hf (nI q)).u_cl hf (nI w1)).u_gr hf (nI w3)).u_N (by omega), WV_build hf hV hq (by omega) p2', GS_build hS (by omega) (by omega) (by omega)⟩⟩
  · have hN16 : N = 16 := by omega
    subst hN16
    rw [if_neg (show ¬ nI 16 < (16 : Int32) by decide), pu_b1, if_neg (show ¬ (1 : Int32) = 0 by decide), if_pos (show nI 16 = (16 : Int32) by decide), show ∀ k : Option (Int32 × Int32 × Int32 × Int32 × Int32 × (Nat → Int32)), ik_gz 1 k = k from fun k => pu_gz (p := true), if_neg (show ¬ (1 : Int32) = 0 by decide)]
    exact ⟨_, _, _, _, _, _, _, _, 16, _, _, _, _, _, rfl, rfl, Or.inl ⟨rfl, rfl, by omega⟩⟩
end
