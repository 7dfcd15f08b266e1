/-! melting and mending, drips -/
theorem upd_self {f : Nat → Int32} {i : Nat} {v : Int32} (h : f i = v) : upd f i v = f := by
  funext j
  by_cases e : j = i
  · rw [e, upd_eq, h]
  · rw [upd_ne e]
theorem ik_minN {a b : Nat} (ha : a < 2 ^ 31) (hb : b < 2 ^ 31) : ik_min (nI a) (nI b) = nI (min a b) := by
  unfold ik_min
  by_cases g : b < a
  · rw [if_pos (nI_lt g ha), Nat.min_eq_right (by omega)]
  · rw [if_neg (nI_nlt (by omega) hb), Nat.min_eq_left (by omega)]
section
variable {mm : Nat → Int32} {hour cold rub z : Int32} {A N : Nat} {kd cl gr oc : Nat → Int32} {lit : Int32} {ccell cpow sp : Nat → Int32}
theorem me_both (h : MS mm hour cold (nI A) rub z N kd cl gr lit ccell cpow sp) {b c G D : Nat} (hb : b < N) (hc : c < 48) (e : cl b = nI c) (hG : G ≤ 99) (eg : gr b = nI G) (hA : A < 2 ^ 30) {wm W dr md : Nat → Int32} (hw : wm b = W b) (hw1 : -20 ≤ (W b).toInt) (hw2 : (W b).toInt ≤ 200) (hD : D < 2 ^ 20) (e1 : dr (c % 8) = nI D) (e2 : md (c % 8) = nI D) :
    ∃ (A' G' D' : Nat) (mm' : Nat → Int32), A' ≤ A + 100 ∧ G' ≤ 99 ∧ D' ≤ D + 100 ∧ f_X1_meltOrMend (nI A) cl gr wm dr (nI b) = some (nI A', upd gr b (nI G'), upd dr (c % 8) (nI D')) ∧ f_X7_melts mm W md (nI b) = some (mm', upd md (c % 8) (nI D')) ∧ MS mm' hour cold (nI A') rub z N kd cl (upd gr b (nI G')) lit ccell cpow sp := by
  have hN := h.hN
  have hb16 : b < 16 := by omega
  unfold f_X1_meltOrMend f_X7_melts
  simp only [pu_gdN hb16 (show 16 < 2 ^ 31 by omega), nI_clamp (show b < 2 ^ 31 by omega), hw, m_grains h.rm hb16, pu_b1, pu_c2, h.h2, eg, e, pu_m8 (show c < 64 by omega), pu_gdN (show c % 8 < 8 by omega) (show 8 < 2 ^ 31 by omega), nI_clamp (show c % 8 < 2 ^ 31 by omega), e1]
  by_cases g : W b ≤ 0
  · have gi : (W b).toInt ≤ 0 := by have := Int32.le_iff_toInt_le.mp g; exact this
    have hn : (-(W b)).toInt = -(W b).toInt := i_neg (by omega)
    obtain ⟨V, hV, eV⟩ := nI_of (x := -(W b)) (by rw [Int32.lt_iff_toInt_lt, hn]; show ¬ _ < (0 : Int); omega)
    have hVi : (V : Int) = -(W b).toInt := by rw [← hn, eV, nI_toInt hV]
    have eu : nI V / (2 : Int32) = nI (V / 2) := pk_div (d := 2) (by omega) (by omega) (by omega)
    have e99 : (99 : Int32) - nI G = nI (99 - G) := pk_sub (a := 99) (by omega)
    rw [if_pos g, if_pos g, eV, eu]
    have hj : ∀ t : Nat, t = min (min (V / 2) A) (99 - G) → (if nI A ≤ nI (V / 2) then j_X7_melts_114 mm md (nI b) (nI A) else j_X7_melts_114 mm md (nI b) (nI (V / 2))) = some (upd (upd mm (26 + 3 * b) (nI (G + t))) 2 (nI (A - t)), md) := by
      intro t ht
      have h1 : (if nI A ≤ nI (V / 2) then j_X7_melts_114 mm md (nI b) (nI A) else j_X7_melts_114 mm md (nI b) (nI (V / 2))) = j_X7_melts_114 mm md (nI b) (nI (min (V / 2) A)) := by
        by_cases q : A ≤ V / 2
        · rw [if_pos (nI_le q (by omega)), Nat.min_eq_right q]
        · rw [if_neg (nI_ge (by omega) (by omega)), Nat.min_eq_left (by omega)]
      have h2 : j_X7_melts_114 mm md (nI b) (nI (min (V / 2) A)) = j_X7_melts_139 mm md (nI b) (nI t) := by
        unfold j_X7_melts_114
        simp only [m_grains h.rm hb16, pu_b1, eg, e99]
        by_cases q : 99 - G ≤ min (V / 2) A
        · rw [if_pos (nI_le q (by omega)), ht, Nat.min_eq_right q]
        · have q2 : min (min (V / 2) A) (99 - G) = min (V / 2) A := Nat.min_eq_left (by omega)
          rw [if_neg (nI_ge (by omega) (by omega)), ht, q2]
      rw [h1, h2]
      unfold j_X7_melts_139
      rw [m_grains h.rm hb16, pu_b1, eg, nI_add, m_makes hb16, pu_b1, pu_c2, upd_ne (by omega), h.h2, pk_sub (by omega)]
    by_cases g0 : 0 ≤ W b
    · have gj : 0 ≤ (W b).toInt := by have := Int32.le_iff_toInt_le.mp g0; exact this
      have hV0 : V = 0 := by omega
      have e0 : min (min (V / 2) A) (99 - G) = 0 := by rw [hV0]; simp
      refine ⟨A, G, D, _, by omega, hG, by omega, ?_, ?_, (h.u_gr hb16 (nI (G + 0))).u_air (nI (A - 0))⟩
      · rw [if_pos g0, upd_self eg, upd_self e1]
      · rw [hj 0 e0.symm, upd_self e2]
    · obtain ⟨t, ht⟩ : ∃ t, t = min (min (V / 2) A) (99 - G) := ⟨_, rfl⟩
      refine ⟨A - t, G + t, D, _, by omega, by omega, by omega, ?_, ?_, (h.u_gr hb16 (nI (G + t))).u_air (nI (A - t))⟩
      · rw [if_neg g0, ik_minN (by omega) (by omega)]
        unfold f_X5_thicken
        simp only [pu_gdN hb16 (show 16 < 2 ^ 31 by omega), nI_clamp (show b < 2 ^ 31 by omega), eg, e99, ik_minN (show min (V / 2) A < 2 ^ 31 by omega) (show 99 - G < 2 ^ 31 by omega), pu_b2]
        rw [← ht, nI_add, pk_sub (by omega), upd_self e1]
      · rw [hj t ht, upd_self e2]
  · have gi : 0 < (W b).toInt := by
      have h1 : ¬ (W b).toInt ≤ 0 := fun q => g (Int32.le_iff_toInt_le.mpr q)
      omega
    obtain ⟨V, hV, eV⟩ := nI_of (x := W b) (by rw [Int32.lt_iff_toInt_lt]; show ¬ _ < (0 : Int); omega)
    have hVi : (V : Int) = (W b).toInt := by rw [eV, nI_toInt hV]
    obtain ⟨t, ht⟩ : ∃ t, t = min V G := ⟨_, rfl⟩
    have eu : nI t / (2 : Int32) = nI (t / 2) := pk_div (d := 2) (by omega) (by omega) (by omega)
    rw [if_neg g, if_neg g, eV, ik_minN (by omega) (by omega), ← ht, eu, pk_sub (by omega), nI_add, pk_sub (by omega), nI_add]
    refine ⟨A + (t - t / 2), G - t, D + t / 2, upd (upd mm (26 + 3 * b) (nI (G - t))) 2 (nI (A + (t - t / 2))), by omega, by omega, by omega, rfl, ?_, (h.u_gr hb16 (nI (G - t))).u_air (nI (A + (t - t / 2)))⟩
    have h1 : (if nI G ≤ nI V then j_X7_melts_37 mm md (nI b) (nI G) else j_X7_melts_37 mm md (nI b) (nI V)) = j_X7_melts_37 mm md (nI b) (nI t) := by
      by_cases q : G ≤ V
      · rw [if_pos (nI_le q (by omega)), ht, Nat.min_eq_right q]
      · rw [if_neg (nI_ge (by omega) (by omega)), ht, Nat.min_eq_left (by omega)]
    rw [h1]
    unfold j_X7_melts_37
    rw [m_grains h.rm hb16, pu_b1, eg, pk_sub (by omega), m_makes hb16, pu_b1, m_cell (h.u_gr hb16 (nI (G - t))).rm hb16, pu_b1, e, pu_m8 (by omega), pu_gdN (show c % 8 < 8 by omega) (by omega), pu_gdN (show c % 8 < 8 by omega) (by omega), nI_clamp (by omega), pu_c2, upd_ne (by omega), h.h2, e2, eu, pk_sub (by omega), nI_add, nI_add]
/-- grains: none where a block is gone -/
def GZ (N : Nat) (cl gr : Nat → Int32) : Prop := ∀ a, a < N → ∃ g, g ≤ 99 ∧ gr a = nI g ∧ (cl a < 0 → g = 0)
/-- the lowest cold block of a column, looked for from above -/
def fb (N : Nat) (cl W : Nat → Int32) (x : Nat) : Nat → Int32
  | 0 => -1
  | d + 1 => if bo N cl (nI (x + 8 * (5 - d))) < 0 then fb N cl W x d else if 0 ≤ W (bo N cl (nI (x + 8 * (5 - d)))).toNatClampNeg then fb N cl W x d else bo N cl (nI (x + 8 * (5 - d)))
theorem fb_is {N : Nat} (hN : N ≤ 16) {cl W : Nat → Int32} {x : Nat} (hx : x < 8) : ∀ d, d ≤ 6 → fb N cl W x d = -1 ∨ ∃ b, b < N ∧ ¬ cl b < 0 ∧ fb N cl W x d = nI b
  | 0, _ => Or.inl rfl
  | d + 1, hd => by
    have ih := fb_is hN (cl := cl) (W := W) hx d (by omega)
    unfold fb
    rcases bo_cases N cl (nI (x + 8 * (5 - d))) with ⟨b, q1, q2, q3⟩ | ⟨q1, q2⟩
    · rw [q3, if_neg (nI_pos (by omega))]
      split
      · exact ih
      · exact Or.inr ⟨b, q1, by rw [q2]; exact nI_pos (by omega), rfl⟩
    · rw [q1, if_pos (by decide)]; exact ih
end
