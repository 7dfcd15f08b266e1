/-! reading tokens -/
def cy (m : Nat → Int32) (p : Nat) : Nat := (m p).toNatClampNeg
def ibt (m : Nat → Int32) (T lo hi p : Nat) : Bool := decide (p < T) && (decide (lo ≤ cy m p) && decide (cy m p ≤ hi))
def BY (tby m : Nat → Int32) : Prop := ∀ i, i < 120 → tby i = m i ∧ ∃ c, c < 256 ∧ tby i = nI c
theorem BY.at {tby m : Nat → Int32} (h : BY tby m) {i : Nat} (hi : i < 120) : tby i = nI (cy m i) ∧ m i = nI (cy m i) ∧ cy m i < 256 := by
  obtain ⟨e, c, hc, ec⟩ := h i hi
  have : cy m i = c := by unfold cy; rw [← e, ec, nI_clamp (by omega)]
  rw [this]
  exact ⟨ec, e.symm.trans ec, hc⟩
section
variable {T : Nat} {tby m : Nat → Int32}
theorem w_byteAt (hT : T ≤ 120) {p : Nat} (hp : p < T) : f_X3_byteAt (nI T) tby (nI p) = some (tby p) := by
  unfold f_X3_byteAt
  rw [if_neg (nI_pos (by omega)), if_neg (nI_ge hp (by omega)), pu_gdN (show p < 120 by omega) (by omega), nI_clamp (by omega)]
theorem w_byteEnd (hT : T ≤ 120) : f_X3_byteAt (nI T) tby (nI T) = some (-1) := by
  unfold f_X3_byteAt
  rw [if_neg (nI_pos (by omega)), if_pos (nI_le (Nat.le_refl _) (by omega))]
theorem m_isByte (hT : T ≤ 120) (hB : BY tby m) {p lo hi : Nat} (hp : p ≤ T) (hlo : lo < 2 ^ 31) (hhi : hi < 2 ^ 31) : f_X7_isByte (nI T) m (nI p) (nI lo) (nI hi) = some (bI (ibt m T lo hi p)) := by
  unfold f_X7_isByte ibt
  by_cases g : p < T
  · obtain ⟨-, e, hc⟩ := hB.at (i := p) (by omega)
    rw [if_neg (nI_ge g (by omega)), pu_gdN (show p < 120 by omega) (by omega), nI_clamp (by omega), pu_in32, pu_b1, pu_i64, pu_i64, decide_eq_true g, Bool.true_and]
    have : wn (m p) (nI lo).toInt (nI hi).toInt = (decide (lo ≤ cy m p) && decide (cy m p ≤ hi)) := by
      unfold wn
      rw [e, nI_toInt hlo, nI_toInt hhi, nI_toInt (show cy m p < 2 ^ 31 by omega), ← Bool.decide_and, decide_eq_decide]
      omega
    rw [this]
    cases (decide (lo ≤ cy m p) && decide (cy m p ≤ hi)) <;> rfl
  · rw [if_pos (nI_le (by omega) (by omega)), decide_eq_false g]; rfl
theorem w_letter {c : Nat} (hc : c < 256) : f_X4_isLetter (nI c) = some (bI (decide (97 ≤ c) && decide (c ≤ 122))) := by
  unfold f_X4_isLetter
  by_cases g : 97 ≤ c
  · rw [if_neg (show ¬ nI c < (97 : Int32) from nI_nlt (b := 97) g (by omega)), decide_eq_true g]
    by_cases g2 : c ≤ 122
    · rw [if_neg (show ¬ (122 : Int32) < nI c from nI_nlt (a := 122) g2 (by omega)), decide_eq_true g2]; rfl
    · rw [if_pos (show (122 : Int32) < nI c from nI_lt (a := 122) (by omega) (by omega)), decide_eq_false g2]; rfl
  · rw [if_pos (show nI c < (97 : Int32) from nI_lt (b := 97) (by omega) (by omega)), decide_eq_false g]; rfl
theorem w_digit {c : Nat} (hc : c < 256) : f_X4_isDigit (nI c) = some (bI (decide (48 ≤ c) && decide (c ≤ 57))) := by
  unfold f_X4_isDigit
  by_cases g : 48 ≤ c
  · rw [if_neg (show ¬ nI c < (48 : Int32) from nI_nlt (b := 48) g (by omega)), decide_eq_true g]
    by_cases g2 : c ≤ 57
    · rw [if_neg (show ¬ (57 : Int32) < nI c from nI_nlt (a := 57) g2 (by omega)), decide_eq_true g2]; rfl
    · rw [if_pos (show (57 : Int32) < nI c from nI_lt (a := 57) (by omega) (by omega)), decide_eq_false g2]; rfl
  · rw [if_pos (show nI c < (48 : Int32) from nI_lt (b := 48) (by omega) (by omega)), decide_eq_false g]; rfl
/-- a token, on both sides -/
def TK (T : Nat) (m : Nat → Int32) (tok : Int32) (f e : Nat) (val sort val2 : Int32) : Prop := f ≤ e ∧ e ≤ T ∧ ∃ k w, k < 6 ∧ tok = nI k ∧ sort = nI (min k 3) ∧ w < 10000 ∧ val2 = nI w ∧ (k = 2 → val = nI (min 1000 w)) ∧ (k ≠ 0 → f < e) ∧ (3 ≤ k → f < T ∧ (k = 3 ↔ cy m f = 59) ∧ (k = 4 ↔ cy m f = 45))
theorem m_161 {v : Int32} (hv : ¬ v = 2) (x y : Int32) : j_X7_token_161 (nI T) m x y v = some (v, x, y, 0) := by
  show b_X7_token_161 (nI T) m x v _ y 0 = _
  unfold b_X7_token_161
  rw [if_neg hv]
theorem m_125 {v : Int32} (hv : ¬ v = 1) (x y : Int32) : j_X7_token_125 (nI T) m x v y = j_X7_token_161 (nI T) m x y v := by
  show b_X7_token_125 (nI T) m x v _ y = _
  unfold b_X7_token_125
  rw [if_neg hv]
theorem tok_word (hT : T ≤ 120) (hB : BY tby m) (val : Int32) {p : Nat} (hp : p < T) (hl : ibt m T 97 122 p = true) : ∃ e, p < e ∧ e ≤ T ∧ ik_lp1 (b_X4_advance_105 val (nI T) tby (nI p)) ik_fu (nI p + 1) = some (1, nI p, nI e, val) ∧ j_X7_token_104 (nI T) m (nI p) 1 = some (1, nI p, nI e, 0) := by
  have e1 : j_X7_token_104 (nI T) m (nI p) 1 = ik_lp1 (b_X7_token_125 (nI T) m (nI p) 1) 4095 (nI (p + 1)) := by
    unfold j_X7_token_104
    rw [if_neg (show ¬ (1 : Int32) = 3 by decide)]
    show b_X7_token_125 (nI T) m (nI p) 1 (ik_lp1 (b_X7_token_125 (nI T) m (nI p) 1) 4095) (nI p) = _
    generalize ik_lp1 (b_X7_token_125 (nI T) m (nI p) 1) 4095 = rc
    unfold b_X7_token_125
    have hb : f_X7_isByte (nI T) m (nI p) 97 122 = _ := m_isByte hT hB (lo := 97) (hi := 122) (Nat.le_of_lt hp) (by omega) (by omega)
    rw [if_pos rfl, hb, hl, pu_b1, if_neg (show ¬ bI true = 0 by decide), nI_1]
  rw [e1, nI_1]
  refine lp_rel (R := fun a b => ∃ e, p < e ∧ e ≤ T ∧ a = some (1, nI p, nI e, val) ∧ b = some (1, nI p, nI e, 0)) (fun i a c => a = nI (p + 1 + i) ∧ c = nI (p + 1 + i)) (T - (p + 1)) ?_ ?_ _ _ ⟨rfl, rfl⟩ _ _ (pu_fu (by omega)) (by omega)
  · rintro i a c hi ⟨rfl, rfl⟩ rc rd - - hc
    obtain ⟨q1, q2, q3⟩ := hB.at (i := p + 1 + i) (by omega)
    have hb : f_X7_isByte (nI T) m (nI (p + 1 + i)) 97 122 = _ := m_isByte hT hB (lo := 97) (hi := 122) (by omega) (by omega) (by omega)
    unfold b_X4_advance_105 b_X7_token_125
    rw [if_neg (nI_ge (show p + 1 + i < T by omega) (by omega)), w_byteAt hT (show p + 1 + i < T by omega), pu_b1, q1, w_letter q3, pu_b1, if_pos rfl, hb, pu_b1, nI_1, Nat.add_assoc (p + 1)]
    have hi' : ibt m T 97 122 (p + 1 + i) = (decide (97 ≤ cy m (p + 1 + i)) && decide (cy m (p + 1 + i) ≤ 122)) := by unfold ibt; rw [decide_eq_true (by omega), Bool.true_and]
    rw [hi']
    cases (decide (97 ≤ cy m (p + 1 + i)) && decide (cy m (p + 1 + i) ≤ 122))
    · rw [if_pos bI_f, if_pos bI_f, m_161 (by decide)]
      exact ⟨p + 1 + i, by omega, by omega, rfl, rfl⟩
    · rw [if_neg (show ¬ bI true = 0 by decide), if_neg (show ¬ bI true = 0 by decide)]
      exact hc _ _ ⟨rfl, rfl⟩
  · rintro a c ⟨rfl, rfl⟩ rc rd
    have hb : f_X7_isByte (nI T) m (nI (p + 1 + (T - (p + 1)))) 97 122 = _ := m_isByte hT hB (lo := 97) (hi := 122) (by omega) (by omega) (by omega)
    unfold b_X4_advance_105 b_X7_token_125
    rw [if_pos (nI_le (by omega) (by omega)), if_pos rfl, hb, pu_b1, show ibt m T 97 122 (p + 1 + (T - (p + 1))) = false by unfold ibt; rw [decide_eq_false (by omega)]; rfl, if_pos bI_f, m_161 (by decide)]
    exact ⟨p + 1 + (T - (p + 1)), by omega, by omega, rfl, rfl⟩
theorem tok_num (hT : T ≤ 120) (hB : BY tby m) (en val : Int32) {p : Nat} (hp : p < T) (hl : ibt m T 48 57 p = true) : ∃ e w, p < e ∧ e ≤ T ∧ w < 10000 ∧ f_X4_takeNumber (nI p) en val (nI T) tby = some (nI e, nI (min 1000 w)) ∧ j_X7_token_104 (nI T) m (nI p) 2 = some (2, nI p, nI e, nI w) := by
  have e1 : j_X7_token_104 (nI T) m (nI p) 2 = ik_lp2 (b_X7_token_161 (nI T) m (nI p) 2) ik_fu (nI p) 0 := by
    unfold j_X7_token_104
    rw [if_neg (show ¬ (2 : Int32) = 3 by decide), m_125 (by decide)]
    rfl
  unfold f_X4_takeNumber
  rw [e1, lp_unc2, lp_unc2]
  refine lp_rel (R := fun a b => ∃ e w, p < e ∧ e ≤ T ∧ w < 10000 ∧ a = some (nI e, nI (min 1000 w)) ∧ b = some (2, nI p, nI e, nI w)) (fun i a c => ∃ w, w < 10000 ∧ a = (nI (p + i), nI (min 1000 w)) ∧ c = (nI (p + i), nI w)) (T - p) ?_ ?_ _ _ ⟨0, by omega, rfl, rfl⟩ _ _ (pu_fu (by omega)) (pu_fu (by omega))
  · rintro i a c hi ⟨w, hw, rfl, rfl⟩ rc rd - - hc
    obtain ⟨q1, q2, q3⟩ := hB.at (i := p + i) (by omega)
    have hb : f_X7_isByte (nI T) m (nI (p + i)) 48 57 = _ := m_isByte hT hB (lo := 48) (hi := 57) (by omega) (by omega) (by omega)
    have hi' : ibt m T 48 57 (p + i) = (decide (48 ≤ cy m (p + i)) && decide (cy m (p + i) ≤ 57)) := by unfold ibt; rw [decide_eq_true (by omega), Bool.true_and]
    dsimp only
    unfold b_X4_takeNumber_13 b_X7_token_161
    rw [if_neg (nI_ge (show p + i < T by omega) (by omega)), w_byteAt hT (show p + i < T by omega), pu_b1, q1, w_digit q3, pu_b1, if_pos rfl, hb, pu_b1, hi', nI_1, Nat.add_assoc, pu_b1]
    cases hd : (decide (48 ≤ cy m (p + i)) && decide (cy m (p + i) ≤ 57))
    · rw [if_pos bI_f, if_pos bI_f]
      refine ⟨p + i, w, ?_, by omega, hw, rfl, rfl⟩
      rcases Nat.eq_zero_or_pos i with g | g
      · subst g
        rw [hd] at hi'
        rw [Nat.add_zero, hl] at hi'
        exact absurd hi' (by decide)
      · omega
    · rw [Bool.and_eq_true, decide_eq_true_eq, decide_eq_true_eq] at hd
      have ev : ik_min 1000 ((10 : Int32) * nI (min 1000 w) + nI (cy m (p + i)) - 48) = nI (min 1000 (10 * min 1000 w + cy m (p + i) - 48)) := by
        rw [show (10 : Int32) * nI (min 1000 w) = nI (10 * min 1000 w) from pk_mul 10 _, nI_add, show nI (10 * min 1000 w + cy m (p + i)) - (48 : Int32) = nI (10 * min 1000 w + cy m (p + i) - 48) from pk_sub (b := 48) (by omega)]
        exact ik_minN (a := 1000) (by omega) (by omega)
      rw [if_neg (show ¬ bI true = 0 by decide), if_neg (show ¬ bI true = 0 by decide), ev]
      by_cases g : w ≤ 999
      · rw [if_pos (show nI w ≤ (999 : Int32) from nI_le (b := 999) g (by omega)), pu_gdN (show p + i < 120 by omega) (by omega), nI_clamp (by omega), q2, show (10 : Int32) * nI w = nI (10 * w) from pk_mul 10 _, nI_add, show nI (10 * w + cy m (p + i)) - (48 : Int32) = nI (10 * w + cy m (p + i) - 48) from pk_sub (b := 48) (by omega)]
        exact hc _ _ ⟨10 * w + cy m (p + i) - 48, by omega, by rw [show min 1000 w = w by omega], rfl⟩
      · rw [if_neg (show ¬ nI w ≤ (999 : Int32) from nI_ge (a := 999) (by omega) (by omega))]
        exact hc _ _ ⟨w, hw, by rw [show min 1000 (10 * min 1000 w + cy m (p + i) - 48) = min 1000 w by omega], rfl⟩
  · rintro a c ⟨w, hw, rfl, rfl⟩ rc rd
    have hb : f_X7_isByte (nI T) m (nI (p + (T - p))) 48 57 = _ := m_isByte hT hB (lo := 48) (hi := 57) (by omega) (by omega) (by omega)
    dsimp only
    unfold b_X4_takeNumber_13 b_X7_token_161
    rw [if_pos (nI_le (by omega) (by omega)), if_pos rfl, hb, pu_b1, show ibt m T 48 57 (p + (T - p)) = false by unfold ibt; rw [decide_eq_false (by omega)]; rfl, if_pos bI_f]
    exact ⟨p + (T - p), w, by omega, by omega, hw, rfl, rfl⟩
theorem tok_both (hT : T ≤ 120) (hB : BY tby m) {e0 : Nat} (he : e0 ≤ T) (tok sta val sort fr value : Int32) : ∃ tok' f e val' sort' w', e0 ≤ f ∧ TK T m tok' f e val' sort' w' ∧ f_X4_advance tok sta (nI e0) val (nI T) tby = some (tok', nI f, nI e, val') ∧ f_X7_token (nI T) sort fr (nI e0) value m = some (sort', nI f, nI e, w') := by
  unfold f_X4_advance f_X7_token
  refine lp_rel (R := fun a b => ∃ tok' f e val' sort' w', e0 ≤ f ∧ TK T m tok' f e val' sort' w' ∧ a = some (tok', nI f, nI e, val') ∧ b = some (sort', nI f, nI e, w')) (fun i a c => a = nI (e0 + i) ∧ c = nI (e0 + i)) (T - e0) ?_ ?_ _ _ ⟨rfl, rfl⟩ _ _ (pu_fu (by omega)) (pu_fu (by omega))
  · rintro i a c hi ⟨rfl, rfl⟩ rc rd - - hc
    have hp : e0 + i < T := by omega
    obtain ⟨q1, q2, q3⟩ := hB.at (i := e0 + i) (by omega)
    have hb : f_X7_isByte (nI T) m (nI (e0 + i)) 32 32 = _ := m_isByte hT hB (lo := 32) (hi := 32) (by omega) (by omega) (by omega)
    have hb1 : f_X7_isByte (nI T) m (nI (e0 + i)) 97 122 = _ := m_isByte hT hB (lo := 97) (hi := 122) (by omega) (by omega) (by omega)
    have hb2 : f_X7_isByte (nI T) m (nI (e0 + i)) 48 57 = _ := m_isByte hT hB (lo := 48) (hi := 57) (by omega) (by omega) (by omega)
    have i0 : ∀ lo hi, ibt m T lo hi (e0 + i) = (decide (lo ≤ cy m (e0 + i)) && decide (cy m (e0 + i) ≤ hi)) := fun lo hi => by unfold ibt; rw [decide_eq_true (by omega), Bool.true_and]
    unfold b_X4_advance_8 b_X7_token_8
    rw [if_neg (nI_ge hp (by omega)), w_byteAt hT hp, pu_b1, q1, hb, pu_b1, i0, nI_1, Nat.add_assoc]
    by_cases g : cy m (e0 + i) = 32
    · rw [if_pos (show nI (cy m (e0 + i)) = 32 by rw [g]; rfl), decide_eq_true (show 32 ≤ cy m (e0 + i) by omega), decide_eq_true (show cy m (e0 + i) ≤ 32 by omega), if_neg (by decide)]
      exact hc _ _ ⟨rfl, rfl⟩
    · have g32 : (decide (32 ≤ cy m (e0 + i)) && decide (cy m (e0 + i) ≤ 32)) = false := by
        rw [← Bool.decide_and, decide_eq_false (by omega)]
      rw [if_neg (show ¬ nI (cy m (e0 + i)) = 32 from fun h => g ((nI_eq (b := 32) (by omega) (by omega)).mp h)), g32, if_pos bI_f, if_neg (show ¬ nI (e0 + i) = nI T from fun h => by have := (nI_eq (by omega) (by omega)).mp h; omega), hb1, pu_b1]
      unfold j_X4_advance_51
      rw [w_byteAt hT hp, pu_b1, q1, if_pos (nI_pos' (by omega)), w_letter q3, pu_b1, i0]
      cases hl : (decide (97 ≤ cy m (e0 + i)) && decide (cy m (e0 + i) ≤ 122))
      · rw [if_pos bI_f, if_pos bI_f, w_digit q3, pu_b1, hb2, pu_b1, i0]
        cases hd : (decide (48 ≤ cy m (e0 + i)) && decide (cy m (e0 + i) ≤ 57))
        · rw [if_pos bI_f, if_pos bI_f, nI_1]
          have e3 : j_X7_token_104 (nI T) m (nI (e0 + i)) 3 = some (3, nI (e0 + i), nI (e0 + i + 1), 0) := by
            unfold j_X7_token_104
            rw [if_pos rfl, m_125 (by decide), m_161 (by decide), nI_1]
          rw [e3]
          by_cases c1 : cy m (e0 + i) = 59
          · rw [if_pos (show nI (cy m (e0 + i)) = 59 by rw [c1]; rfl)]
            exact ⟨_, e0 + i, e0 + i + 1, _, _, _, by omega, ⟨by omega, by omega, 3, 0, by omega, rfl, rfl, by omega, rfl, fun h => by omega, fun _ => by omega, fun _ => ⟨hp, ⟨fun _ => c1, fun _ => rfl⟩, ⟨fun h => by omega, fun h => by omega⟩⟩⟩, rfl, rfl⟩
          · rw [if_neg (show ¬ nI (cy m (e0 + i)) = 59 from fun h => c1 ((nI_eq (b := 59) (by omega) (by omega)).mp h))]
            by_cases c2 : cy m (e0 + i) = 45
            · rw [if_pos (show nI (cy m (e0 + i)) = 45 by rw [c2]; rfl)]
              exact ⟨_, e0 + i, e0 + i + 1, _, _, _, by omega, ⟨by omega, by omega, 4, 0, by omega, rfl, rfl, by omega, rfl, fun h => by omega, fun _ => by omega, fun _ => ⟨hp, ⟨fun h => by omega, fun h => by omega⟩, ⟨fun _ => c2, fun _ => rfl⟩⟩⟩, rfl, rfl⟩
            · rw [if_neg (show ¬ nI (cy m (e0 + i)) = 45 from fun h => c2 ((nI_eq (b := 45) (by omega) (by omega)).mp h))]
              exact ⟨_, e0 + i, e0 + i + 1, _, _, _, by omega, ⟨by omega, by omega, 5, 0, by omega, rfl, rfl, by omega, rfl, fun h => by omega, fun _ => by omega, fun _ => ⟨hp, ⟨fun h => by omega, fun h => by omega⟩, ⟨fun h => by omega, fun h => by omega⟩⟩⟩, rfl, rfl⟩
        · rw [if_neg (show ¬ bI true = 0 by decide), if_neg (show ¬ bI true = 0 by decide)]
          obtain ⟨e, w, r1, r2, r3, r4, r5⟩ := tok_num hT hB (nI (e0 + i) + 1) val hp (by rw [i0]; exact hd)
          rw [r4, pu_b2, r5]
          exact ⟨_, e0 + i, e, _, _, _, by omega, ⟨by omega, r2, 2, w, by omega, rfl, rfl, r3, rfl, fun _ => rfl, fun _ => r1, fun h => by omega⟩, rfl, rfl⟩
      · rw [if_neg (show ¬ bI true = 0 by decide), if_neg (show ¬ bI true = 0 by decide)]
        obtain ⟨e, r1, r2, r4, r5⟩ := tok_word hT hB val hp (by rw [i0]; exact hl)
        rw [r4, r5]
        exact ⟨_, e0 + i, e, _, _, _, by omega, ⟨by omega, r2, 1, 0, by omega, rfl, rfl, by omega, rfl, fun h => by omega, fun _ => r1, fun h => by omega⟩, rfl, rfl⟩
  · rintro a c ⟨rfl, rfl⟩ rc rd
    have eT : e0 + (T - e0) = T := by omega
    rw [eT]
    have hb : f_X7_isByte (nI T) m (nI T) 32 32 = _ := m_isByte hT hB (lo := 32) (hi := 32) (by omega) (by omega) (by omega)
    have e3 : j_X7_token_104 (nI T) m (nI T) 0 = some (0, nI T, nI T, 0) := by
      unfold j_X7_token_104
      rw [if_neg (show ¬ (0 : Int32) = 3 by decide), m_125 (by decide), m_161 (by decide)]
    unfold b_X4_advance_8 b_X7_token_8 j_X4_advance_51
    rw [if_pos (nI_le (Nat.le_refl _) (by omega)), w_byteEnd hT, pu_b1, if_neg (show ¬ (0 : Int32) ≤ -1 by decide), hb, pu_b1, show ibt m T 32 32 T = false by unfold ibt; rw [decide_eq_false (by omega)]; rfl, if_pos bI_f, if_pos rfl, e3]
    exact ⟨_, T, T, _, _, _, by omega, ⟨by omega, by omega, 0, 0, by omega, rfl, rfl, by omega, rfl, fun h => by omega, fun h => absurd rfl h, fun h => by omega⟩, rfl, rfl⟩
end
