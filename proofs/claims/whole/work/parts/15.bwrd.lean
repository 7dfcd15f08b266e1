/-! words and numbers of a text -/
theorem shr0 (x : Int32) : x >>> ((0 : Int32) &&& 31) = x := b_ext (fun i hi => by
  have := b_sshr 0 (by omega) x hi
  rw [Nat.zero_add, if_pos hi] at this
  exact this)
theorem pu_gs {α : Type} {j n : Nat} {k : Option α} (h : j < n) (hn : n < 2 ^ 31) : ik_gs (nI j) n k = k := by
  unfold ik_gs
  rw [if_pos ⟨by rw [nI_toInt (by omega)]; omega, nI_lt h hn⟩]
def mt (m : Nat → Int32) (f wi : Nat) : Nat → Nat → Bool
  | 0, _ => true
  | d + 1, j => decide (m (f + j) = (st_ch wi j &&& 255)) && mt m f wi d (j + 1)
def wdB (m : Nat → Int32) (f e wi : Nat) : Bool := decide (e - f = st_len wi) && mt m f wi (st_len wi) 0
theorem mt_all {m : Nat → Int32} {f wi : Nat} : ∀ d j, mt m f wi d j = true → ∀ i, j ≤ i → i < j + d → m (f + i) = (st_ch wi i &&& 255)
  | 0, j, _, i, h1, h2 => by omega
  | d + 1, j, h, i, h1, h2 => by
    have h' : (decide (m (f + j) = (st_ch wi j &&& 255)) && mt m f wi d (j + 1)) = true := h
    rw [Bool.and_eq_true, decide_eq_true_eq] at h'
    by_cases e : i = j
    · rw [e]; exact h'.1
    · exact mt_all d (j + 1) h'.2 i (by omega) (by omega)
theorem mt_eq {m : Nat → Int32} {f a b : Nat} (h : st_by a = st_by b) : ∀ d j, mt m f a d j = mt m f b d j
  | 0, _ => rfl
  | d + 1, j => by
    unfold mt
    rw [mt_eq h d (j + 1)]
    unfold st_ch
    rw [h]
theorem wd_eq {m : Nat → Int32} {f e a b : Nat} (h : st_by a = st_by b) : wdB m f e a = wdB m f e b := by
  unfold wdB
  have hl : st_len a = st_len b := by unfold st_len; rw [h]
  rw [hl, mt_eq h]
theorem wd_pairs : ∀ a, a < 7 → ∀ b, b < 2 → ¬ (st_len (6 + a) = st_len b ∧ ∀ i, i < st_len b → (st_ch (6 + a) i &&& 255) = (st_ch b i &&& 255)) := by decide +kernel
theorem wd_excl {m : Nat → Int32} {f e a b : Nat} (ha : a < 7) (hb : b < 2) (h : wdB m f e (6 + a) = true) : wdB m f e b = false := by
  cases h2 : wdB m f e b
  · rfl
  · exfalso
    unfold wdB at h h2
    rw [Bool.and_eq_true, decide_eq_true_eq] at h h2
    refine wd_pairs a ha b hb ⟨h.1.symm.trans h2.1, fun i hi => ?_⟩
    have e1 := mt_all (st_len (6 + a)) 0 h.2 i (Nat.zero_le _) (by rw [Nat.zero_add, h.1.symm.trans h2.1]; exact hi)
    have e2 := mt_all (st_len b) 0 h2.2 i (Nat.zero_le _) (by rw [Nat.zero_add]; exact hi)
    exact e1.symm.trans e2
section
variable {T : Nat} {tby m : Nat → Int32}
theorem w_wl (hT : T ≤ 120) (hB : BY tby m) {f wi : Nat} (hf : f + st_len wi ≤ T) : ∀ d j, j + d = st_len wi → ∀ n, d < n → ik_lp1 (b_X4_isWord_28 (nI f) (nI T) tby wi) n (nI j) = some (bI (mt m f wi d j))
  | 0, j, hj, n, hn => by
    obtain ⟨n, rfl⟩ := Nat.exists_eq_succ_of_ne_zero (show n ≠ 0 by omega)
    show b_X4_isWord_28 (nI f) (nI T) tby wi _ (nI j) = some (bI true)
    unfold b_X4_isWord_28
    rw [show (Int32.ofNat (st_len wi) >>> ((0 : Int32) &&& 31)) = nI (st_len wi) from shr0 _, if_pos (nI_le (by omega) (by omega))]
    rfl
  | d + 1, j, hj, n, hn => by
    obtain ⟨n, rfl⟩ := Nat.exists_eq_succ_of_ne_zero (show n ≠ 0 by omega)
    have ih := w_wl hT hB hf d (j + 1) (by omega) n (by omega)
    have e : ∀ rc, b_X4_isWord_28 (nI f) (nI T) tby wi rc (nI j) = (if m (f + j) = (st_ch wi j &&& 255) then rc (nI (j + 1)) else some 0) := by
      intro rc
      unfold b_X4_isWord_28
      rw [show (Int32.ofNat (st_len wi) >>> ((0 : Int32) &&& 31)) = nI (st_len wi) from shr0 _, if_neg (nI_ge (by omega) (by omega)), nI_add, w_byteAt hT (show f + j < T by omega), pu_b1, pu_gs (show j < st_len wi by omega) (by omega), nI_clamp (by omega), nI_1, (hB (f + j) (by omega)).1]
    show b_X4_isWord_28 (nI f) (nI T) tby wi _ (nI j) = some (bI (decide (m (f + j) = (st_ch wi j &&& 255)) && mt m f wi d (j + 1)))
    rw [e, ih]
    by_cases g : m (f + j) = (st_ch wi j &&& 255)
    · rw [if_pos g, decide_eq_true g, Bool.true_and]
    · rw [if_neg g, decide_eq_false g]; rfl
theorem m_w0 (f : Int32) (wi : Nat) : j_X7_isWord_36 f m wi 0 = some 0 := by
  show b_X7_isWord_39 f m wi (ik_lp2 (b_X7_isWord_39 f m wi) 4095) 0 0 = _
  unfold b_X7_isWord_39
  rw [if_pos rfl]
  exact pu_gz (p := false)
theorem m_wl (hT : T ≤ 120) {f wi : Nat} (hf : f + st_len wi ≤ T) : ∀ d j, j + d = st_len wi → ∀ n, d < n → ik_lp2 (b_X7_isWord_39 (nI f) m wi) n 1 (nI j) = some (bI (mt m f wi d j))
  | 0, j, hj, n, hn => by
    obtain ⟨n, rfl⟩ := Nat.exists_eq_succ_of_ne_zero (show n ≠ 0 by omega)
    show b_X7_isWord_39 (nI f) m wi _ 1 (nI j) = some (bI true)
    unfold b_X7_isWord_39
    rw [if_neg (show ¬ (1 : Int32) = 0 by decide), show (Int32.ofNat (st_len wi) >>> ((0 : Int32) &&& 31)) = nI (st_len wi) from shr0 _, if_pos (nI_le (by omega) (by omega))]
    exact pu_gz (p := true)
  | d + 1, j, hj, n, hn => by
    obtain ⟨n, rfl⟩ := Nat.exists_eq_succ_of_ne_zero (show n ≠ 0 by omega)
    have ih := m_wl hT hf d (j + 1) (by omega) n (by omega)
    have e : ∀ rc, b_X7_isWord_39 (nI f) m wi rc 1 (nI j) = (if m (f + j) = (st_ch wi j &&& 255) then rc 1 (nI (j + 1)) else rc 0 (nI (j + 1))) := by
      intro rc
      unfold b_X7_isWord_39
      rw [if_neg (show ¬ (1 : Int32) = 0 by decide), show (Int32.ofNat (st_len wi) >>> ((0 : Int32) &&& 31)) = nI (st_len wi) from shr0 _, if_neg (nI_ge (by omega) (by omega)), nI_add, pu_gdN (show f + j < 120 by omega) (by omega), pu_gs (show j < st_len wi by omega) (by omega), nI_clamp (by omega), nI_clamp (by omega), nI_1]
    have e0 : ∀ x, ik_lp2 (b_X7_isWord_39 (nI f) m wi) n 0 x = some 0 := by
      intro x
      obtain ⟨n, rfl⟩ := Nat.exists_eq_succ_of_ne_zero (show n ≠ 0 by omega)
      show b_X7_isWord_39 (nI f) m wi _ 0 x = _
      unfold b_X7_isWord_39
      rw [if_pos rfl]
      exact pu_gz (p := false)
    show b_X7_isWord_39 (nI f) m wi _ 1 (nI j) = some (bI (decide (m (f + j) = (st_ch wi j &&& 255)) && mt m f wi d (j + 1)))
    rw [e, ih, e0]
    by_cases g : m (f + j) = (st_ch wi j &&& 255)
    · rw [if_pos g, decide_eq_true g, Bool.true_and]
    · rw [if_neg g, decide_eq_false g]; rfl
theorem st_small : ∀ wi, wi < 26 → st_len wi < 10 := by decide +kernel
theorem w_isWord (hT : T ≤ 120) (hB : BY tby m) {k f e : Nat} (hk : k < 6) (hfe : f ≤ e) (heT : e ≤ T) {wi : Nat} (hwi : wi < 26) : f_X4_isWord (nI k) (nI f) (nI e) (nI T) tby wi = some (bI (decide (k = 1) && wdB m f e wi)) := by
  have hl := st_small wi hwi
  unfold f_X4_isWord wdB
  rw [show (Int32.ofNat (st_len wi) >>> ((0 : Int32) &&& 31)) = nI (st_len wi) from shr0 _, pk_sub hfe]
  by_cases g : k = 1
  · rw [if_pos (show nI k = 1 by rw [g]; rfl), decide_eq_true g, Bool.true_and]
    by_cases g2 : e - f = st_len wi
    · rw [if_pos (show nI (e - f) = nI (st_len wi) by rw [g2]), decide_eq_true g2, Bool.true_and]
      exact w_wl hT hB (by omega) (st_len wi) 0 (by omega) ik_fu (pu_fu (by omega))
    · rw [if_neg (show ¬ nI (e - f) = nI (st_len wi) from fun h => g2 ((nI_eq (by omega) (by omega)).mp h)), decide_eq_false g2]; rfl
  · rw [if_neg (show ¬ nI k = 1 from fun h => g ((nI_eq (b := 1) (by omega) (by omega)).mp h)), decide_eq_false g]; rfl
theorem m_isWord (hT : T ≤ 120) {k f e : Nat} (hk : k < 6) (hfe : f ≤ e) (heT : e ≤ T) {wi : Nat} (hwi : wi < 26) : f_X7_isWord (nI (min k 3)) (nI f) (nI e) 0 m wi = some (bI (decide (k = 1) && wdB m f e wi)) := by
  have hl := st_small wi hwi
  unfold f_X7_isWord wdB
  rw [show (Int32.ofNat (st_len wi) >>> ((0 : Int32) &&& 31)) = nI (st_len wi) from shr0 _, pk_sub hfe, if_pos rfl, m_w0]
  by_cases g : k = 1
  · rw [if_pos (show nI (min k 3) = 1 by rw [g]; rfl), decide_eq_true g, Bool.true_and]
    by_cases g2 : e - f = st_len wi
    · rw [if_pos (show nI (e - f) = nI (st_len wi) by rw [g2]), decide_eq_true g2, Bool.true_and]
      exact m_wl hT (by omega) (st_len wi) 0 (by omega) ik_fu (pu_fu (by omega))
    · rw [if_neg (show ¬ nI (e - f) = nI (st_len wi) from fun h => g2 ((nI_eq (by omega) (by omega)).mp h)), decide_eq_false g2]; rfl
  · rw [if_neg (show ¬ nI (min k 3) = 1 from fun h => by have := (nI_eq (b := 1) (by omega) (by omega)).mp h; omega), decide_eq_false g]; rfl
theorem m_takes (hT : T ≤ 120) {k f e : Nat} (hk : k < 6) (hfe : f ≤ e) (heT : e ≤ T) {wi : Nat} (hwi : wi < 26) (v : Int32) : f_X7_takes (nI T) (nI (min k 3)) (nI f) (nI e) v 0 m wi = if bI (decide (k = 1) && wdB m f e wi) = 0 then some (0, nI (min k 3), nI f, nI e, v) else ik_b4 (f_X7_token (nI T) (nI (min k 3)) (nI f) (nI e) v m) (fun g2 g3 g4 g5 => some (1, g2, g3, g4, g5)) := by
  unfold f_X7_takes
  rw [m_isWord hT hk hfe heT hwi, pu_b1]
theorem m_takesB (s f t v : Int32) (wi : Nat) : f_X7_takes (nI T) s f t v 1 m wi = some (0, s, f, t, v) := by
  unfold f_X7_takes f_X7_isWord
  rw [if_neg (show ¬ (1 : Int32) = 0 by decide), m_w0, pu_b1, if_pos rfl]
def isn (k w lo hi : Nat) : Bool := decide (k = 2) && (decide (lo ≤ w) && decide (w ≤ hi))
theorem w_isNumber {k w lo hi : Nat} {val x y : Int32} (hk : k < 6) (hv : k = 2 → val = nI (min 1000 w)) (hx : x = nI lo) (hy : y = nI hi) (hlo : lo < 1000) (hhi : hi < 1000) : f_X4_isNumber (nI k) val x y = some (bI (isn k w lo hi)) := by
  unfold f_X4_isNumber isn
  by_cases g : k = 2
  · rw [if_pos (show nI k = 2 by rw [g]; rfl), pu_within, pu_b1, decide_eq_true g, Bool.true_and]
    have : wn val x.toInt y.toInt = (decide (lo ≤ w) && decide (w ≤ hi)) := by
      unfold wn
      rw [hv g, hx, hy, nI_toInt (show min 1000 w < 2 ^ 31 by omega), nI_toInt (show lo < 2 ^ 31 by omega), nI_toInt (show hi < 2 ^ 31 by omega), ← Bool.decide_and, decide_eq_decide]
      omega
    rw [this]
    cases (decide (lo ≤ w) && decide (w ≤ hi)) <;> rfl
  · rw [if_neg (show ¬ nI k = 2 from fun h => g ((nI_eq (b := 2) (by omega) (by omega)).mp h)), decide_eq_false g]; rfl
theorem m_number {k w lo hi : Nat} {x y : Int32} (hk : k < 6) (hw : w < 10000) (hx : x = nI lo) (hy : y = nI hi) (hlo : lo < 1000) (hhi : hi < 1000) (f t : Int32) : f_X7_number (nI T) (nI (min k 3)) f t (nI w) 0 m x y 1 = if isn k w lo hi then ik_b4 (f_X7_token (nI T) (nI (min k 3)) f t (nI w) m) (fun g2 g3 g4 g5 => some (nI w, g2, g3, g4, g5, 0)) else some (nI w, nI (min k 3), f, t, nI w, 1) := by
  unfold f_X7_number isn
  rw [if_pos rfl, if_neg (show ¬ (1 : Int32) = 0 by decide)]
  by_cases g : k = 2
  · rw [if_pos (show nI (min k 3) = 2 by rw [g]; rfl), pu_in32, pu_b1, pu_i64, pu_i64, decide_eq_true g, Bool.true_and]
    have : wn (nI w) x.toInt y.toInt = (decide (lo ≤ w) && decide (w ≤ hi)) := by
      unfold wn
      rw [hx, hy, nI_toInt (show w < 2 ^ 31 by omega), nI_toInt (show lo < 2 ^ 31 by omega), nI_toInt (show hi < 2 ^ 31 by omega), ← Bool.decide_and, decide_eq_decide]
      omega
    rw [this]
    cases (decide (lo ≤ w) && decide (w ≤ hi)) <;> rfl
  · rw [if_neg (show ¬ nI (min k 3) = 2 from fun h => by have := (nI_eq (b := 2) (by omega) (by omega)).mp h; omega), decide_eq_false g]; rfl
theorem m_number0 (s f t v x y : Int32) : f_X7_number (nI T) s f t v 0 m x y 0 = some (v, s, f, t, v, 1) := by
  unfold f_X7_number
  rw [if_pos rfl, if_pos rfl, if_neg (show ¬ (1 : Int32) = 0 by decide)]
theorem m_numberB (s f t v x y z : Int32) : f_X7_number (nI T) s f t v 1 m x y z = some (v, s, f, t, v, 1) := by
  unfold f_X7_number
  rw [if_neg (show ¬ (1 : Int32) = 0 by decide), if_neg (show ¬ (1 : Int32) = 0 by decide)]
theorem m_tells0 {mm : Nat → Int32} {i : Nat} (hi : i < 82) (v : Int32) : f_X7_tells 0 mm (nI i) v = some (upd mm i v) := by
  unfold f_X7_tells
  rw [if_pos rfl, pu_gdN hi (by omega), nI_clamp (by omega)]
theorem m_tellsB (mm : Nat → Int32) (x v : Int32) : f_X7_tells 1 mm x v = some mm := by
  unfold f_X7_tells
  rw [if_neg (show ¬ (1 : Int32) = 0 by decide)]
theorem m_sign {k f e : Nat} (hT : T ≤ 120) (hB : BY tby m) (hk : k < 6) (hf : 3 ≤ k → f < T) {c : Nat} (hc : c < 256) {x : Int32} (hx : x = nI c) : f_X7_isSign (nI (min k 3)) (nI f) 0 m x = some (bI (decide (3 ≤ k) && decide (cy m f = c))) := by
  unfold f_X7_isSign
  rw [if_pos rfl]
  by_cases g : 3 ≤ k
  · have hfT := hf g
    obtain ⟨-, q2, q3⟩ := hB.at (i := f) (by omega)
    rw [if_pos (show nI (min k 3) = 3 by rw [Nat.min_eq_right g]; rfl), pu_gdN (show f < 120 by omega) (by omega), nI_clamp (by omega), q2, hx, decide_eq_true g, Bool.true_and]
    by_cases g2 : cy m f = c
    · rw [if_pos (by rw [g2]), decide_eq_true g2]; rfl
    · rw [if_neg (fun h => g2 ((nI_eq (by omega) (by omega)).mp h)), decide_eq_false g2]; rfl
  · rw [if_neg (show ¬ nI (min k 3) = 3 from fun h => by have := (nI_eq (b := 3) (by omega) (by omega)).mp h; omega), decide_eq_false g]; rfl
theorem m_signB (s f x : Int32) : f_X7_isSign s f 1 m x = some 0 := by
  unfold f_X7_isSign
  rw [if_neg (show ¬ (1 : Int32) = 0 by decide)]
theorem kind_both (hT : T ≤ 120) (hB : BY tby m) {k f e : Nat} (hk : k < 6) (hfe : f ≤ e) (heT : e ≤ T) : ∃ r, f_X4_kindOfWord (nI k) (nI f) (nI e) (nI T) tby = some r ∧ f_X7_kindHere (nI (min k 3)) (nI f) (nI e) 0 m = some r ∧ (r = -1 ∨ ∃ i, i < 7 ∧ r = nI i ∧ k = 1 ∧ wdB m f e (6 + i) = true) := by
  unfold f_X4_kindOfWord f_X7_kindHere
  rw [w_isWord hT hB hk hfe heT (wi := 6) (by omega), w_isWord hT hB hk hfe heT (wi := 7) (by omega), w_isWord hT hB hk hfe heT (wi := 8) (by omega), w_isWord hT hB hk hfe heT (wi := 9) (by omega), w_isWord hT hB hk hfe heT (wi := 10) (by omega), w_isWord hT hB hk hfe heT (wi := 11) (by omega), w_isWord hT hB hk hfe heT (wi := 12) (by omega),
    m_isWord hT hk hfe heT (wi := 13) (by omega), m_isWord hT hk hfe heT (wi := 14) (by omega), m_isWord hT hk hfe heT (wi := 15) (by omega), m_isWord hT hk hfe heT (wi := 16) (by omega), m_isWord hT hk hfe heT (wi := 17) (by omega), m_isWord hT hk hfe heT (wi := 18) (by omega), m_isWord hT hk hfe heT (wi := 19) (by omega),
    wd_eq (a := 13) (b := 6) rfl, wd_eq (a := 14) (b := 7) rfl, wd_eq (a := 15) (b := 8) rfl, wd_eq (a := 16) (b := 9) rfl, wd_eq (a := 17) (b := 10) rfl, wd_eq (a := 18) (b := 11) rfl, wd_eq (a := 19) (b := 12) rfl]
  have fin : ∀ i, (decide (k = 1) && wdB m f e (6 + i)) = true → k = 1 ∧ wdB m f e (6 + i) = true := fun i h => by
    rw [Bool.and_eq_true, decide_eq_true_eq] at h; exact h
  simp only [pu_b1]
  cases h0 : (decide (k = 1) && wdB m f e 6)
  · simp only [if_pos bI_f]
    cases h1 : (decide (k = 1) && wdB m f e 7)
    · simp only [if_pos bI_f]
      cases h2 : (decide (k = 1) && wdB m f e 8)
      · simp only [if_pos bI_f]
        cases h3 : (decide (k = 1) && wdB m f e 9)
        · simp only [if_pos bI_f]
          cases h4 : (decide (k = 1) && wdB m f e 10)
          · simp only [if_pos bI_f]
            cases h5 : (decide (k = 1) && wdB m f e 11)
            · simp only [if_pos bI_f]
              cases h6 : (decide (k = 1) && wdB m f e 12)
              · exact ⟨-1, rfl, rfl, Or.inl rfl⟩
              · exact ⟨6, rfl, rfl, Or.inr ⟨6, by omega, rfl, fin 6 h6⟩⟩
            · exact ⟨5, rfl, rfl, Or.inr ⟨5, by omega, rfl, fin 5 h5⟩⟩
          · exact ⟨4, rfl, rfl, Or.inr ⟨4, by omega, rfl, fin 4 h4⟩⟩
        · exact ⟨3, rfl, rfl, Or.inr ⟨3, by omega, rfl, fin 3 h3⟩⟩
      · exact ⟨2, rfl, rfl, Or.inr ⟨2, by omega, rfl, fin 2 h2⟩⟩
    · exact ⟨1, rfl, rfl, Or.inr ⟨1, by omega, rfl, fin 1 h1⟩⟩
  · exact ⟨0, rfl, rfl, Or.inr ⟨0, by omega, rfl, fin 0 h0⟩⟩
end
