/-! warmth: class and reference -/
def dst (c d : Nat) : Nat := (c / 8 - d / 8) + (d / 8 - c / 8) + (c % 8 - d % 8) + (d % 8 - c % 8)
theorem dst_both : ∀ c, c < 48 → ∀ d, d < 48 → f_X0_far (nI d) (nI c) = some (nI (dst c d)) ∧ f_X7_distance (nI c) (nI d) = some (nI (dst c d)) := by decide +kernel
theorem dst_lt {c d : Nat} (hc : c < 48) (hd : d < 48) : dst c d < 20 := by unfold dst; omega
/-- candles are what candles may be -/
def CI (cold : Int32) (ccell cpow : Nat → Int32) : Prop := (-20 ≤ cold.toInt ∧ cold.toInt ≤ 20) ∧ ∀ j, j < 6 → (∃ d, d < 48 ∧ ccell j = nI d) ∧ ∃ q, q ≤ 30 ∧ cpow j = nI q
def wf (lit cold : Int32) (ccell cpow : Nat → Int32) (c : Nat) : Nat → Int32
  | 0 => cold
  | j + 1 => if bt lit j then wf lit cold ccell cpow c j + cpow j / (nI (dst c (ccell j).toNatClampNeg) + 1) else wf lit cold ccell cpow c j
theorem pu_bm {a : Int} (h1 : -2147483648 ≤ a) (h2 : a ≤ 2147483647) : Int.bmod a (2 ^ 32) = a := by
  rw [Int.bmod_def]
  split <;> omega
theorem i_add {x y : Int32} (h1 : -2147483648 ≤ x.toInt + y.toInt) (h2 : x.toInt + y.toInt ≤ 2147483647) : (x + y).toInt = x.toInt + y.toInt := by
  rw [Int32.toInt_add]; exact pu_bm h1 h2
theorem i_neg {x : Int32} (h1 : -2147483647 ≤ x.toInt) : (-x).toInt = -x.toInt := by
  have h2 := Int32.toInt_lt x
  rw [Int32.toInt_neg]; exact pu_bm (by omega) (by omega)
theorem wf_in {lit cold : Int32} {ccell cpow : Nat → Int32} (hc : CI cold ccell cpow) {c : Nat} (hc48 : c < 48) : ∀ j, j ≤ 6 → -20 ≤ (wf lit cold ccell cpow c j).toInt ∧ (wf lit cold ccell cpow c j).toInt ≤ 20 + 30 * j
  | 0, _ => by
    have := hc.1
    show -20 ≤ cold.toInt ∧ cold.toInt ≤ 20 + 30 * ((0 : Nat) : Int)
    omega
  | j + 1, hj => by
    have ih := wf_in (lit := lit) hc hc48 j (by omega)
    unfold wf
    cases bt lit j
    · simp only [Bool.false_eq_true, if_false]; omega
    · simp only [if_true]
      obtain ⟨⟨d, hd, e1⟩, q, hq, e2⟩ := hc.2 j (by omega)
      have e3 : nI (dst c d) + 1 = nI (dst c d + 1) := nI_1 _
      have hl := dst_lt hc48 hd
      have hdv : q / (dst c d + 1) ≤ q := Nat.div_le_self _ _
      rw [e1, e2, nI_clamp (by omega), e3, pk_div (by omega) (by omega) (by omega)]
      generalize q / (dst c d + 1) = t at *
      have e4 : (nI t).toInt = (t : Int) := nI_toInt (by omega)
      rw [i_add (by rw [e4]; omega) (by rw [e4]; omega), e4]
      omega
theorem w_isLit {lit : Int32} {j : Nat} (hj : j < 32) : f_X0_isLit lit (nI j) = some (bI (bt lit j)) := by
  unfold f_X0_isLit
  rw [bt_us hj]
  cases bt lit j <;> rfl
section
variable {mm : Nat → Int32} {hour cold air rub z : Int32} {N : Nat} {kd cl gr oc : Nat → Int32} {lit : Int32} {ccell cpow sp : Nat → Int32}
theorem m_isLit (h : MS mm hour cold air rub z N kd cl gr lit ccell cpow sp) {j : Nat} (hj : j < 6) : f_X7_isLit mm (nI j) = some (bI (bt lit j)) := by
  unfold f_X7_isLit
  rw [pu_y2, pu_gdN (show 8 + 3 * j < 82 by omega) (by omega), nI_clamp (by omega), h.cb j hj]
  cases bt lit j <;> rfl
theorem w_warm (hc : CI cold ccell cpow) {c : Nat} (hc48 : c < 48) : f_X0_warmthAt lit cold ccell cpow (nI c) = some (wf lit cold ccell cpow c 6) := by
  unfold f_X0_warmthAt
  refine lp_for2 (wf lit cold ccell cpow c) nI (some (wf lit cold ccell cpow c 6)) 6 (fun rc j hj => ?_) (fun rc => ?_) (pu_fu (by omega))
  · obtain ⟨⟨d, hd, e1⟩, q, hq, e2⟩ := hc.2 j hj
    unfold b_X0_warmthAt_7
    rw [if_neg (show ¬ (6 : Int32) ≤ nI j from nI_ge (b := 6) hj (by omega)), w_isLit (by omega), pu_b1, pu_ifb, pu_gdN hj (by omega), pu_gdN hj (by omega), nI_clamp (by omega), e1, (dst_both c hc48 d hd).1, pu_b1, nI_1, nI_1, pu_gn (nI_ne0 (by omega) (by have := dst_lt hc48 hd; omega))]
    show _ = rc (if bt lit j = true then _ + cpow j / (nI (dst c (ccell j).toNatClampNeg) + 1) else _) _
    rw [e1, nI_clamp (by omega), nI_1]
    cases bt lit j <;> rfl
  · unfold b_X0_warmthAt_7
    rw [if_pos (show (6 : Int32) ≤ nI 6 from nI_le (a := 6) (by omega) (by omega))]
theorem m_warm (h : MS mm hour cold air rub z N kd cl gr lit ccell cpow sp) (hc : CI cold ccell cpow) {c : Nat} (hc48 : c < 48) : f_X7_warmthOf mm (nI c) = some (wf lit cold ccell cpow c 6) := by
  unfold f_X7_warmthOf
  rw [pu_c1, h.h1]
  refine lp_for2 (wf lit cold ccell cpow c) nI (some (wf lit cold ccell cpow c 6)) 6 (fun rc j hj => ?_) (fun rc => ?_) (pu_fu (by omega))
  · obtain ⟨⟨d, hd, e1⟩, q, hq, e2⟩ := hc.2 j hj
    unfold b_X7_warmthOf_9
    rw [if_neg (show ¬ (6 : Int32) ≤ nI j from nI_ge (b := 6) hj (by omega)), m_isLit h hj, pu_b1, pu_ifb, pu_y1, pu_y0, pu_gdN (show 7 + 3 * j < 82 by omega) (by omega), pu_gdN (show 6 + 3 * j < 82 by omega) (by omega), nI_clamp (show 6 + 3 * j < 2 ^ 31 by omega), nI_clamp (show 7 + 3 * j < 2 ^ 31 by omega), h.cc j hj, h.cp j hj, e1, (dst_both c hc48 d hd).2, pu_b1, nI_1, nI_1, pu_gn (nI_ne0 (by omega) (by have := dst_lt hc48 hd; omega)), Int32.add_zero]
    show _ = rc (if bt lit j = true then _ + cpow j / (nI (dst c (ccell j).toNatClampNeg) + 1) else _) _
    rw [e1, nI_clamp (by omega), nI_1]
    cases bt lit j <;> rfl
  · unfold b_X7_warmthOf_9
    rw [if_pos (show (6 : Int32) ≤ nI 6 from nI_le (a := 6) (by omega) (by omega))]
end
/-- a row filled from its start -/
def fw (val wm : Nat → Int32) : Nat → Nat → Int32
  | 0 => wm
  | b + 1 => upd (fw val wm b) b (val b)
theorem fw_at {val wm : Nat → Int32} : ∀ b a, a < b → fw val wm b a = val a
  | 0, a, h => absurd h (by omega)
  | b + 1, a, h => by
    unfold fw
    by_cases e : a = b
    · rw [e, upd_eq]
    · rw [upd_ne e]; exact fw_at b a (by omega)
theorem fw_out {val wm : Nat → Int32} : ∀ b a, b ≤ a → fw val wm b a = wm a
  | 0, _, _ => rfl
  | b + 1, a, h => by
    unfold fw
    rw [upd_ne (by omega)]; exact fw_out b a (by omega)
theorem fill_fw {a : Nat → Int32} {n : Nat} (hn : n < 3000) {x : Int32} : f_J7_fill_53178 a n x = some (fw (fun _ => x) a n) := by
  unfold f_J7_fill_53178
  refine lp_for2 (fw (fun _ => x) a) nI (some (fw (fun _ => x) a n)) n (fun rc b hb => ?_) (fun rc => ?_) (pu_fu (by omega))
  · unfold b_J7_fill_53178_5
    rw [if_neg (show ¬ Int32.ofNat n ≤ nI b from nI_ge hb (by omega)), pu_gdN hb (by omega), nI_clamp (by omega), nI_1]
    rfl
  · unfold b_J7_fill_53178_5
    rw [if_pos (show Int32.ofNat n ≤ nI n from nI_le (Nat.le_refl _) (by omega))]
/-- the warmth that a block feels -/
def fv (cl : Nat → Int32) (lit cold : Int32) (ccell cpow : Nat → Int32) (b : Nat) : Int32 := if cl b < 0 then 0 else wf lit cold ccell cpow (cl b).toNatClampNeg 6
section
variable {mm : Nat → Int32} {hour cold air rub z : Int32} {N : Nat} {kd cl gr oc : Nat → Int32} {lit : Int32} {ccell cpow sp : Nat → Int32}
theorem fv_in (hw : WI N kd cl) (hc : CI cold ccell cpow) {b : Nat} (hb : b < N) : -20 ≤ (fv cl lit cold ccell cpow b).toInt ∧ (fv cl lit cold ccell cpow b).toInt ≤ 200 := by
  unfold fv
  rcases (hw.2 b hb).2 with g | ⟨c, hc48, g⟩
  · rw [if_pos (by rw [g]; decide)]; decide
  · rw [g, if_neg (nI_pos (by omega)), nI_clamp (by omega)]
    have := wf_in (lit := lit) hc hc48 6 (by omega)
    omega
theorem w_feel (hN : N ≤ 16) (hw : WI N kd cl) (hc : CI cold ccell cpow) (wm : Nat → Int32) : f_X1_feelWarmth (nI N) cl lit cold ccell cpow wm = some (fw (fv cl lit cold ccell cpow) wm N) := by
  unfold f_X1_feelWarmth
  refine lp_for2 (fw (fv cl lit cold ccell cpow) wm) nI (some (fw (fv cl lit cold ccell cpow) wm N)) N (fun rc b hb => ?_) (fun rc => ?_) (pu_fu (by omega))
  · unfold b_X1_feelWarmth_2
    rw [if_neg (nI_ge hb (by omega)), w_gone (by omega), pu_b1, pu_ifb, nI_1]
    simp only [pu_gdN (show b < 16 by omega) (show 16 < 2 ^ 31 by omega), nI_clamp (show b < 2 ^ 31 by omega)]
    show _ = rc (upd _ b (if cl b < 0 then 0 else wf lit cold ccell cpow (cl b).toNatClampNeg 6)) _
    rcases (hw.2 b hb).2 with g | ⟨c, hc48, g⟩
    · have hg : cl b < 0 := by rw [g]; decide
      rw [decide_eq_true hg, if_pos rfl, if_pos hg]
    · have hg : ¬ cl b < 0 := by rw [g]; exact nI_pos (by omega)
      rw [decide_eq_false hg, if_neg (by decide), if_neg hg, g, w_warm hc hc48, pu_b1, nI_clamp (by omega)]
  · unfold b_X1_feelWarmth_2
    rw [if_pos (nI_le (Nat.le_refl _) (by omega))]
/-- the reference's hour: what it feels first, then drips from nothing -/
theorem m_hour1 (h : MS mm hour cold air rub z N kd cl gr lit ccell cpow sp) (hw : WI N kd cl) (hc : CI cold ccell cpow) (mwarm mdrip : Nat → Int32) : f_X7_hour mm mwarm mdrip = ik_lp3 (b_X7_hour_68 (fw (fv cl lit cold ccell cpow) mwarm N)) ik_fu mm (fw (fun _ => 0) mdrip 8) 0 := by
  have hN := h.hN
  unfold f_X7_hour
  refine (lp_for2 (fw (fv cl lit cold ccell cpow) mwarm) nI (ik_lp2 (b_X7_hour_47 mm (fw (fv cl lit cold ccell cpow) mwarm N)) ik_fu mdrip 0) N (fun rc b hb => ?_) (fun rc => ?_) (pu_fu (by omega))).trans ?_
  · unfold b_X7_hour_2
    rw [pu_c5, h.h5, if_neg (nI_ge hb (by omega)), m_gone h.rm (by omega), pu_b1, pu_ifb, m_cell h.rm (by omega), pu_b1, nI_1]
    show _ = rc (upd _ b (if cl b < 0 then 0 else wf lit cold ccell cpow (cl b).toNatClampNeg 6)) _
    rcases (hw.2 b hb).2 with g | ⟨c, hc48, g⟩
    · have hg : cl b < 0 := by rw [g]; decide
      rw [decide_eq_true hg, if_pos rfl, if_pos hg, pu_gdN (show b < 16 by omega) (by omega), nI_clamp (by omega)]
    · have hg : ¬ cl b < 0 := by rw [g]; exact nI_pos (by omega)
      rw [decide_eq_false hg, if_neg (by decide), if_neg hg, g, m_warm h hc hc48, pu_b1, pu_gdN (show b < 16 by omega) (by omega), nI_clamp (by omega), nI_clamp (by omega)]
  · unfold b_X7_hour_2
    rw [pu_c5, h.h5, if_pos (nI_le (Nat.le_refl _) (by omega))]
  · refine lp_for2 (fw (fun _ => 0) mdrip) nI _ 8 (fun rc b hb => ?_) (fun rc => ?_) (pu_fu (by omega))
    · unfold b_X7_hour_47
      rw [if_neg (show ¬ (8 : Int32) ≤ nI b from nI_ge (b := 8) hb (by omega)), pu_gdN hb (by omega), nI_clamp (by omega), nI_1]
      rfl
    · unfold b_X7_hour_47
      rw [if_pos (show (8 : Int32) ≤ nI 8 from nI_le (a := 8) (by omega) (by omega))]
end
