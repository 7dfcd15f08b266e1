/-! walls: the reference's row of numbers against the class's rows -/
theorem pu_c0 : ((0 : Int32)).toNatClampNeg = 0 := by decide
theorem pu_c1 : ((1 : Int32)).toNatClampNeg = 1 := by decide
theorem pu_c2 : ((2 : Int32)).toNatClampNeg = 2 := by decide
theorem pu_c3 : ((3 : Int32)).toNatClampNeg = 3 := by decide
theorem pu_c4 : ((4 : Int32)).toNatClampNeg = 4 := by decide
theorem pu_c5 : ((5 : Int32)).toNatClampNeg = 5 := by decide
theorem pu_x0 (b : Nat) : (24 : Int32) + (3 : Int32) * nI b = nI (24 + 3 * b) := by
  show nI 24 + nI 3 * nI b = _
  rw [pk_mul, nI_add]
theorem pu_x1 (b : Nat) : (24 : Int32) + (3 : Int32) * nI b + (1 : Int32) = nI (25 + 3 * b) := by
  rw [pu_x0]; show nI _ + nI 1 = _; rw [nI_add]; congr 1; omega
theorem pu_x2 (b : Nat) : (24 : Int32) + (3 : Int32) * nI b + (2 : Int32) = nI (26 + 3 * b) := by
  rw [pu_x0]; show nI _ + nI 2 = _; rw [nI_add]; congr 1; omega
theorem pu_y0 (b : Nat) : (6 : Int32) + (3 : Int32) * nI b = nI (6 + 3 * b) := by
  show nI 6 + nI 3 * nI b = _
  rw [pk_mul, nI_add]
theorem pu_y1 (b : Nat) : (6 : Int32) + (3 : Int32) * nI b + (1 : Int32) = nI (7 + 3 * b) := by
  rw [pu_y0]; show nI _ + nI 1 = _; rw [nI_add]; congr 1; omega
theorem pu_y2 (b : Nat) : (6 : Int32) + (3 : Int32) * nI b + (2 : Int32) = nI (8 + 3 * b) := by
  rw [pu_y0]; show nI _ + nI 2 = _; rw [nI_add]; congr 1; omega
/-- the reference's blocks are these -/
def RM (mm : Nat → Int32) (N : Nat) (kd cl gr : Nat → Int32) : Prop := N ≤ 16 ∧ mm 5 = nI N ∧ ∀ b, b < 16 → mm (24 + 3 * b) = kd b ∧ mm (25 + 3 * b) = cl b ∧ mm (26 + 3 * b) = gr b
section
variable {mm kd cl gr : Nat → Int32} {N : Nat}
theorem m_kind (h : RM mm N kd cl gr) {b : Nat} (hb : b < 16) : f_X7_kindOf mm (nI b) = some (kd b) := by
  unfold f_X7_kindOf
  rw [pu_x0, pu_gdN (by omega) (by omega), nI_clamp (by omega), (h.2.2 b hb).1]
theorem m_cell (h : RM mm N kd cl gr) {b : Nat} (hb : b < 16) : f_X7_cellOf mm (nI b) = some (cl b) := by
  unfold f_X7_cellOf
  rw [pu_x1, pu_gdN (by omega) (by omega), nI_clamp (by omega), (h.2.2 b hb).2.1]
theorem m_grains (h : RM mm N kd cl gr) {b : Nat} (hb : b < 16) : f_X7_grains mm (nI b) = some (gr b) := by
  unfold f_X7_grains
  rw [pu_x2, pu_gdN (by omega) (by omega), nI_clamp (by omega), (h.2.2 b hb).2.2]
theorem m_makes {b : Nat} (hb : b < 16) (v : Int32) : f_X7_makes mm (nI b) v = some (upd mm (26 + 3 * b) v) := by
  unfold f_X7_makes
  rw [pu_x2, pu_gdN (by omega) (by omega), nI_clamp (by omega)]
theorem m_gone (h : RM mm N kd cl gr) {b : Nat} (hb : b < 16) : f_X7_isGone mm (nI b) = some (bI (decide (cl b < 0))) := by
  unfold f_X7_isGone
  rw [m_cell h hb, pu_b1]
  by_cases hc : cl b < 0
  · rw [if_neg (fun g => absurd (Int32.lt_of_lt_of_le hc g) (by exact Int32.lt_irrefl)), decide_eq_true hc]; rfl
  · rw [if_pos (Int32.not_lt.mp hc), decide_eq_false hc]; rfl
theorem w_gone {b : Nat} (hb : b < 16) : f_X5_isGone cl (nI b) = some (bI (decide (cl b < 0))) := by
  unfold f_X5_isGone
  rw [pu_gdN hb (by omega), nI_clamp (by omega)]
  by_cases hc : cl b < 0
  · rw [if_neg (fun g => absurd (Int32.lt_of_lt_of_le hc g) (by exact Int32.lt_irrefl)), decide_eq_true hc]; rfl
  · rw [if_pos (Int32.not_lt.mp hc), decide_eq_false hc]; rfl
theorem m_isBlock (h : RM mm N kd cl gr) (x : Int32) : f_X7_isBlock mm x = some (bI (wn x 0 (N - 1 : Int))) := by
  unfold f_X7_isBlock
  rw [pu_c5, h.2.1, pu_in32, pu_b1, pu_gz, pu_i64]
  have := h.1
  rw [show (nI N - 1).toInt = (N : Int) - 1 from pk_sub_toInt (a := N) (b := 1) (by omega) (by omega)]
  rfl
theorem w_isBlock (hN : N ≤ 16) (x : Int32) : f_X5_isBlock (nI N) x = some (bI (wn x 0 (N - 1 : Int))) := by
  unfold f_X5_isBlock wn
  have z : (0 : Int32).toInt = 0 := rfl
  have e : (nI N).toInt = N := nI_toInt (by omega)
  by_cases h1 : x < 0
  · have := Int32.lt_iff_toInt_lt.mp h1
    rw [if_pos h1, decide_eq_false (by omega)]; rfl
  · have h1' : ¬ x.toInt < (0 : Int32).toInt := fun q => h1 (Int32.lt_iff_toInt_lt.mpr q)
    rw [if_neg h1]
    by_cases h2 : nI N ≤ x
    · have := Int32.le_iff_toInt_le.mp h2
      rw [if_pos h2, decide_eq_false (by omega)]; rfl
    · have h2' : ¬ (nI N).toInt ≤ x.toInt := fun q => h2 (Int32.le_iff_toInt_le.mpr q)
      rw [if_neg h2, decide_eq_true (by omega)]; rfl
end
/-- the first place from j on, within d, that p holds at -/
def lst (p : Nat → Bool) : Nat → Nat → Nat
  | 0, j => j
  | d + 1, j => if p j then j else lst p d (j + 1)
theorem lst_le (p : Nat → Bool) : ∀ d j, j ≤ lst p d j ∧ lst p d j ≤ j + d
  | 0, j => ⟨Nat.le_refl j, Nat.le_refl j⟩
  | d + 1, j => by
    unfold lst
    have := lst_le p d (j + 1)
    split <;> omega
theorem lst_hit (p : Nat → Bool) : ∀ d j, lst p d j < j + d → p (lst p d j) = true
  | 0, j, h => by unfold lst at h; omega
  | d + 1, j, h => by
    unfold lst at h ⊢
    split
    · assumption
    · rename_i hp
      rw [if_neg hp] at h
      exact lst_hit p d (j + 1) (by omega)
theorem lst_miss (p : Nat → Bool) : ∀ d j i, j ≤ i → i < lst p d j → p i = false
  | 0, j, i, h1, h2 => by unfold lst at h2; omega
  | d + 1, j, i, h1, h2 => by
    unfold lst at h2
    split at h2
    · omega
    · rename_i hp
      by_cases e : i = j
      · subst e; simpa using hp
      · exact lst_miss p d (j + 1) i (by omega) h2
/-- the block on a cell, -1 for none -/
def bo (N : Nat) (cl : Nat → Int32) (x : Int32) : Int32 := if lst (fun b => decide (cl b = x)) N 0 < N then nI (lst (fun b => decide (cl b = x)) N 0) else -1
theorem m_bon {mm kd cl gr : Nat → Int32} {N : Nat} (h : RM mm N kd cl gr) {x : Int32} (hx : ¬ x < 0) : f_X7_blockOn mm x = some (bo N cl x) := by
  have hN := h.1
  have hle := lst_le (fun b => decide (cl b = x)) N 0
  unfold f_X7_blockOn
  refine lp_for1 (fun b => nI b) _ (lst (fun b => decide (cl b = x)) N 0) (fun rc b hb => ?_) (fun rc => ?_) (pu_fu (by omega))
  · have hp := lst_miss (fun b => decide (cl b = x)) N 0 b (Nat.zero_le _) hb
    unfold b_X7_blockOn_2
    rw [pu_c5, h.2.1, if_neg (nI_ge (by omega) (by omega)), if_neg hx, m_cell h (by omega), pu_b1, if_neg (of_decide_eq_false hp), nI_1]
  · unfold b_X7_blockOn_2 bo
    rw [pu_c5, h.2.1]
    by_cases hl : lst (fun b => decide (cl b = x)) N 0 < N
    · rw [if_neg (nI_ge hl (by omega)), if_neg hx, m_cell h (by omega), pu_b1, if_pos (of_decide_eq_true (lst_hit (fun b => decide (cl b = x)) N 0 (by omega))), if_pos hl]
    · rw [if_pos (nI_le (by omega) (by omega)), if_neg hl]
theorem m_bonm {mm kd cl gr : Nat → Int32} {N : Nat} (h : RM mm N kd cl gr) {x : Int32} (hx : x < 0) : f_X7_blockOn mm x = some (-1) := by
  unfold f_X7_blockOn
  refine lp_for1 (fun b => nI b) _ 0 (fun rc b hb => absurd hb (by omega)) (fun rc => ?_) (pu_fu (by omega))
  unfold b_X7_blockOn_2
  split
  · rfl
  · first | rfl | rw [if_pos hx]
/-- the class's row of cells says just that -/
def OC (N : Nat) (cl oc : Nat → Int32) : Prop := ∀ c, c < 48 → oc c = bo N cl (nI c)
theorem w_blockAt {N : Nat} {cl oc : Nat → Int32} (ho : OC N cl oc) {c : Nat} (hc : c < 48) : f_X5_blockAt oc (nI c) = some (bo N cl (nI c)) := by
  unfold f_X5_blockAt
  rw [pu_6cell, pu_b1, pu_ifb, show wn (nI c) 0 47 = true from decide_eq_true (by rw [nI_toInt (by omega)]; omega), if_pos rfl, pu_gdN hc (by omega), nI_clamp (by omega), ho c hc]
