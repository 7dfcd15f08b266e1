/-! what stands by what -/
/-- whether one of T is on a cell -/
def onB (N : Nat) (cl : Nat → Int32) (T : Nat → Bool) (x : Int32) : Bool := (List.range N).any (fun b => T b && decide (cl b = x))
theorem onB_t {N : Nat} {cl : Nat → Int32} {T : Nat → Bool} {x : Int32} : onB N cl T x = true ↔ ∃ b, b < N ∧ T b = true ∧ cl b = x := by
  unfold onB
  rw [List.any_eq_true]
  constructor
  · rintro ⟨b, hb, h⟩
    rw [Bool.and_eq_true] at h
    exact ⟨b, List.mem_range.mp hb, h.1, of_decide_eq_true h.2⟩
  · rintro ⟨b, hb, h1, h2⟩
    exact ⟨b, List.mem_range.mpr hb, by rw [h1, decide_eq_true h2]; rfl⟩
/-- no two on one cell -/
def DC (N : Nat) (cl : Nat → Int32) : Prop := ∀ a b, a < N → b < N → ¬ cl a < 0 → cl a = cl b → a = b
/-- a set of blocks as the bits of an int -/
def MB (N : Nat) (T : Nat → Bool) (x : Int32) : Prop := ∀ b, b < 32 → bt x b = (decide (b < N) && T b)
theorem m1_lt : ((-1 : Int32) < 0) := by decide
section
variable {mm kd cl gr : Nat → Int32} {N : Nat} {T : Nat → Bool} {x : Int32}
theorem m_isOf (h : RM mm N kd cl gr) (hd : DC N cl) (hT : MB N T x) {y : Int32} (hy : ¬ y < 0) : f_X7_isOf mm x y = some (bI (onB N cl T y)) := by
  have hN := h.1
  unfold f_X7_isOf
  rw [m_bon h hy, pu_b1]
  unfold bo
  by_cases hl : lst (fun b => decide (cl b = y)) N 0 < N
  · have hp := of_decide_eq_true (lst_hit (fun b => decide (cl b = y)) N 0 (by omega))
    generalize lst (fun b => decide (cl b = y)) N 0 = i at hl hp
    rw [if_pos hl, if_neg (nI_pos (by omega)), pu_has (by omega), pu_b1, pu_ifb, hT i (by omega), decide_eq_true hl, Bool.true_and]
    have e : onB N cl T y = T i := by
      cases hti : T i
      · cases ho : onB N cl T y
        · rfl
        · obtain ⟨b, h1, h2, h3⟩ := onB_t.mp ho
          have := hd i b hl h1 (by rw [hp]; exact hy) (by rw [hp, h3])
          subst this
          rw [hti] at h2
          exact absurd h2 (by decide)
      · exact onB_t.mpr ⟨i, hl, hti, hp⟩
    rw [e]
    cases T i <;> rfl
  · rw [if_neg hl, if_pos m1_lt]
    have e : onB N cl T y = false := by
      cases ho : onB N cl T y
      · rfl
      · obtain ⟨b, h1, h2, h3⟩ := onB_t.mp ho
        have := lst_miss (fun b => decide (cl b = y)) N 0 b (Nat.zero_le _) (by omega)
        exact absurd h3 (of_decide_eq_false this)
    rw [e]; rfl
theorem m_isOfm (h : RM mm N kd cl gr) {y : Int32} (hy : y < 0) : f_X7_isOf mm x y = some 0 := by
  unfold f_X7_isOf
  rw [m_bonm h hy, pu_b1, if_pos m1_lt]
end
theorem pu_m8 {c : Nat} (hc : c < 64) : nI c - nI c / (8 : Int32) * (8 : Int32) = nI (c % 8) := pk_rem (a := c) (d := 8) (by omega) (by omega) (by omega)
theorem m_below {c : Nat} (hc : c < 48) : f_X7_below (nI c) = some (if 8 ≤ c then nI (c - 8) else -1) := by
  unfold f_X7_below
  by_cases h : 8 ≤ c
  · rw [if_pos (show (8 : Int32) ≤ nI c from nI_le (a := 8) h (by omega)), if_pos h, show nI c - (8 : Int32) = nI (c - 8) from pk_sub (a := c) (b := 8) h]
  · rw [if_neg (show ¬ (8 : Int32) ≤ nI c from nI_ge (b := 8) (by omega) (by omega)), if_neg h]
theorem m_above {c : Nat} (hc : c < 48) : f_X7_above (nI c) = some (if c < 40 then nI (c + 8) else -1) := by
  unfold f_X7_above
  by_cases h : c < 40
  · rw [if_neg (show ¬ (40 : Int32) ≤ nI c from nI_ge (b := 40) h (by omega)), if_pos h, show nI c + (8 : Int32) = nI (c + 8) from nI_add c 8]
  · rw [if_pos (show (40 : Int32) ≤ nI c from nI_le (a := 40) (by omega) (by omega)), if_neg h]
theorem m_left {c : Nat} (hc : c < 48) : f_X7_left (nI c) = some (if c % 8 ≠ 0 then nI (c - 1) else -1) := by
  unfold f_X7_left
  rw [pu_m8 (by omega)]
  by_cases h : c % 8 = 0
  · rw [if_pos (show nI (c % 8) = (0 : Int32) by rw [h]; rfl), if_neg (by simpa using h)]
  · rw [if_neg (show ¬ nI (c % 8) = (0 : Int32) from fun q => h ((nI_eq (b := 0) (by omega) (by omega)).mp q)), if_pos h, show nI c - (1 : Int32) = nI (c - 1) from pk_sub (a := c) (b := 1) (by omega)]
theorem m_right {c : Nat} (hc : c < 48) : f_X7_right (nI c) = some (if c % 8 ≠ 7 then nI (c + 1) else -1) := by
  unfold f_X7_right
  rw [pu_m8 (by omega)]
  by_cases h : c % 8 = 7
  · rw [if_pos (show nI (c % 8) = (7 : Int32) by rw [h]; rfl), if_neg (by simpa using h)]
  · rw [if_neg (show ¬ nI (c % 8) = (7 : Int32) from fun q => h ((nI_eq (b := 7) (by omega) (by omega)).mp q)), if_pos h, show nI c + (1 : Int32) = nI (c + 1) from nI_add c 1]
/-- one of kind k on cell c stands by those on cells -/
def sbC (on : Nat → Bool) (k c : Nat) : Bool :=
  if c < 8 then true
  else if k = 6 then (decide (c < 40) && on (c + 8))
  else if k = 1 ∨ k = 3 then (on (c - 8) || ((decide (c % 8 ≠ 0) && on (c - 1)) && (decide (c % 8 ≠ 7) && on (c + 1))))
  else if k = 2 ∨ k = 5 then (on (c - 8) || ((decide (c % 8 ≠ 0) && on (c - 1)) || (decide (c % 8 ≠ 7) && on (c + 1))))
  else on (c - 8)
section
variable {mm kd cl gr : Nat → Int32} {N : Nat} {T : Nat → Bool} {x : Int32}
theorem m_isOfi (h : RM mm N kd cl gr) (hd : DC N cl) (hT : MB N T x) (p : Prop) [Decidable p] {c : Nat} (hc : c < 64) : f_X7_isOf mm x (if p then nI c else -1) = some (bI (decide p && onB N cl T (nI c))) := by
  by_cases hp : p
  · rw [if_pos hp, m_isOf h hd hT (nI_pos (by omega)), decide_eq_true hp, Bool.true_and]
  · rw [if_neg hp, m_isOfm h m1_lt, decide_eq_false hp]; rfl
theorem m_standsBy (h : RM mm N kd cl gr) (hd : DC N cl) (hT : MB N T x) {b k c : Nat} (hb : b < N) (hk : kd b = nI k) (hk7 : k < 7) (hc : cl b = nI c) (hc48 : c < 48) : f_X7_standsBy mm (nI b) x = some (bI (sbC (fun c => onB N cl T (nI c)) k c)) := by
  have hN := h.1
  unfold f_X7_standsBy sbC
  rw [m_cell h (by omega), pu_b1, hc]
  by_cases h8 : c < 8
  · rw [if_neg (show ¬ (8 : Int32) ≤ nI c from nI_ge (b := 8) h8 (by omega)), if_pos h8]; rfl
  · rw [if_pos (show (8 : Int32) ≤ nI c from nI_le (a := 8) (by omega) (by omega)), if_neg h8]
    simp only [m_kind h (show b < 16 by omega), pu_b1, hk, m_left hc48, m_right hc48, m_above hc48, m_below hc48, m_isOfi h hd hT _ (show c + 8 < 64 by omega), m_isOfi h hd hT _ (show c - 1 < 64 by omega), m_isOfi h hd hT _ (show c + 1 < 64 by omega), m_isOfi h hd hT _ (show c - 8 < 64 by omega), pu_gz]
    rw [decide_eq_true (show 8 ≤ c by omega), Bool.true_and]
    generalize onB N cl T (nI (c - 8)) = p1
    generalize (decide (c % 8 ≠ 0) && onB N cl T (nI (c - 1))) = p2
    generalize (decide (c % 8 ≠ 7) && onB N cl T (nI (c + 1))) = p3
    generalize (decide (c < 40) && onB N cl T (nI (c + 8))) = p4
    rcases (show k = 0 ∨ k = 1 ∨ k = 2 ∨ k = 3 ∨ k = 4 ∨ k = 5 ∨ k = 6 by omega) with rfl | rfl | rfl | rfl | rfl | rfl | rfl <;> cases p1 <;> cases p2 <;> cases p3 <;> cases p4 <;> decide
/-- the class's way: the cells of those that stand as bits -/
theorem w_standsBy {b k c : Nat} {y : Int64} (hb : b < 16) (hk : kd b = nI k) (hk7 : k < 7) (hc : cl b = nI c) (hc48 : c < 48) (hy : ∀ i, 48 ≤ i → i < 64 → lb y i = false) : f_X5_standsBy kd cl (nI b) y = some (bI (sbC (fun c => lb y c) k c)) := by
  have e8 : lb y (c + 8) = (decide (c < 40) && lb y (c + 8)) := by
    by_cases g : c < 40
    · rw [decide_eq_true g, Bool.true_and]
    · rw [hy (c + 8) (by omega) (by omega), Bool.and_false]
  have t0 : ∀ (i : Nat), i < 64 → ∀ z : Int32, z = nI i → (lg_cmp ((ik_lus y z) &&& 1) 0 = 0 ↔ lb y i = false) := fun i hi z hz => by rw [lg0, hz]; exact lb_us hi
  unfold f_X5_standsBy j_X5_standsBy_45 j_X5_standsBy_73 j_X5_standsBy_103 sbC
  simp only [pu_gdN hb (show 16 < 2 ^ 31 by omega), nI_clamp (show b < 2 ^ 31 by omega), hc, hk]
  by_cases h8 : c < 8
  · rw [if_neg (show ¬ (8 : Int32) ≤ nI c from nI_ge (b := 8) h8 (by omega)), if_neg (nI_pos (by omega)), if_pos h8]; rfl
  · rw [if_pos (show (8 : Int32) ≤ nI c from nI_le (a := 8) (by omega) (by omega)), if_neg h8]
    have q1 := t0 (c - 8) (by omega) (nI c - 8) (pk_sub (a := c) (b := 8) (by omega))
    have q3 := t0 (c + 1) (by omega) (nI c + 1) (nI_add c 1)
    have q4 := t0 (c + 8) (by omega) (nI c + 8) (nI_add c 8)
    have r2 : nI c - nI c / (8 : Int32) * (8 : Int32) ≤ 0 ↔ c % 8 = 0 := by
      rw [pu_m8 (by omega)]
      exact ⟨fun g => by have := (nI_leI (a := c % 8) (b := 0) (by omega) (by omega)).mp g; omega, fun g => by rw [g]; decide⟩
    have r3 : (7 : Int32) ≤ nI c - nI c / (8 : Int32) * (8 : Int32) ↔ c % 8 = 7 := by
      rw [pu_m8 (by omega)]
      exact ⟨fun g => by have := (nI_leI (a := 7) (b := c % 8) (by omega) (by omega)).mp g; omega, fun g => by rw [g]; decide⟩
    have q2 : c % 8 ≠ 0 → (lg_cmp ((ik_lus y (nI c - 1)) &&& 1) 0 = 0 ↔ lb y (c - 1) = false) := fun g => t0 (c - 1) (by omega) (nI c - 1) (pk_sub (a := c) (b := 1) (by omega))
    rw [← e8]
    simp only [q1, q3, q4, r2, r3]
    generalize lb y (c - 8) = p1 at *
    generalize lb y (c + 1) = p3 at *
    generalize lb y (c + 8) = p4 at *
    by_cases g2 : c % 8 = 0
    · simp only [g2, if_true]
      rcases (show k = 0 ∨ k = 1 ∨ k = 2 ∨ k = 3 ∨ k = 4 ∨ k = 5 ∨ k = 6 by omega) with rfl | rfl | rfl | rfl | rfl | rfl | rfl <;> cases p1 <;> cases p3 <;> cases p4 <;> (try simp [nI, bI, ik_gz]) <;> (try omega)
    · simp only [q2 g2, g2, if_false]
      generalize lb y (c - 1) = p2 at *
      by_cases g3 : c % 8 = 7
      · simp only [g3, if_true]
        rcases (show k = 0 ∨ k = 1 ∨ k = 2 ∨ k = 3 ∨ k = 4 ∨ k = 5 ∨ k = 6 by omega) with rfl | rfl | rfl | rfl | rfl | rfl | rfl <;> cases p1 <;> cases p2 <;> cases p4 <;> (try simp [nI, bI, ik_gz]) <;> (try omega)
      · simp only [g3, if_false]
        rcases (show k = 0 ∨ k = 1 ∨ k = 2 ∨ k = 3 ∨ k = 4 ∨ k = 5 ∨ k = 6 by omega) with rfl | rfl | rfl | rfl | rfl | rfl | rfl <;> cases p1 <;> cases p2 <;> cases p3 <;> cases p4 <;> (try simp [nI, bI, ik_gz]) <;> (try omega)
end
