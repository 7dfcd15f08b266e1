/-! how long it holds, when a block goes: the reference's way, and the class's -/
section
variable {M : Nat} {cold z : Int32} {N : Nat} {kd : Nat → Int32} {lit : Int32} {ccell cpow sp wm : Nat → Int32} {hr : Nat → Int32} {A : Nat → Nat} {rb : Nat → Int32} {cl gr oc dr : Nat → Nat → Int32} {v : Nat → Nat} {mm W md : Nat → Nat → Int32}
theorem m_held (h : HQ M cold z N kd lit ccell cpow sp wm hr A rb cl gr oc dr v mm W md) {n : Nat} (hn : n ≤ M) (hM : M < 3000) (mwas : Nat → Int32) : ∃ (m' W' md' : Nat → Int32), f_X7_held (mm 0) mwas (W 0) (md 0) (nI n) = some (nI (fst v n), fw (fw (mm 0) mwas 82) m' 82, fw (mm 0) mwas 82, W', md') := by
  have hk := fst_le v n
  unfold f_X7_held
  rw [m_row, pu_b1, m_goneNow (h.1 0 (Nat.zero_le _)).1, pu_b1]
  by_cases g : fst v n = n
  · refine ⟨mm n, W n, md n, ?_⟩
    refine lp_for5 (f := b_X7_held_21 (nI n) (fw (mm 0) mwas 82) (mk (fun b => decide (cl 0 b < 0)) N)) mm W md nI (fun _ => 1) _ n (fun rc i hi => ?_) (fun rc => ?_) (pu_fu (by omega))
    · unfold b_X7_held_21
      rw [if_neg (nI_ge hi (by omega)), if_neg (by decide), (h.2 i (by omega)).2.1, pu_b3, m_goneNow (h.1 (i + 1) (by omega)).1, pu_b1, if_pos ((hq_same h (by omega)).mp (hq_still h hn (i + 1) (by omega))), if_neg (by decide), nI_1]
    · unfold b_X7_held_21
      rw [if_pos (nI_le (Nat.le_refl _) (by omega)), m_row, pu_b1, g]
  · have hp := fst_hit (v := v) (n := n) (by omega)
    obtain ⟨k, ek⟩ : ∃ k, k = fst v n := ⟨_, rfl⟩
    have hne : ¬ mk (fun b => decide (cl (k + 1) b < 0)) N = mk (fun b => decide (cl 0 b < 0)) N := fun q => by
      have h1 := (hq_same h (i := k + 1) (by omega)).mpr q
      have h2 := (h.2 k (by omega)).2.2.1
      have h3 := hq_still h hn k (by omega)
      rw [← ek] at hp
      omega
    refine ⟨mm (k + 1), W (k + 1), md (k + 1), ?_⟩
    rw [← ek]
    refine lp_for5 (f := b_X7_held_21 (nI n) (fw (mm 0) mwas 82) (mk (fun b => decide (cl 0 b < 0)) N)) mm W md (fun i => if i ≤ k then nI i else nI k) (fun i => if i ≤ k then 1 else 0) _ (k + 1) (fun rc i hi => ?_) (fun rc => ?_) (pu_fu (by omega))
    · unfold b_X7_held_21
      rw [if_pos (show i ≤ k by omega), if_pos (show i ≤ k by omega), if_neg (nI_ge (show i < n by omega) (by omega)), if_neg (by decide), (h.2 i (by omega)).2.1, pu_b3, m_goneNow (h.1 (i + 1) (by omega)).1, pu_b1]
      by_cases e : i = k
      · subst e
        rw [if_neg hne, if_pos rfl, Int32.add_zero, if_neg (show ¬ i + 1 ≤ i by omega), if_neg (show ¬ i + 1 ≤ i by omega)]
      · rw [if_pos ((hq_same h (by omega)).mp (hq_still h hn (i + 1) (by omega))), if_neg (show ¬ (1 : Int32) = 0 by decide), nI_1, if_pos (show i + 1 ≤ k by omega), if_pos (show i + 1 ≤ k by omega)]
    · unfold b_X7_held_21
      rw [if_neg (show ¬ k + 1 ≤ k by omega), if_neg (show ¬ k + 1 ≤ k by omega), if_neg (nI_ge (show k < n by omega) (by omega)), if_pos rfl, m_row, pu_b1]
/-- the first hour at whose end a block is gone; one more than n for never -/
def gin (cl : Nat → Nat → Int32) (b n : Nat) : Nat := lst (fun i => decide (cl i b < 0)) (n + 1) 0
theorem gin_le (cl : Nat → Nat → Int32) (b n : Nat) : gin cl b n ≤ n + 1 := by have := (lst_le (fun i => decide (cl i b < 0)) (n + 1) 0).2; unfold gin; omega
theorem gin_hit {cl : Nat → Nat → Int32} {b n : Nat} (h : gin cl b n ≤ n) : cl (gin cl b n) b < 0 := of_decide_eq_true (lst_hit (fun i => decide (cl i b < 0)) (n + 1) 0 (by unfold gin at h; omega))
theorem gin_miss {cl : Nat → Nat → Int32} {b n i : Nat} (h : i < gin cl b n) : ¬ cl i b < 0 := of_decide_eq_false (lst_miss (fun i => decide (cl i b < 0)) (n + 1) 0 i (Nat.zero_le _) h)
theorem gin_pos {cl : Nat → Nat → Int32} {b n : Nat} (h : ¬ cl 0 b < 0) : 0 < gin cl b n := by
  apply Classical.byContradiction
  intro g
  have g0 : gin cl b n = 0 := by omega
  have := gin_hit (cl := cl) (b := b) (n := n) (by omega)
  rw [g0] at this
  exact h this
theorem w_goneIn (h : HQ M cold z N kd lit ccell cpow sp wm hr A rb cl gr oc dr v mm W md) {b n : Nat} (hb : b < N) (hl : ¬ cl 0 b < 0) (hn : n ≤ M) (hM : M < 3000) : ∃ (hr' air' rb' : Int32) (cl' gr' oc' dr' : Nat → Int32), ik_lp8 (b_X1_goneIn_6 (nI N) kd (nI b) (nI n) wm) ik_fu (hr 0) (nI (A 0)) (rb 0) (cl 0) (gr 0) (oc 0) (dr 0) 1 = some (nI (gin cl b n), hr', air', rb', cl', gr', oc', wm, dr') := by
  have hg := gin_le cl b n
  have hp := gin_pos (n := n) hl
  have hN := (h.1 0 (Nat.zero_le _)).1.hN
  have step : ∀ (rc : Int32 → Int32 → Int32 → (Nat → Int32) → (Nat → Int32) → (Nat → Int32) → (Nat → Int32) → Int32 → Option (Int32 × Int32 × Int32 × Int32 × (Nat → Int32) × (Nat → Int32) × (Nat → Int32) × (Nat → Int32) × (Nat → Int32))) (i : Nat), i + 1 < gin cl b n → i < n → b_X1_goneIn_6 (nI N) kd (nI b) (nI n) wm rc (hr i) (nI (A i)) (rb i) (cl i) (gr i) (oc i) (dr i) (nI (i + 1)) = rc (hr (i + 1)) (nI (A (i + 1))) (rb (i + 1)) (cl (i + 1)) (gr (i + 1)) (oc (i + 1)) (dr (i + 1)) (nI (i + 1 + 1)) := by
    intro rc i h1 h2
    unfold b_X1_goneIn_6
    rw [if_neg (nI_nlt (show i + 1 ≤ n by omega) (by omega)), (h.2 i (by omega)).1, pu_b8, w_gone (by omega), pu_b1, decide_eq_false (gin_miss h1), if_pos bI_f, nI_1]
  by_cases g : gin cl b n = n + 1
  · refine ⟨hr n, nI (A n), rb n, cl n, gr n, oc n, dr n, ?_⟩
    refine lp_for8 (f := b_X1_goneIn_6 (nI N) kd (nI b) (nI n) wm) hr (fun i => nI (A i)) rb cl gr oc dr (fun i => nI (i + 1)) _ n (fun rc i hi => step rc i (by omega) hi) (fun rc => ?_) (pu_fu (by omega))
    unfold b_X1_goneIn_6
    rw [if_pos (nI_lt (show n < n + 1 by omega) (by omega)), nI_1, g]
  · obtain ⟨k, ek⟩ : ∃ k, gin cl b n = k + 1 := ⟨gin cl b n - 1, by omega⟩
    have hh := gin_hit (cl := cl) (b := b) (n := n) (by omega)
    rw [ek] at hh
    refine ⟨hr (k + 1), nI (A (k + 1)), rb (k + 1), cl (k + 1), gr (k + 1), oc (k + 1), dr (k + 1), ?_⟩
    refine lp_for8 (f := b_X1_goneIn_6 (nI N) kd (nI b) (nI n) wm) hr (fun i => nI (A i)) rb cl gr oc dr (fun i => nI (i + 1)) _ k (fun rc i hi => step rc i (by omega) (by omega)) (fun rc => ?_) (pu_fu (by omega))
    unfold b_X1_goneIn_6
    rw [if_neg (nI_nlt (show k + 1 ≤ n by omega) (by omega)), (h.2 k (by omega)).1, pu_b8, w_gone (by omega), pu_b1, decide_eq_true hh, if_neg (by decide), ek]
theorem m_goneIn (h : HQ M cold z N kd lit ccell cpow sp wm hr A rb cl gr oc dr v mm W md) {b n : Nat} (hb : b < N) (hl : ¬ cl 0 b < 0) (hn : n ≤ M) (hM : M < 3000) (mwas : Nat → Int32) : ∃ (m' W' md' : Nat → Int32), f_X7_goneIn (mm 0) mwas (W 0) (md 0) (nI b) (nI n) = some (nI (gin cl b n), fw (fw (mm 0) mwas 82) m' 82, fw (mm 0) mwas 82, W', md') := by
  have hg := gin_le cl b n
  have hp := gin_pos (n := n) hl
  have hN := (h.1 0 (Nat.zero_le _)).1.hN
  unfold f_X7_goneIn
  rw [m_row, pu_b1]
  by_cases g : gin cl b n = n + 1
  · refine ⟨mm n, W n, md n, ?_⟩
    have := lp_for4 (f := b_X7_goneIn_13 (nI b) (nI n) (fw (mm 0) mwas 82)) (fun i => mm (min i n)) (fun i => W (min i n)) (fun i => md (min i n)) nI (some (nI (gin cl b n), fw (fw (mm 0) mwas 82) (mm n) 82, fw (mm 0) mwas 82, W n, md n)) (n + 1) (fun rc i hi => ?_) (fun rc => ?_) (pu_fu (show n + 1 < 4000 by omega))
    · rw [Nat.min_eq_left (Nat.zero_le n)] at this
      exact this
    · have e1 : min i n = i := Nat.min_eq_left (by omega)
      unfold b_X7_goneIn_13
      rw [e1, if_neg (nI_nlt (show i ≤ n by omega) (by omega)), m_gone (h.1 i (by omega)).1.rm (by omega), pu_b1, decide_eq_false (gin_miss (n := n) (by omega)), if_pos bI_f, nI_1]
      by_cases e : i = n
      · subst e
        rw [if_pos (nI_lt (show i < i + 1 by omega) (by omega)), Nat.min_eq_right (show i ≤ i + 1 by omega)]
      · rw [if_neg (nI_nlt (show i + 1 ≤ n by omega) (by omega)), (h.2 i (by omega)).2.1, pu_b3, Nat.min_eq_left (show i + 1 ≤ n by omega)]
    · unfold b_X7_goneIn_13
      rw [if_pos (nI_lt (show n < n + 1 by omega) (by omega)), m_row, pu_b1, Nat.min_eq_right (show n ≤ n + 1 by omega), g]
  · refine ⟨mm (gin cl b n), W (gin cl b n), md (gin cl b n), ?_⟩
    have hh := gin_hit (cl := cl) (b := b) (n := n) (by omega)
    refine lp_for4 (f := b_X7_goneIn_13 (nI b) (nI n) (fw (mm 0) mwas 82)) mm W md nI _ (gin cl b n) (fun rc i hi => ?_) (fun rc => ?_) (pu_fu (by omega))
    · unfold b_X7_goneIn_13
      rw [if_neg (nI_nlt (show i ≤ n by omega) (by omega)), m_gone (h.1 i (by omega)).1.rm (by omega), pu_b1, decide_eq_false (gin_miss hi), if_pos bI_f, nI_1, if_neg (nI_nlt (show i + 1 ≤ n by omega) (by omega)), (h.2 i (by omega)).2.1, pu_b3]
    · unfold b_X7_goneIn_13
      rw [if_neg (nI_nlt (show gin cl b n ≤ n by omega) (by omega)), m_gone (h.1 _ (by omega)).1.rm (by omega), pu_b1, decide_eq_true hh, if_neg (by decide), m_row, pu_b1]
end
