/-! what is loose, what is too weak: the same bits on both sides -/
def mk (p : Nat → Bool) : Nat → Int32
  | 0 => 0
  | n + 1 => if p n then mk p n ||| ((1 : Int32) <<< (nI n &&& 31)) else mk p n
theorem mk_bits (p : Nat → Bool) : ∀ n, n ≤ 32 → ∀ i, i < 32 → bt (mk p n) i = (decide (i < n) && p i)
  | 0, _, i, _ => by
    show bt 0 i = _
    rw [b_0, decide_eq_false (by omega), Bool.false_and]
  | n + 1, hn, i, hi => by
    have ih := mk_bits p n (by omega) i hi
    unfold mk
    by_cases e : i = n
    · subst e
      rw [decide_eq_false (by omega), Bool.false_and] at ih
      rw [decide_eq_true (by omega), Bool.true_and]
      cases hp : p i
      · simp only [Bool.false_eq_true, if_false]; exact ih
      · simp only [if_true]; rw [b_or, bt_sl (by omega), decide_eq_true rfl, Bool.or_true]
    · have e2 : decide (i < n + 1) = decide (i < n) := by rw [decide_eq_decide]; omega
      rw [e2]
      cases hp : p n
      · simp only [Bool.false_eq_true, if_false]; exact ih
      · simp only [if_true]; rw [b_or, bt_sl (by omega), decide_eq_false (fun q => e q.symm), Bool.or_false]; exact ih
theorem mk_MB (p : Nat → Bool) {N : Nat} (hN : N ≤ 16) : MB N p (mk p N) := fun i hi => mk_bits p N (by omega) i hi
theorem bo_cases (N : Nat) (cl : Nat → Int32) (x : Int32) : (∃ b, b < N ∧ cl b = x ∧ bo N cl x = nI b) ∨ (bo N cl x = -1 ∧ ∀ b, b < N → ¬ cl b = x) := by
  unfold bo
  by_cases h : lst (fun b => decide (cl b = x)) N 0 < N
  · left
    refine ⟨lst (fun b => decide (cl b = x)) N 0, h, ?_, if_pos h⟩
    have := lst_hit (fun b => decide (cl b = x)) N 0 (by omega)
    exact of_decide_eq_true this
  · right
    refine ⟨if_neg h, fun b hb e => ?_⟩
    have := lst_miss (fun b => decide (cl b = x)) N 0 b (Nat.zero_le _) (by omega)
    exact (of_decide_eq_false this) e
theorem onB_self {N : Nat} {cl : Nat → Int32} {T : Nat → Bool} {b : Nat} (hd : DC N cl) (hb : b < N) (hn : ¬ cl b < 0) : onB N cl T (cl b) = T b := by
  rw [Bool.eq_iff_iff, onB_t]
  constructor
  · rintro ⟨a, h1, h2, h3⟩
    have := hd b a hb h1 hn h3.symm
    subst this
    exact h2
  · exact fun h => ⟨b, hb, h, rfl⟩
/-- what is loose -/
theorem lo_both {mm kd cl gr : Nat → Int32} {N : Nat} (h : RM mm N kd cl gr) (hw : WI N kd cl) (hd : DC N cl) : ∃ p : Nat → Bool, (∀ b, b < N → p b = true → ¬ cl b < 0) ∧ f_X5_looseSet (nI N) kd cl = some (mk p N) ∧ f_X7_looseNow mm = some (mk p N) := by
  have hN := h.1
  obtain ⟨T, x, y, a1, a2, a3, e1, e2⟩ := st_standing h hw hd
  refine ⟨fun b => !decide (cl b < 0) && !T b, fun b hb q => ?_, ?_, ?_⟩
  · intro g
    have q' : (!decide (cl b < 0) && !T b) = true := q
    rw [decide_eq_true g] at q'; exact absurd q' (by simp)
  · unfold f_X5_looseSet
    rw [e1, pu_b1]
    refine lp_for2 (mk (fun b => !decide (cl b < 0) && !T b)) nI (some (mk (fun b => !decide (cl b < 0) && !T b) N)) N (fun rc b hb => ?_) (fun rc => ?_) (pu_fu (by omega))
    · unfold b_X5_looseSet_10
      rw [if_neg (nI_ge hb (by omega)), w_gone (by omega), pu_b1, pu_ifb]
      show _ = rc (if (!decide (cl b < 0) && !T b) = true then _ else _) _
      rcases (hw.2 b hb).2 with g | ⟨c, hc, g⟩
      · rw [decide_eq_true (show cl b < 0 by rw [g]; decide), nI_1]; rfl
      · have hng : ¬ cl b < 0 := by rw [g]; exact nI_pos (by omega)
        have hq : lg_cmp (x &&& ik_lsh 1 (nI c)) 0 = 0 ↔ T b = false := by
          rw [lg0, lb_and0 (by omega), a1 c (by omega), decide_eq_true hc, Bool.true_and, ← g, onB_self hd hb hng]
        rw [decide_eq_false hng, w_cellBit (by omega) hc g, pu_b1, nI_1]
        cases hT : T b
        · simp only [Bool.false_eq_true, if_false]; rw [if_pos (hq.mpr hT)]; rfl
        · simp only [Bool.false_eq_true, if_false]; rw [if_neg (fun q => by rw [hq.mp q] at hT; exact absurd hT (by decide))]; rfl
    · unfold b_X5_looseSet_10
      rw [if_pos (nI_le (Nat.le_refl _) (by omega))]
  · unfold f_X7_looseNow
    rw [e2, pu_b1]
    refine lp_for2 (mk (fun b => !decide (cl b < 0) && !T b)) nI (some (mk (fun b => !decide (cl b < 0) && !T b) N)) N (fun rc b hb => ?_) (fun rc => ?_) (pu_fu (by omega))
    · unfold b_X7_looseNow_9
      rw [pu_c5, h.2.1, if_neg (nI_ge hb (by omega)), m_gone h (by omega), pu_b1, pu_ifb, pu_has (by omega), pu_b1, pu_ifb, a2 b (by omega), decide_eq_true hb, Bool.true_and, or0, nI_1]
      show _ = rc (if (!decide (cl b < 0) && !T b) = true then _ else _) _
      cases decide (cl b < 0) <;> cases T b <;> rfl
    · unfold b_X7_looseNow_9
      rw [pu_c5, h.2.1, if_pos (nI_le (Nat.le_refl _) (by omega))]
/-- what lies on a block -/
def ldF (N : Nat) (cl gr : Nat → Int32) : Nat → Int32 → Nat → Int32
  | 0, a, _ => a
  | d + 1, a, c => if c < 48 ∧ ¬ bo N cl (nI c) < 0 then ldF N cl gr d (a + gr (bo N cl (nI c)).toNatClampNeg) (c + 8) else a
theorem ld_w {N : Nat} {cl gr oc : Nat → Int32} (hN : N ≤ 16) (ho : OC N cl oc) : ∀ (d : Nat) (a : Int32) (c n : Nat), 48 ≤ c + 8 * d → c < 64 → d < n → ik_lp2 (b_X5_loadOf_22 gr oc) n a (nI c) = some (ldF N cl gr d a c) := by
  intro d
  induction d with
  | zero =>
    intro a c n h1 h2 h3
    obtain ⟨n, rfl⟩ := Nat.exists_eq_succ_of_ne_zero (show n ≠ 0 by omega)
    show b_X5_loadOf_22 gr oc (ik_lp2 (b_X5_loadOf_22 gr oc) n) a (nI c) = _
    unfold b_X5_loadOf_22
    rw [if_pos (show (48 : Int32) ≤ nI c from nI_le (a := 48) (by omega) (by omega))]
    rfl
  | succ d ih =>
    intro a c n h1 h2 h3
    obtain ⟨n, rfl⟩ := Nat.exists_eq_succ_of_ne_zero (show n ≠ 0 by omega)
    show b_X5_loadOf_22 gr oc (ik_lp2 (b_X5_loadOf_22 gr oc) n) a (nI c) = _
    unfold b_X5_loadOf_22 ldF
    by_cases g : c < 48
    · rw [if_neg (show ¬ (48 : Int32) ≤ nI c from nI_ge (b := 48) g (by omega)), pu_gdN g (by omega), nI_clamp (by omega), ho c g]
      rcases bo_cases N cl (nI c) with ⟨b, q1, q2, q3⟩ | ⟨q1, q2⟩
      · rw [q3, if_pos (nI_pos' (by omega)), pu_gdN (show b < 16 by omega) (by omega), if_pos ⟨g, nI_pos (by omega)⟩]
        have e : nI c + 8 = nI (c + 8) := nI_add c 8
        rw [e]
        exact ih _ _ _ (by omega) (by omega) (by omega)
      · rw [q1, if_neg (by decide), if_neg (fun q => q.2 (by decide))]
    · rw [if_pos (show (48 : Int32) ≤ nI c from nI_le (a := 48) (by omega) (by omega)), if_neg (fun q => g q.1)]
theorem ld_m {mm kd cl gr : Nat → Int32} {N : Nat} (h : RM mm N kd cl gr) : ∀ (d : Nat) (a : Int32) (c n : Nat), 48 ≤ c + 8 * d → c < 64 → d < n → ik_lp2 (b_X7_loadOf_11 mm) n a (if c < 48 then nI c else -1) = some (ldF N cl gr d a c) := by
  have hN := h.1
  intro d
  induction d with
  | zero =>
    intro a c n h1 h2 h3
    obtain ⟨n, rfl⟩ := Nat.exists_eq_succ_of_ne_zero (show n ≠ 0 by omega)
    rw [if_neg (show ¬ c < 48 by omega)]
    show b_X7_loadOf_11 mm (ik_lp2 (b_X7_loadOf_11 mm) n) a (-1) = _
    unfold b_X7_loadOf_11
    rw [m_bonm h (by decide), pu_b1, if_pos (by decide)]
    rfl
  | succ d ih =>
    intro a c n h1 h2 h3
    obtain ⟨n, rfl⟩ := Nat.exists_eq_succ_of_ne_zero (show n ≠ 0 by omega)
    show b_X7_loadOf_11 mm (ik_lp2 (b_X7_loadOf_11 mm) n) a (if c < 48 then nI c else -1) = _
    unfold b_X7_loadOf_11 ldF
    by_cases g : c < 48
    · rw [if_pos g, m_bon h (nI_pos (by omega)), pu_b1]
      rcases bo_cases N cl (nI c) with ⟨b, q1, q2, q3⟩ | ⟨q1, q2⟩
      · rw [q3, if_neg (nI_pos (by omega)), pu_b1, m_grains h (by omega), pu_b1, m_above g, pu_b1, if_pos (show c < 48 ∧ ¬ nI b < 0 from ⟨g, nI_pos (by omega)⟩), nI_clamp (by omega)]
        have e : (if c < 40 then nI (c + 8) else (-1 : Int32)) = (if c + 8 < 48 then nI (c + 8) else (-1 : Int32)) := by
          by_cases g2 : c < 40
          · rw [if_pos g2, if_pos (by omega)]
          · rw [if_neg g2, if_neg (by omega)]
        rw [e]
        exact ih _ _ _ (by omega) (by omega) (by omega)
      · rw [q1, if_pos (by decide), if_neg (fun q => q.2 (by decide))]
    · rw [if_neg g, m_bonm h (by decide), pu_b1, if_pos (by decide), if_neg (fun q => g q.1)]
theorem w_load {N b c : Nat} {cl gr oc : Nat → Int32} (hN : N ≤ 16) (ho : OC N cl oc) (hb : b < 16) (hc : c < 48) (e : cl b = nI c) : f_X5_loadOf cl gr oc (nI b) = some (ldF N cl gr 6 0 (c + 8)) := by
  unfold f_X5_loadOf
  have e8 : nI c + 8 = nI (c + 8) := nI_add c 8
  rw [w_gone hb, e, decide_eq_false (nI_pos (by omega)), pu_b1, if_pos bI_f, pu_gdN hb (by omega), nI_clamp (by omega), e, e8]
  exact ld_w hN ho 6 0 (c + 8) ik_fu (by omega) (by omega) (pu_fu (by omega))
theorem w_loadG {b : Nat} {cl gr oc : Nat → Int32} (hb : b < 16) (e : cl b = -1) : f_X5_loadOf cl gr oc (nI b) = some 0 := by
  unfold f_X5_loadOf
  rw [w_gone hb, e, decide_eq_true (by decide), pu_b1, if_neg (by decide)]
theorem m_load {mm kd cl gr : Nat → Int32} {N b c : Nat} (h : RM mm N kd cl gr) (hb : b < 16) (hc : c < 48) (e : cl b = nI c) : f_X7_loadOf mm (nI b) = some (ldF N cl gr 6 0 (c + 8)) := by
  unfold f_X7_loadOf
  rw [m_cell h hb, pu_b1, e, m_above hc, pu_b1]
  have e2 : (if c < 40 then nI (c + 8) else (-1 : Int32)) = (if c + 8 < 48 then nI (c + 8) else (-1 : Int32)) := by
    by_cases g2 : c < 40
    · rw [if_pos g2, if_pos (by omega)]
    · rw [if_neg g2, if_neg (by omega)]
  rw [e2]
  exact ld_m h 6 0 (c + 8) ik_fu (by omega) (by omega) (pu_fu (by omega))
/-- what a block bears -/
def stF (k g : Int32) : Int32 := if k = (3 : Int32) then (4 : Int32) * g + (20 : Int32) else if k = (4 : Int32) then (3 : Int32) * ((4 : Int32) * g) else if k = (5 : Int32) then (2 : Int32) * ((4 : Int32) * g) else (4 : Int32) * g
theorem some_ite {α : Type} {p : Prop} [Decidable p] {x y : α} : (if p then some x else some y) = some (if p then x else y) := by by_cases h : p <;> simp [h]
theorem w_str {b c : Nat} {kd cl gr : Nat → Int32} (hb : b < 16) (hc : c < 48) (e : cl b = nI c) : f_X5_strengthOf kd cl gr (nI b) = some (stF (kd b) (gr b)) := by
  unfold f_X5_strengthOf
  rw [w_gone hb, e, decide_eq_false (nI_pos (by omega)), pu_b1, if_pos bI_f, pu_gdN hb (by omega), pu_gdN hb (by omega), nI_clamp (by omega)]
  simp only [some_ite]
  rfl
theorem w_strG {b : Nat} {kd cl gr : Nat → Int32} (hb : b < 16) (e : cl b = -1) : f_X5_strengthOf kd cl gr (nI b) = some 0 := by
  unfold f_X5_strengthOf
  rw [w_gone hb, e, decide_eq_true (by decide), pu_b1, if_neg (by decide)]
theorem m_str {mm kd cl gr : Nat → Int32} {N b : Nat} (h : RM mm N kd cl gr) (hb : b < 16) : f_X7_strongOf mm (nI b) = some (stF (kd b) (gr b)) := by
  unfold f_X7_strongOf
  rw [m_grains h hb, pu_b1, m_kind h hb, pu_b1]
  simp only [some_ite]
  rfl
/-- what is too weak -/
theorem we_both {mm kd cl gr oc : Nat → Int32} {N : Nat} (h : RM mm N kd cl gr) (hw : WI N kd cl) (ho : OC N cl oc) : ∃ p : Nat → Bool, (∀ b, b < N → p b = true → ¬ cl b < 0) ∧ f_X5_weakSet (nI N) kd cl gr oc = some (mk p N) ∧ f_X7_weakNow mm = some (mk p N) := by
  have hN := h.1
  refine ⟨fun b => !decide (cl b < 0) && !decide (ldF N cl gr 6 0 ((cl b).toNatClampNeg + 8) ≤ stF (kd b) (gr b)), fun b hb q => ?_, ?_, ?_⟩
  · intro g
    have q' : (!decide (cl b < 0) && !decide (ldF N cl gr 6 0 ((cl b).toNatClampNeg + 8) ≤ stF (kd b) (gr b))) = true := q
    rw [decide_eq_true g] at q'; exact absurd q' (by simp)
  · unfold f_X5_weakSet
    refine lp_for2 (mk (fun b => !decide (cl b < 0) && !decide (ldF N cl gr 6 0 ((cl b).toNatClampNeg + 8) ≤ stF (kd b) (gr b)))) nI (some (mk (fun b => !decide (cl b < 0) && !decide (ldF N cl gr 6 0 ((cl b).toNatClampNeg + 8) ≤ stF (kd b) (gr b))) N)) N (fun rc b hb => ?_) (fun rc => ?_) (pu_fu (by omega))
    · unfold b_X5_weakSet_4
      rw [if_neg (nI_ge hb (by omega))]
      show _ = rc (if (!decide (cl b < 0) && !decide (ldF N cl gr 6 0 ((cl b).toNatClampNeg + 8) ≤ stF (kd b) (gr b))) = true then _ else _) _
      rcases (hw.2 b hb).2 with g | ⟨c, hc, g⟩
      · rw [w_loadG (by omega) g, pu_b1, w_strG (by omega) g, pu_b1, if_pos (by decide), decide_eq_true (show cl b < 0 by rw [g]; decide), nI_1]; rfl
      · have hng : ¬ cl b < 0 := by rw [g]; exact nI_pos (by omega)
        rw [w_load hN ho (by omega) hc g, pu_b1, w_str (by omega) hc g, pu_b1, decide_eq_false hng, g, nI_clamp (by omega), nI_1]
        by_cases q : ldF N cl gr 6 0 (c + 8) ≤ stF (kd b) (gr b)
        · rw [if_pos q, decide_eq_true q]; rfl
        · rw [if_neg q, decide_eq_false q]; rfl
    · unfold b_X5_weakSet_4
      rw [if_pos (nI_le (Nat.le_refl _) (by omega))]
  · unfold f_X7_weakNow
    refine lp_for2 (mk (fun b => !decide (cl b < 0) && !decide (ldF N cl gr 6 0 ((cl b).toNatClampNeg + 8) ≤ stF (kd b) (gr b)))) nI (some (mk (fun b => !decide (cl b < 0) && !decide (ldF N cl gr 6 0 ((cl b).toNatClampNeg + 8) ≤ stF (kd b) (gr b))) N)) N (fun rc b hb => ?_) (fun rc => ?_) (pu_fu (by omega))
    · unfold b_X7_weakNow_4
      rw [pu_c5, h.2.1, if_neg (nI_ge hb (by omega)), m_gone h (by omega), pu_b1, pu_ifb]
      show _ = rc (if (!decide (cl b < 0) && !decide (ldF N cl gr 6 0 ((cl b).toNatClampNeg + 8) ≤ stF (kd b) (gr b))) = true then _ else _) _
      rcases (hw.2 b hb).2 with g | ⟨c, hc, g⟩
      · rw [decide_eq_true (show cl b < 0 by rw [g]; decide), or0, nI_1]; rfl
      · have hng : ¬ cl b < 0 := by rw [g]; exact nI_pos (by omega)
        rw [m_load h (by omega) hc g, pu_b1, m_str h (by omega), pu_b1, decide_eq_false hng, g, nI_clamp (by omega), or0, nI_1]
        by_cases q : ldF N cl gr 6 0 (c + 8) ≤ stF (kd b) (gr b)
        · rw [if_pos q, decide_eq_true q]; rfl
        · rw [if_neg q, decide_eq_false q]; rfl
    · unfold b_X7_weakNow_4
      rw [pu_c5, h.2.1, if_pos (nI_le (Nat.le_refl _) (by omega))]
