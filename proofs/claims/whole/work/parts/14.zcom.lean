/-! who comes next -/
def lv (cl : Nat → Int32) : Nat → Bool := fun b => !decide (cl b < 0)
def com (N : Nat) (kd cl : Nat → Int32) (T : Nat → Bool) : Nat → Bool := fun b => lv cl b && !T b && sbC (fun c => onB N cl T (nI c)) (kd b).toNatClampNeg (cl b).toNatClampNeg
theorem bt_m1 : ∀ i, i < 32 → bt (-1) i = true := by decide +kernel
theorem bt_low : ∀ N, N < 17 → ∀ i, i < 32 → bt (((1 : Int32) <<< (nI N &&& 31)) - 1) i = decide (i < N) := by decide +kernel
theorem m_there {mm : Nat → Int32} {hour cold air rub z : Int32} {N : Nat} {kd cl gr : Nat → Int32} {lit : Int32} {ccell cpow sp : Nat → Int32} (h : MS mm hour cold air rub z N kd cl gr lit ccell cpow sp) : ∃ y, f_X7_there mm = some y ∧ MB N (lv cl) y := by
  have hN := h.hN
  unfold f_X7_there
  rw [m_goneNow h, pu_b1, pu_c5, h.h5]
  refine ⟨_, rfl, fun i hi => ?_⟩
  rw [b_and, b_xor, mk_bits _ N (by omega) i hi, bt_m1 i hi, bt_low N (by omega) i hi]
  unfold lv
  cases decide (i < N) <;> cases decide (cl i < 0) <;> rfl
theorem CB_cg {N : Nat} {cl : Nat → Int32} {T S : Nat → Bool} {x : Int64} (h : CB N cl T x) (e : ∀ b, b < N → T b = S b) : CB N cl S x := by
  intro c hc
  rw [h c hc]
  congr 1
  rw [Bool.eq_iff_iff, onB_t, onB_t]
  exact ⟨fun ⟨b, h1, h2, h3⟩ => ⟨b, h1, by rw [← e b h1]; exact h2, h3⟩, fun ⟨b, h1, h2, h3⟩ => ⟨b, h1, by rw [e b h1]; exact h2, h3⟩⟩
theorem CB_0 {N : Nat} {cl : Nat → Int32} {T : Nat → Bool} (h : ∀ b, b < N → T b = false) : CB N cl T 0 := by
  intro c hc
  rw [lb_0]
  have : onB N cl T (nI c) = false := by
    cases q : onB N cl T (nI c)
    · rfl
    · obtain ⟨b, h1, h2, -⟩ := onB_t.mp q
      rw [h b h1] at h2
      exact absurd h2 (by decide)
  rw [this, Bool.and_false]
theorem MB_0 {N : Nat} {T : Nat → Bool} (h : ∀ b, b < N → T b = false) : MB N T 0 := by
  intro b hb
  rw [b_0]
  by_cases g : b < N
  · rw [h b g, Bool.and_false]
  · rw [decide_eq_false g, Bool.false_and]
theorem lor0 (x : Int64) : x ||| 0 = x := lb_ext (fun i _ => by rw [lb_or, lb_0, Bool.or_false])
theorem w_occ {N : Nat} {kd cl oc : Nat → Int32} (hV : WV N kd cl oc) (hN : N ≤ 16) : ∃ x, f_X5_occupied (nI N) cl = some x ∧ CB N cl (lv cl) x := by
  unfold f_X5_occupied
  rw [lp_unc2]
  refine lp_relR (R := fun p => ∃ x, p = some x ∧ CB N cl (lv cl) x) (fun i q => ∃ x, q = (x, nI i) ∧ CB N cl (fun b => decide (b < i) && lv cl b) x) N ?_ ?_ _ ⟨0, rfl, CB_0 (fun b _ => by rw [decide_eq_false (by omega), Bool.false_and])⟩ _ (pu_fu (by omega))
  · rintro i q hi ⟨x, rfl, i1⟩ rd - hc
    dsimp only
    unfold b_X5_occupied_4
    rw [if_neg (nI_ge hi (by omega)), nI_1]
    rcases (hV.wi.2 i hi).2 with e | ⟨c, hc48, e⟩
    · rw [w_cellBitG (by omega) e, pu_b1, lor0]
      refine hc _ ⟨x, rfl, CB_cg i1 (fun b hb => ?_)⟩
      by_cases g : b = i
      · rw [g, decide_eq_false (by omega), decide_eq_true (by omega)]
        unfold lv
        rw [e]; rfl
      · rw [show decide (b < i) = decide (b < i + 1) by rw [decide_eq_decide]; omega]
    · rw [w_cellBit (by omega) hc48 e, pu_b1]
      refine hc _ ⟨_, rfl, CB_cg (CB_add i1 hi hc48 e) (fun b hb => ?_)⟩
      show (decide (b < i) && lv cl b || decide (b = i)) = (decide (b < i + 1) && lv cl b)
      by_cases g : b = i
      · rw [g, decide_eq_true rfl, decide_eq_true (show i < i + 1 by omega)]
        unfold lv
        rw [e, decide_eq_false (nI_pos (by omega))]
        simp
      · rw [show decide (b < i) = decide (b < i + 1) by rw [decide_eq_decide]; omega, decide_eq_false g, Bool.or_false]
  · rintro q ⟨x, rfl, i1⟩ rd
    dsimp only
    unfold b_X5_occupied_4
    rw [if_pos (nI_le (Nat.le_refl _) (by omega))]
    exact ⟨x, rfl, CB_cg i1 (fun b hb => by rw [decide_eq_true hb, Bool.true_and])⟩
section
variable {N : Nat} {kd cl oc : Nat → Int32} {T : Nat → Bool}
theorem com_G (hc : ∀ b, b < N → T b = true → ¬ cl b < 0) {b : Nat} (h : cl b < 0) : com N kd cl T b = false := by
  unfold com lv
  rw [decide_eq_true h]; rfl
theorem com_T {b : Nat} (h : T b = true) : com N kd cl T b = false := by
  unfold com
  rw [h]
  cases lv cl b <;> rfl
theorem com_L {b k c : Nat} (hk : kd b = nI k) (hk7 : k < 7) (hc : cl b = nI c) (hc48 : c < 48) (h : T b = false) : com N kd cl T b = sbC (fun c => onB N cl T (nI c)) k c := by
  unfold com lv
  rw [h, hk, hc, nI_clamp (by omega), nI_clamp (by omega), decide_eq_false (nI_pos (by omega))]
  rfl
theorem com_lv {b : Nat} (h : com N kd cl T b = true) : lv cl b = true ∧ T b = false := by
  unfold com at h
  revert h
  cases lv cl b <;> cases T b <;> simp
theorem w_comer (hV : WV N kd cl oc) (hN : N ≤ 16) {y : Int64} (hy : CB N cl T y) (gT : ∀ b, b < N → T b = true → ¬ cl b < 0) {b : Nat} (hb : b < N) : f_X5_isComer kd cl (nI b) y = some (bI (com N kd cl T b)) := by
  unfold f_X5_isComer
  obtain ⟨⟨k, hk7, hk⟩, hcl⟩ := hV.wi.2 b hb
  rcases hcl with e | ⟨c, hc, e⟩
  · rw [w_cellBitG (by omega) e, pu_b1, if_pos ((lg0 _ _).mpr (Int64.and_zero)), w_standsByG (by omega) e, pu_b1, if_pos rfl, com_G gT (by rw [e]; decide)]
    rfl
  · have hlb : lb y c = T b := by
      rw [hy c (by omega), decide_eq_true hc, Bool.true_and, Bool.eq_iff_iff, onB_t]
      constructor
      · rintro ⟨a, h1, h2, h3⟩
        have := hV.dc a b h1 hb (gT a h1 h2) (by rw [h3, e])
        rw [← this]; exact h2
      · intro h
        exact ⟨b, hb, h, e⟩
    rw [w_cellBit (by omega) hc e, pu_b1]
    cases hTb : T b
    · rw [if_pos ((lg0 _ _).mpr ((lb_and0 (by omega)).mpr (hlb.trans hTb))), w_standsBy (by omega) hk hk7 e hc (fun i h1 h2 => by rw [hy i h2, decide_eq_false (by omega), Bool.false_and]), pu_b1, com_L hk hk7 e hc hTb, sbC_congr (on' := fun c => onB N cl T (nI c)) hc (fun c' hc' => by show lb y c' = _; rw [hy c' (by omega), decide_eq_true hc', Bool.true_and])]
      cases sbC (fun c => onB N cl T (nI c)) k c <;> rfl
    · rw [if_neg (fun q => by
        have := (lb_and0 (y := y) (d := c) (by omega)).mp ((lg0 _ _).mp q)
        rw [hlb, hTb] at this
        exact absurd this (by decide)), com_T hTb]
      rfl
theorem m_hasn {y t : Int32} (hN : N ≤ 16) (hy : MB N T y) (ht : MB N (lv cl) t) {b : Nat} (hb : b < N) : f_X7_has (t &&& (y ^^^ -1)) (nI b) = some (bI (lv cl b && !T b)) := by
  rw [pu_has (by omega), b_and, b_xor, ht b (by omega), hy b (by omega), bt_m1 b (by omega), decide_eq_true hb]
  cases lv cl b <;> cases T b <;> rfl
theorem m_comer {mm gr : Nat → Int32} (h : RM mm N kd cl gr) (hV : WV N kd cl oc) {y : Int32} (hy : MB N T y) {b : Nat} (hb : b < N) (hl : (lv cl b && !T b) = true) : f_X7_standsBy mm (nI b) y = some (bI (com N kd cl T b)) := by
  obtain ⟨⟨k, hk7, hk⟩, hcl⟩ := hV.wi.2 b hb
  have h1 : lv cl b = true := by revert hl; cases lv cl b <;> simp
  have h2 : T b = false := by revert hl; cases T b <;> simp
  rcases hcl with e | ⟨c, hc, e⟩
  · unfold lv at h1
    rw [e] at h1
    exact absurd h1 (by decide)
  · rw [m_standsBy h hV.dc hy hb hk hk7 e hc, com_L hk hk7 e hc h2]
theorem com_n {b : Nat} (h : (lv cl b && !T b) = false) : com N kd cl T b = false := by
  unfold com
  rw [h]; rfl
end
def low (p : Nat → Bool) (N : Nat) : Nat → Int32
  | 0 => -1
  | d + 1 => if p (N - (d + 1)) then nI (N - (d + 1)) else low p N d
theorem low_cases (p : Nat → Bool) (N : Nat) : ∀ d, d ≤ N → (low p N d = -1 ∧ ∀ b, N - d ≤ b → b < N → p b = false) ∨ ∃ b, N - d ≤ b ∧ b < N ∧ p b = true ∧ low p N d = nI b ∧ ∀ a, N - d ≤ a → a < b → p a = false
  | 0, _ => Or.inl ⟨rfl, fun b h1 h2 => by omega⟩
  | d + 1, hd => by
    unfold low
    cases hp : p (N - (d + 1))
    · rw [if_neg (by decide)]
      rcases low_cases p N d (by omega) with ⟨h1, h2⟩ | ⟨b, h1, h2, h3, h4, h5⟩
      · refine Or.inl ⟨h1, fun b g1 g2 => ?_⟩
        by_cases e : b = N - (d + 1)
        · rw [e]; exact hp
        · exact h2 b (by omega) g2
      · refine Or.inr ⟨b, by omega, h2, h3, h4, fun a g1 g2 => ?_⟩
        by_cases e : a = N - (d + 1)
        · rw [e]; exact hp
        · exact h5 a (by omega) g2
    · rw [if_pos rfl]
      exact Or.inr ⟨N - (d + 1), by omega, by omega, hp, rfl, fun a g1 g2 => by omega⟩
theorem w_nextd {N : Nat} {kd cl oc : Nat → Int32} {T : Nat → Bool} (hV : WV N kd cl oc) (hN : N ≤ 16) {y : Int64} (hy : CB N cl T y) (gT : ∀ b, b < N → T b = true → ¬ cl b < 0) : ∀ d, d ≤ N → ∀ n, d < n → ik_lp1 (b_X5_nextComer_3 (nI N) kd cl y) n (nI (N - d)) = some (low (com N kd cl T) N d)
  | 0, _, n, hn => by
    obtain ⟨n, rfl⟩ := Nat.exists_eq_succ_of_ne_zero (show n ≠ 0 by omega)
    show b_X5_nextComer_3 (nI N) kd cl y _ (nI N) = some (-1)
    unfold b_X5_nextComer_3
    rw [if_pos (nI_le (Nat.le_refl _) (by omega))]
  | d + 1, hd, n, hn => by
    obtain ⟨n, rfl⟩ := Nat.exists_eq_succ_of_ne_zero (show n ≠ 0 by omega)
    have ih := w_nextd hV hN hy gT d (by omega) n (by omega)
    show b_X5_nextComer_3 (nI N) kd cl y _ (nI (N - (d + 1))) = some (if com N kd cl T (N - (d + 1)) then nI (N - (d + 1)) else low (com N kd cl T) N d)
    have e : ∀ rc, b_X5_nextComer_3 (nI N) kd cl y rc (nI (N - (d + 1))) = (if bI (com N kd cl T (N - (d + 1))) = 0 then rc (nI (N - d)) else some (nI (N - (d + 1)))) := by
      intro rc
      unfold b_X5_nextComer_3
      rw [if_neg (nI_ge (by omega) (by omega)), w_comer hV hN hy gT (show N - (d + 1) < N by omega), pu_b1, nI_1, show N - (d + 1) + 1 = N - d by omega]
    rw [e, ih]
    cases com N kd cl T (N - (d + 1)) <;> rfl
theorem w_next {N : Nat} {kd cl oc : Nat → Int32} {T : Nat → Bool} (hV : WV N kd cl oc) (hN : N ≤ 16) {y : Int64} (hy : CB N cl T y) (gT : ∀ b, b < N → T b = true → ¬ cl b < 0) {s : Nat} (hs : s ≤ N) : f_X5_nextComer (nI N) kd cl y (nI s) = some (low (com N kd cl T) N (N - s)) := by
  unfold f_X5_nextComer
  have := w_nextd hV hN hy gT (N - s) (by omega) ik_fu (pu_fu (by omega))
  rw [show N - (N - s) = s by omega] at this
  exact this
theorem cnt_full {T : Nat → Bool} : ∀ n, cnt T n = n → ∀ b, b < n → T b = true
  | 0, _, b, hb => absurd hb (by omega)
  | n + 1, h, b, hb => by
    have hle := cnt_le T n
    have h' : cnt T n + (if T n then 1 else 0) = n + 1 := h
    cases hT : T n
    · rw [hT] at h'
      simp at h'
      omega
    · rw [hT] at h'
      by_cases e : b = n
      · rw [e]; exact hT
      · exact cnt_full n (by simp at h'; omega) b (by omega)
theorem cnt_up (T : Nat → Bool) {a : Nat} : ∀ d, cnt T a ≤ cnt T (a + d)
  | 0 => Nat.le_refl _
  | d + 1 => Nat.le_trans (cnt_up T d) (Nat.le_add_right _ _)
theorem cnt_skip {T : Nat → Bool} {s : Nat} : ∀ d, (∀ a, s ≤ a → a < s + d → T a = false) → cnt T (s + d) = cnt T s
  | 0, _ => rfl
  | d + 1, h => by
    show cnt T (s + d) + (if T (s + d) then 1 else 0) = _
    rw [h (s + d) (by omega) (by omega), cnt_skip d (fun a g1 g2 => h a g1 (by omega))]
    rfl
theorem mk_cnt (p : Nat → Bool) {n : Nat} (hn : n ≤ 16) : cnt (fun i => bt (mk p n) i) 16 = cnt p n := by
  rw [cnt_out (fun i => bt (mk p n) i) 16 hn (fun i h1 h2 => by rw [mk_bits p n (by omega) i (by omega), decide_eq_false (by omega), Bool.false_and])]
  exact cnt_congr n (fun b hb => by rw [mk_bits p n (by omega) b (by omega), decide_eq_true hb, Bool.true_and])
def tk (p : Nat → Bool) (L : Nat) : Nat → Bool := fun b => p b && decide (cnt p b < L)
theorem cnt_tk (p : Nat → Bool) (L : Nat) : ∀ n, cnt (tk p L) n = min (cnt p n) L
  | 0 => (Nat.zero_min L).symm
  | n + 1 => by
    show cnt (tk p L) n + (if tk p L n then 1 else 0) = min (cnt p n + (if p n then 1 else 0)) L
    rw [cnt_tk p L n]
    unfold tk
    cases p n
    · rfl
    · by_cases g : cnt p n < L
      · rw [decide_eq_true g]
        simp
        omega
      · rw [decide_eq_false g]
        simp
        omega
