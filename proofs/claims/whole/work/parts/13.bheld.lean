/-! rows laid over each other; what is gone; how many; how long it holds -/
theorem m_row (a b : Nat → Int32) : f_X7_row a b = some (fw a b 82) := by
  unfold f_X7_row
  refine lp_for2 (fw a b) nI (some (fw a b 82)) 82 (fun rc j hj => ?_) (fun rc => ?_) (pu_fu (by omega))
  · unfold b_X7_row_2
    rw [if_neg (show ¬ (82 : Int32) ≤ nI j from nI_ge (b := 82) hj (by omega)), pu_gdN hj (by omega), pu_gdN hj (by omega), nI_clamp (by omega), nI_1]
    rfl
  · unfold b_X7_row_2
    rw [if_pos (show (82 : Int32) ≤ nI 82 from nI_le (a := 82) (by omega) (by omega))]
theorem MS.cg {mm mm' : Nat → Int32} {hour cold air rub z : Int32} {N : Nat} {kd cl gr kd' cl' gr' : Nat → Int32} {lit : Int32} {ccell cpow sp ccell' cpow' sp' : Nat → Int32} (h : MS mm hour cold air rub z N kd cl gr lit ccell cpow sp) (hm : ∀ i, i < 82 → mm' i = mm i) (h1 : ∀ b, b < 16 → kd' b = kd b) (h2 : ∀ b, b < 16 → cl' b = cl b) (h3 : ∀ b, b < 16 → gr' b = gr b) (h4 : ∀ b, b < 6 → ccell' b = ccell b) (h5 : ∀ b, b < 6 → cpow' b = cpow b) (h6 : ∀ b, b < 10 → sp' b = sp b) : MS mm' hour cold air rub z N kd' cl' gr' lit ccell' cpow' sp' :=
  ⟨(hm 0 (by omega)).trans h.h0, (hm 1 (by omega)).trans h.h1, (hm 2 (by omega)).trans h.h2, (hm 3 (by omega)).trans h.h3, (hm 4 (by omega)).trans h.h4, h.hN, (hm 5 (by omega)).trans h.h5, fun b hb => ((hm _ (by omega)).trans (h.hk b hb)).trans (h1 b hb).symm, fun b hb => ((hm _ (by omega)).trans (h.hc b hb)).trans (h2 b hb).symm, fun b hb => ((hm _ (by omega)).trans (h.hg b hb)).trans (h3 b hb).symm, fun b hb => ((hm _ (by omega)).trans (h.cc b hb)).trans (h4 b hb).symm, fun b hb => ((hm _ (by omega)).trans (h.cp b hb)).trans (h5 b hb).symm, fun b hb => (hm _ (by omega)).trans (h.cb b hb), fun b hb => ((hm _ (by omega)).trans (h.hs b hb)).trans (h6 b hb).symm⟩
theorem MS.fw {mm m : Nat → Int32} {hour cold air rub z : Int32} {N : Nat} {kd cl gr : Nat → Int32} {lit : Int32} {ccell cpow sp : Nat → Int32} (h : MS mm hour cold air rub z N kd cl gr lit ccell cpow sp) : MS (fw mm m 82) hour cold air rub z N kd cl gr lit ccell cpow sp :=
  h.cg (fun i hi => fw_at 82 i hi) (fun _ _ => rfl) (fun _ _ => rfl) (fun _ _ => rfl) (fun _ _ => rfl) (fun _ _ => rfl) (fun _ _ => rfl)
theorem m_goneNow {mm : Nat → Int32} {hour cold air rub z : Int32} {N : Nat} {kd cl gr : Nat → Int32} {lit : Int32} {ccell cpow sp : Nat → Int32} (h : MS mm hour cold air rub z N kd cl gr lit ccell cpow sp) : f_X7_goneNow mm = some (mk (fun b => decide (cl b < 0)) N) := by
  have hN := h.hN
  unfold f_X7_goneNow
  refine lp_for2 (mk (fun b => decide (cl b < 0))) nI (some (mk (fun b => decide (cl b < 0)) N)) N (fun rc b hb => ?_) (fun rc => ?_) (pu_fu (by omega))
  · unfold b_X7_goneNow_4
    rw [pu_c5, h.h5, if_neg (nI_ge hb (by omega)), m_gone h.rm (by omega), pu_b1, pu_ifb, or0, nI_1]
    show _ = rc (if decide (cl b < 0) = true then _ else _) _
    cases decide (cl b < 0) <;> rfl
  · unfold b_X7_goneNow_4
    rw [pu_c5, h.h5, if_pos (nI_le (Nat.le_refl _) (by omega))]
theorem mk_eq {p q : Nat → Bool} {N : Nat} (hN : N ≤ 16) : mk p N = mk q N ↔ ∀ b, b < N → p b = q b := by
  constructor
  · intro h b hb
    have h1 := mk_bits p N (by omega) b (by omega)
    have h2 := mk_bits q N (by omega) b (by omega)
    rw [h, h2, decide_eq_true hb, Bool.true_and, Bool.true_and] at h1
    exact h1.symm
  · intro h
    refine b_ext (fun i hi => ?_)
    rw [mk_bits p N (by omega) i hi, mk_bits q N (by omega) i hi]
    by_cases g : i < N
    · rw [h i g]
    · rw [decide_eq_false g, Bool.false_and, Bool.false_and]
/-- how many bits of the first sixteen -/
theorem m_many (x : Int32) : f_X7_many x = some (nI (cnt (fun i => bt x i) 16)) := by
  unfold f_X7_many
  refine lp_for2 (fun i => nI (cnt (fun i => bt x i) i)) nI (some (nI (cnt (fun i => bt x i) 16))) 16 (fun rc i hi => ?_) (fun rc => ?_) (pu_fu (by omega))
  · unfold b_X7_many_4
    rw [if_neg (show ¬ (16 : Int32) ≤ nI i from nI_ge (b := 16) hi (by omega)), bt_sr (by omega), nI_1]
    show _ = rc (nI (cnt (fun i => bt x i) i + (if bt x i then 1 else 0))) _
    cases bt x i
    · rw [bI_f, Int32.add_zero]; rfl
    · rw [bI_t, nI_1]; rfl
  · unfold b_X7_many_4
    rw [if_pos (show (16 : Int32) ≤ nI 16 from nI_le (a := 16) (by omega) (by omega))]
theorem cnt_out (T : Nat → Bool) {N : Nat} : ∀ n, N ≤ n → (∀ i, N ≤ i → i < n → T i = false) → cnt T n = cnt T N
  | 0, h, _ => by
    have : N = 0 := by omega
    rw [this]
  | n + 1, h, hT => by
    by_cases e : N = n + 1
    · rw [e]
    · have h1 := cnt_out T n (by omega) (fun i h1 h2 => hT i h1 (by omega))
      have h2 := hT n (by omega) (by omega)
      rw [← h1]
      show cnt T n + (if T n then 1 else 0) = _
      rw [h2]; rfl
theorem cnt_sum {S T : Nat → Bool} : ∀ n, (∀ i, i < n → S i = true → T i = true) → cnt (fun i => T i && !S i) n + cnt S n = cnt T n
  | 0, _ => rfl
  | n + 1, h => by
    have h1 := cnt_sum n (fun i hi => h i (by omega))
    have h2 := h n (by omega)
    show cnt (fun i => T i && !S i) n + (if (T n && !S n) = true then 1 else 0) + (cnt S n + (if S n = true then 1 else 0)) = cnt T n + (if T n = true then 1 else 0)
    cases hS : S n
    · cases hT : T n <;> simp <;> omega
    · rw [h2 hS]; simp; omega
/-- how many went: the reference's way -/
theorem m_went {cl cl' : Nat → Int32} {N : Nat} (hN : N ≤ 16) (h : ∀ a, a < N → cl' a = cl a ∨ cl' a = -1) : f_X7_many (mk (fun b => decide (cl' b < 0)) N &&& (mk (fun b => decide (cl b < 0)) N ^^^ (-1))) = some (nI (live cl N - live cl' N)) := by
  rw [m_many]
  congr 2
  have e : cnt (fun i => bt (mk (fun b => decide (cl' b < 0)) N &&& (mk (fun b => decide (cl b < 0)) N ^^^ (-1))) i) 16 = cnt (fun i => decide (i < N) && (!decide (cl i < 0) && !(!decide (cl' i < 0)))) 16 := by
    refine cnt_congr 16 (fun i hi => ?_)
    rw [b_and, b_xor, mk_bits _ N (by omega) i (by omega), mk_bits _ N (by omega) i (by omega), b_m1 i (by omega)]
    cases decide (i < N) <;> cases decide (cl i < 0) <;> cases decide (cl' i < 0) <;> rfl
  rw [e, cnt_out _ (N := N) 16 hN (fun i h1 _ => by rw [decide_eq_false (by omega)]; rfl)]
  have e2 : cnt (fun i => decide (i < N) && (!decide (cl i < 0) && !(!decide (cl' i < 0)))) N = cnt (fun i => (!decide (cl i < 0)) && !(!decide (cl' i < 0))) N := cnt_congr N (fun i hi => by rw [decide_eq_true hi, Bool.true_and])
  rw [e2]
  have h3 := cnt_sum (S := fun i => !decide (cl' i < 0)) (T := fun i => !decide (cl i < 0)) N (fun i hi hs => by
    rcases h i hi with g | g
    · rw [← g]; exact hs
    · rw [g] at hs; exact absurd hs (by decide))
  unfold live
  omega
section
variable {M : Nat} {cold z : Int32} {N : Nat} {kd : Nat → Int32} {lit : Int32} {ccell cpow sp wm : Nat → Int32} {hr : Nat → Int32} {A : Nat → Nat} {rb : Nat → Int32} {cl gr oc dr : Nat → Nat → Int32} {v : Nat → Nat} {mm W md : Nat → Nat → Int32}
theorem hq_same (h : HQ M cold z N kd lit ccell cpow sp wm hr A rb cl gr oc dr v mm W md) {i : Nat} (hi : i ≤ M) : live (cl i) N = live (cl 0) N ↔ mk (fun b => decide (cl i b < 0)) N = mk (fun b => decide (cl 0 b < 0)) N := by
  have hN := (h.1 0 (Nat.zero_le _)).1.hN
  rw [mk_eq hN]
  constructor
  · intro e b hb
    rcases (h.1 i hi).2.2.2.2 b hb with g | g
    · rw [g]
    · apply Classical.byContradiction
      intro hne
      have hl : live (cl i) N < live (cl 0) N := by
        unfold live
        refine cnt_lt N (fun a ha ht => ?_) ⟨b, hb, ?_, ?_⟩
        · rcases (h.1 i hi).2.2.2.2 a ha with q | q
          · rw [← q]; exact ht
          · rw [q] at ht; exact absurd ht (by decide)
        · rw [g] at hne
          cases hd : decide (cl 0 b < 0)
          · rfl
          · rw [hd] at hne; exact absurd (by decide) hne
        · rw [g]; rfl
      omega
  · intro e
    unfold live
    exact cnt_congr N (fun b hb => by rw [e b hb])
/-- the first hour in which something goes -/
def fst (v : Nat → Nat) (n : Nat) : Nat := lst (fun i => decide (0 < v i)) n 0
theorem fst_le (v : Nat → Nat) (n : Nat) : fst v n ≤ n := by have := (lst_le (fun i => decide (0 < v i)) n 0).2; unfold fst; omega
theorem fst_hit {v : Nat → Nat} {n : Nat} (h : fst v n < n) : 0 < v (fst v n) := of_decide_eq_true (lst_hit (fun i => decide (0 < v i)) n 0 (by unfold fst at h; omega))
theorem fst_miss {v : Nat → Nat} {n i : Nat} (h : i < fst v n) : v i = 0 := by
  have := of_decide_eq_false (lst_miss (fun i => decide (0 < v i)) n 0 i (Nat.zero_le _) h)
  omega
theorem hq_still (h : HQ M cold z N kd lit ccell cpow sp wm hr A rb cl gr oc dr v mm W md) {n : Nat} (hn : n ≤ M) : ∀ i, i ≤ fst v n → live (cl i) N = live (cl 0) N
  | 0, _ => rfl
  | i + 1, hi => by
    have h1 := hq_still h hn i (by omega)
    have h2 := (h.2 i (by have := fst_le v n; omega)).2.2.1
    have h3 := fst_miss (v := v) (n := n) (i := i) (by omega)
    omega
theorem w_held (h : HQ M cold z N kd lit ccell cpow sp wm hr A rb cl gr oc dr v mm W md) {n : Nat} (hn : n ≤ M) (hM : M < 3000) : ∃ (hr' air' rb' : Int32) (cl' gr' oc' dr' : Nat → Int32), ik_lp8 (b_X1_hoursHeld_6 (nI N) kd (nI n) wm) ik_fu (hr 0) (nI (A 0)) (rb 0) (cl 0) (gr 0) (oc 0) (dr 0) 0 = some (nI (fst v n), hr', air', rb', cl', gr', oc', wm, dr') := by
  have hk := fst_le v n
  have hvN : ∀ i, i < M → v i ≤ 16 := fun i hi => by
    have h1 := (h.2 i hi).2.2.1
    have h2 := live_le (cl i) N
    have h3 := (h.1 0 (Nat.zero_le _)).1.hN
    omega
  by_cases g : fst v n = n
  · refine ⟨hr n, nI (A n), rb n, cl n, gr n, oc n, dr n, ?_⟩
    refine lp_for8 (f := b_X1_hoursHeld_6 (nI N) kd (nI n) wm) hr (fun i => nI (A i)) rb cl gr oc dr nI _ n (fun rc i hi => ?_) (fun rc => ?_) (pu_fu (by omega))
    · unfold b_X1_hoursHeld_6
      rw [if_neg (nI_ge hi (by omega)), (h.2 i (by omega)).1, pu_b8, fst_miss (v := v) (n := n) (i := i) (by omega), if_pos (by decide), nI_1]
    · unfold b_X1_hoursHeld_6
      rw [if_pos (nI_le (Nat.le_refl _) (by omega)), g]
  · have hp := fst_hit (v := v) (n := n) (by omega)
    have h16 := hvN (fst v n) (by omega)
    refine ⟨hr (fst v n + 1), nI (A (fst v n + 1)), rb (fst v n + 1), cl (fst v n + 1), gr (fst v n + 1), oc (fst v n + 1), dr (fst v n + 1), ?_⟩
    refine lp_for8 (f := b_X1_hoursHeld_6 (nI N) kd (nI n) wm) hr (fun i => nI (A i)) rb cl gr oc dr nI _ (fst v n) (fun rc i hi => ?_) (fun rc => ?_) (pu_fu (by omega))
    · unfold b_X1_hoursHeld_6
      rw [if_neg (nI_ge (show i < n by omega) (by omega)), (h.2 i (by omega)).1, pu_b8, fst_miss (v := v) (n := n) (i := i) (by omega), if_pos (by decide), nI_1]
    · unfold b_X1_hoursHeld_6
      rw [if_neg (nI_ge (show fst v n < n by omega) (by omega)), (h.2 (fst v n) (by omega)).1, pu_b8, if_neg (nI_nle hp (by omega))]
end
