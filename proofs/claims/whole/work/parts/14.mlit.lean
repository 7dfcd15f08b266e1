/-! a mask of lights laid on the row -/
def lt (mm : Nat → Int32) (x : Int32) : Nat → Nat → Int32
  | 0 => mm
  | j + 1 => upd (lt mm x j) (8 + 3 * j) (bI (bt x j))
theorem lt_ne {mm : Nat → Int32} {x : Int32} {i : Nat} : ∀ n, (∀ j, j < n → i ≠ 8 + 3 * j) → lt mm x n i = mm i
  | 0, _ => rfl
  | n + 1, h => by
    unfold lt
    rw [upd_ne (h n (by omega))]
    exact lt_ne n (fun j hj => h j (by omega))
theorem lt_at {mm : Nat → Int32} {x : Int32} : ∀ n j, j < n → lt mm x n (8 + 3 * j) = bI (bt x j)
  | 0, j, h => absurd h (by omega)
  | n + 1, j, h => by
    unfold lt
    by_cases e : j = n
    · rw [e, upd_eq]
    · rw [upd_ne (by omega)]; exact lt_at n j (by omega)
theorem m_lights {mm : Nat → Int32} {hour cold air rub z : Int32} {N : Nat} {kd cl gr : Nat → Int32} {lit : Int32} {ccell cpow sp : Nat → Int32} (h : MS mm hour cold air rub z N kd cl gr lit ccell cpow sp) (x : Int32) : f_X7_lights mm x = some (lt mm x 6) ∧ MS (lt mm x 6) hour cold air rub z N kd cl gr x ccell cpow sp := by
  constructor
  · unfold f_X7_lights
    refine lp_for2 (lt mm x) nI (some (lt mm x 6)) 6 (fun rc j hj => ?_) (fun rc => ?_) (pu_fu (by omega))
    · unfold b_X7_lights_2
      rw [if_neg (show ¬ (6 : Int32) ≤ nI j from nI_ge (b := 6) hj (by omega)), pu_y2, pu_gdN (show 8 + 3 * j < 82 by omega) (by omega), nI_clamp (by omega), bt_sr (by omega), nI_1]
      rfl
    · unfold b_X7_lights_2
      rw [if_pos (show (6 : Int32) ≤ nI 6 from nI_le (a := 6) (by omega) (by omega))]
  · exact ⟨(lt_ne 6 (fun j _ => by omega)).trans h.h0, (lt_ne 6 (fun j _ => by omega)).trans h.h1, (lt_ne 6 (fun j _ => by omega)).trans h.h2, (lt_ne 6 (fun j _ => by omega)).trans h.h3, (lt_ne 6 (fun j _ => by omega)).trans h.h4, h.hN, (lt_ne 6 (fun j _ => by omega)).trans h.h5, fun b hb => (lt_ne 6 (fun j _ => by omega)).trans (h.hk b hb), fun b hb => (lt_ne 6 (fun j _ => by omega)).trans (h.hc b hb), fun b hb => (lt_ne 6 (fun j _ => by omega)).trans (h.hg b hb), fun b hb => (lt_ne 6 (fun j _ => by omega)).trans (h.cc b hb), fun b hb => (lt_ne 6 (fun j _ => by omega)).trans (h.cp b hb), fun j hj => lt_at 6 j hj, fun b hb => (lt_ne 6 (fun j _ => by omega)).trans (h.hs b hb)⟩
theorem lf_nat {lit cold : Int32} {ccell cpow : Nat → Int32} (hc : CI cold ccell cpow) : ∀ n, n ≤ 6 → ∃ a, a ≤ 30 * n ∧ lf lit cpow n = nI a
  | 0, _ => ⟨0, by omega, nI_0.symm⟩
  | n + 1, hn => by
    obtain ⟨a, h1, h2⟩ := lf_nat (lit := lit) hc n (by omega)
    obtain ⟨-, q, hq, e⟩ := hc.2 n (by omega)
    unfold lf
    rw [h2, e, nI_add]
    cases bt lit n
    · exact ⟨a, by omega, rfl⟩
    · exact ⟨a + q, by omega, rfl⟩
