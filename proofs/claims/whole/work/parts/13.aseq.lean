/-! hours on end: both sides go through the same sequence -/
theorem seq_ex {T : Type} (Inv : Nat → T → Prop) (R : Nat → T → T → Prop) (s0 : T) (h0 : Inv 0 s0) : ∀ M, (∀ i, i < M → ∀ s, Inv i s → ∃ s', R i s s' ∧ Inv (i + 1) s') → ∃ f : Nat → T, f 0 = s0 ∧ (∀ i, i ≤ M → Inv i (f i)) ∧ ∀ i, i < M → R i (f i) (f (i + 1))
  | 0, _ => ⟨fun _ => s0, rfl, fun i hi => by
      have : i = 0 := by omega
      rw [this]; exact h0, fun i hi => absurd hi (by omega)⟩
  | M + 1, step => by
    obtain ⟨f, e, h1, h2⟩ := seq_ex Inv R s0 h0 M (fun i hi => step i (by omega))
    obtain ⟨s', r, iv⟩ := step M (by omega) (f M) (h1 M (Nat.le_refl _))
    refine ⟨fun j => if j ≤ M then f j else s', ?_, fun i hi => ?_, fun i hi => ?_⟩
    · show (if 0 ≤ M then f 0 else s') = s0
      rw [if_pos (Nat.zero_le _), e]
    · show Inv i (if i ≤ M then f i else s')
      by_cases g : i ≤ M
      · rw [if_pos g]; exact h1 i g
      · rw [if_neg g]
        have : i = M + 1 := by omega
        rw [this]; exact iv
    · show R i (if i ≤ M then f i else s') (if i + 1 ≤ M then f (i + 1) else s')
      by_cases g : i + 1 ≤ M
      · rw [if_pos (by omega), if_pos g]; exact h2 i (by omega)
      · rw [if_pos (by omega), if_neg g]
        have : i = M := by omega
        rw [this]; exact r
/-- the sequence of hours -/
def HQ (M : Nat) (cold z : Int32) (N : Nat) (kd : Nat → Int32) (lit : Int32) (ccell cpow sp wm : Nat → Int32) (hr : Nat → Int32) (A : Nat → Nat) (rb : Nat → Int32) (cl gr oc dr : Nat → Nat → Int32) (v : Nat → Nat) (mm W md : Nat → Nat → Int32) : Prop :=
  (∀ i, i ≤ M → MS (mm i) (hr i) cold (nI (A i)) (rb i) z N kd (cl i) (gr i) lit ccell cpow sp ∧ WV N kd (cl i) (oc i) ∧ GS N (cl i) (gr i) ∧ A i ≤ A 0 + 15000 * i ∧ (∀ a, a < N → cl i a = cl 0 a ∨ cl i a = -1)) ∧
  (∀ i, i < M → f_X1_passHour (hr i) (nI (A i)) (rb i) (nI N) kd (cl i) (gr i) (oc i) wm (dr i) = some (nI (v i), hr (i + 1), nI (A (i + 1)), rb (i + 1), cl (i + 1), gr (i + 1), oc (i + 1), dr (i + 1)) ∧ f_X7_hour (mm i) (W i) (md i) = some (mm (i + 1), W (i + 1), md (i + 1)) ∧ v i + live (cl (i + 1)) N = live (cl i) N ∧ hr (i + 1) = hr i + 1 ∧ (∀ a, a < N → cl (i + 1) a = cl i a ∨ cl (i + 1) a = -1))
theorem hq_ex {mm0 : Nat → Int32} {hour cold rub z : Int32} {A0 N : Nat} {kd cl0 gr0 oc0 : Nat → Int32} {lit : Int32} {ccell cpow sp : Nat → Int32} (h : MS mm0 hour cold (nI A0) rub z N kd cl0 gr0 lit ccell cpow sp) (hv : WV N kd cl0 oc0) (hg : GS N cl0 gr0) (hc : CI cold ccell cpow) {M : Nat} (hA : A0 + 15000 * M < 2 ^ 29) {wm : Nat → Int32} (hwm : ∀ b, b < N → ¬ cl0 b < 0 → wm b = fv cl0 lit cold ccell cpow b) (dr0 W0 md0 : Nat → Int32) :
    ∃ (hr : Nat → Int32) (A : Nat → Nat) (rb : Nat → Int32) (cl gr oc dr : Nat → Nat → Int32) (v : Nat → Nat) (mm W md : Nat → Nat → Int32), (hr 0 = hour ∧ A 0 = A0 ∧ rb 0 = rub ∧ cl 0 = cl0 ∧ gr 0 = gr0 ∧ oc 0 = oc0 ∧ dr 0 = dr0 ∧ mm 0 = mm0 ∧ W 0 = W0 ∧ md 0 = md0) ∧ HQ M cold z N kd lit ccell cpow sp wm hr A rb cl gr oc dr v mm W md := by
  obtain ⟨f, e, h1, h2⟩ := seq_ex (T := Int32 × Nat × Int32 × (Nat → Int32) × (Nat → Int32) × (Nat → Int32) × (Nat → Int32) × Nat × (Nat → Int32) × (Nat → Int32) × (Nat → Int32))
    (fun i s => MS s.2.2.2.2.2.2.2.2.1 s.1 cold (nI s.2.1) s.2.2.1 z N kd s.2.2.2.1 s.2.2.2.2.1 lit ccell cpow sp ∧ WV N kd s.2.2.2.1 s.2.2.2.2.2.1 ∧ GS N s.2.2.2.1 s.2.2.2.2.1 ∧ s.2.1 ≤ A0 + 15000 * i ∧ (∀ a, a < N → s.2.2.2.1 a = cl0 a ∨ s.2.2.2.1 a = -1))
    (fun i s t => f_X1_passHour s.1 (nI s.2.1) s.2.2.1 (nI N) kd s.2.2.2.1 s.2.2.2.2.1 s.2.2.2.2.2.1 wm s.2.2.2.2.2.2.1 = some (nI t.2.2.2.2.2.2.2.1, t.1, nI t.2.1, t.2.2.1, t.2.2.2.1, t.2.2.2.2.1, t.2.2.2.2.2.1, t.2.2.2.2.2.2.1) ∧ f_X7_hour s.2.2.2.2.2.2.2.2.1 s.2.2.2.2.2.2.2.2.2.1 s.2.2.2.2.2.2.2.2.2.2 = some (t.2.2.2.2.2.2.2.2.1, t.2.2.2.2.2.2.2.2.2.1, t.2.2.2.2.2.2.2.2.2.2) ∧ t.2.2.2.2.2.2.2.1 + live t.2.2.2.1 N = live s.2.2.2.1 N ∧ t.1 = s.1 + 1 ∧ (∀ a, a < N → t.2.2.2.1 a = s.2.2.2.1 a ∨ t.2.2.2.1 a = -1))
    (hour, A0, rub, cl0, gr0, oc0, dr0, 0, mm0, W0, md0) ⟨h, hv, hg, Nat.le_add_right A0 (15000 * 0), fun a _ => Or.inl rfl⟩ M
    (by
      rintro i hi ⟨hr, A, rb, cl, gr, oc, dr, v, mm, W, md⟩ ⟨q1, q2, q3, q4, q5⟩
      dsimp only at q1 q2 q3 q4 q5
      obtain ⟨A', rub', cl', gr', oc', dr', v', mm', W', md', b1, b2, b3, b4, b5, b6, b7, b8⟩ := ho_both q1 q2 q3 hc (by omega) (wm := wm) (fun b hb hl => by
        rcases q5 b hb with g | g
        · rw [hwm b hb (by rw [← g]; exact hl)]
          unfold fv
          rw [g]
        · exact absurd (by rw [g]; decide) hl) dr W md
      have hA' : A' ≤ A0 + 15000 * (i + 1) := by
        rw [Nat.mul_succ, ← Nat.add_assoc]
        exact Nat.le_trans b1 (Nat.add_le_add_right q4 15000)
      have hcl' : ∀ a, a < N → cl' a = cl0 a ∨ cl' a = -1 := fun a ha => by
        rcases b6 a ha with g | g
        · rw [g]; exact q5 a ha
        · exact Or.inr g
      exact ⟨(hr + 1, A', rub', cl', gr', oc', dr', v', mm', W', md'), ⟨b7, b8, b5, rfl, b6⟩, b2, b3, b4, hA', hcl'⟩)
  refine ⟨fun i => (f i).1, fun i => (f i).2.1, fun i => (f i).2.2.1, fun i => (f i).2.2.2.1, fun i => (f i).2.2.2.2.1, fun i => (f i).2.2.2.2.2.1, fun i => (f i).2.2.2.2.2.2.1, fun i => (f (i + 1)).2.2.2.2.2.2.2.1, fun i => (f i).2.2.2.2.2.2.2.2.1, fun i => (f i).2.2.2.2.2.2.2.2.2.1, fun i => (f i).2.2.2.2.2.2.2.2.2.2, ?_, fun i hi => ?_, fun i hi => h2 i hi⟩
  · dsimp only
    rw [e]
    exact ⟨rfl, rfl, rfl, rfl, rfl, rfl, rfl, rfl, rfl, rfl⟩
  · have := h1 i hi
    dsimp only
    rw [e]
    exact this
section
variable {M : Nat} {cold z : Int32} {N : Nat} {kd : Nat → Int32} {lit : Int32} {ccell cpow sp wm : Nat → Int32} {hr : Nat → Int32} {A : Nat → Nat} {rb : Nat → Int32} {cl gr oc dr : Nat → Nat → Int32} {v : Nat → Nat} {mm W md : Nat → Nat → Int32}
theorem hq_live (h : HQ M cold z N kd lit ccell cpow sp wm hr A rb cl gr oc dr v mm W md) : ∀ i, i ≤ M → live (cl i) N ≤ live (cl 0) N
  | 0, _ => Nat.le_refl _
  | i + 1, hi => by
    have := hq_live h i (by omega)
    have := (h.2 i (by omega)).2.2.1
    omega
theorem w_hours (h : HQ M cold z N kd lit ccell cpow sp wm hr A rb cl gr oc dr v mm W md) {n : Nat} (hn : n ≤ M) (hM : M < 3000) : ik_lp9 (b_X1_passHours_8 (nI N) kd (nI n) wm) ik_fu (hr 0) (nI (A 0)) (rb 0) (cl 0) (gr 0) (oc 0) (dr 0) 0 0 = some (nI (live (cl 0) N - live (cl n) N), hr n, nI (A n), rb n, cl n, gr n, oc n, wm, dr n) := by
  have e0 : (0 : Int32) = nI (live (cl 0) N - live (cl 0) N) := by rw [Nat.sub_self, nI_0]
  have := lp_for9 (f := b_X1_passHours_8 (nI N) kd (nI n) wm) hr (fun i => nI (A i)) rb cl gr oc dr (fun i => nI (live (cl 0) N - live (cl i) N)) nI (some (nI (live (cl 0) N - live (cl n) N), hr n, nI (A n), rb n, cl n, gr n, oc n, wm, dr n)) n (fun rc i hi => ?_) (fun rc => ?_) (pu_fu (show n < 4000 by omega))
  · have e := this
    rw [← e0, nI_0] at e
    exact e
  · unfold b_X1_passHours_8
    have hs := h.2 i (by omega)
    have hl := hq_live h (i + 1) (by omega)
    have hl2 := hq_live h i (by omega)
    rw [if_neg (nI_ge hi (by omega)), hs.1, pu_b8, nI_add, nI_1]
    have : live (cl 0) N - live (cl i) N + v i = live (cl 0) N - live (cl (i + 1)) N := by
      have := hs.2.2.1
      omega
    rw [this]
  · unfold b_X1_passHours_8
    rw [if_pos (nI_le (Nat.le_refl _) (by omega))]
end
