/-! the state of a palace, and the reference's row that tells the same -/
def MS (mm : Nat → Int32) (hour cold air rub z : Int32) (N : Nat) (kd cl gr : Nat → Int32) (lit : Int32) (ccell cpow sp : Nat → Int32) : Prop :=
  mm 0 = hour ∧ mm 1 = cold ∧ mm 2 = air ∧ mm 3 = rub ∧ mm 4 = z ∧ N ≤ 16 ∧ mm 5 = nI N ∧ (∀ b, b < 16 → mm (24 + 3 * b) = kd b) ∧ (∀ b, b < 16 → mm (25 + 3 * b) = cl b) ∧ (∀ b, b < 16 → mm (26 + 3 * b) = gr b) ∧ (∀ j, j < 6 → mm (6 + 3 * j) = ccell j) ∧ (∀ j, j < 6 → mm (7 + 3 * j) = cpow j) ∧ (∀ j, j < 6 → mm (8 + 3 * j) = bI (bt lit j)) ∧ ∀ j, j < 10 → mm (72 + j) = sp j
section
variable {mm : Nat → Int32} {hour cold air rub z : Int32} {N : Nat} {kd cl gr : Nat → Int32} {lit : Int32} {ccell cpow sp : Nat → Int32}
theorem MS.h0 (h : MS mm hour cold air rub z N kd cl gr lit ccell cpow sp) : mm 0 = hour := h.1
theorem MS.h1 (h : MS mm hour cold air rub z N kd cl gr lit ccell cpow sp) : mm 1 = cold := h.2.1
theorem MS.h2 (h : MS mm hour cold air rub z N kd cl gr lit ccell cpow sp) : mm 2 = air := h.2.2.1
theorem MS.h3 (h : MS mm hour cold air rub z N kd cl gr lit ccell cpow sp) : mm 3 = rub := h.2.2.2.1
theorem MS.h4 (h : MS mm hour cold air rub z N kd cl gr lit ccell cpow sp) : mm 4 = z := h.2.2.2.2.1
theorem MS.hN (h : MS mm hour cold air rub z N kd cl gr lit ccell cpow sp) : N ≤ 16 := h.2.2.2.2.2.1
theorem MS.h5 (h : MS mm hour cold air rub z N kd cl gr lit ccell cpow sp) : mm 5 = nI N := h.2.2.2.2.2.2.1
theorem MS.hk (h : MS mm hour cold air rub z N kd cl gr lit ccell cpow sp) : ∀ b, b < 16 → mm (24 + 3 * b) = kd b := h.2.2.2.2.2.2.2.1
theorem MS.hc (h : MS mm hour cold air rub z N kd cl gr lit ccell cpow sp) : ∀ b, b < 16 → mm (25 + 3 * b) = cl b := h.2.2.2.2.2.2.2.2.1
theorem MS.hg (h : MS mm hour cold air rub z N kd cl gr lit ccell cpow sp) : ∀ b, b < 16 → mm (26 + 3 * b) = gr b := h.2.2.2.2.2.2.2.2.2.1
theorem MS.cc (h : MS mm hour cold air rub z N kd cl gr lit ccell cpow sp) : ∀ j, j < 6 → mm (6 + 3 * j) = ccell j := h.2.2.2.2.2.2.2.2.2.2.1
theorem MS.cp (h : MS mm hour cold air rub z N kd cl gr lit ccell cpow sp) : ∀ j, j < 6 → mm (7 + 3 * j) = cpow j := h.2.2.2.2.2.2.2.2.2.2.2.1
theorem MS.cb (h : MS mm hour cold air rub z N kd cl gr lit ccell cpow sp) : ∀ j, j < 6 → mm (8 + 3 * j) = bI (bt lit j) := h.2.2.2.2.2.2.2.2.2.2.2.2.1
theorem MS.hs (h : MS mm hour cold air rub z N kd cl gr lit ccell cpow sp) : ∀ j, j < 10 → mm (72 + j) = sp j := h.2.2.2.2.2.2.2.2.2.2.2.2.2
theorem MS.rm (h : MS mm hour cold air rub z N kd cl gr lit ccell cpow sp) : RM mm N kd cl gr := ⟨h.hN, h.h5, fun b hb => ⟨h.hk b hb, h.hc b hb, h.hg b hb⟩⟩
theorem upd_ne {f : Nat → Int32} {i j : Nat} {v : Int32} (h : j ≠ i) : upd f i v j = f j := by unfold upd; rw [if_neg h]
theorem upd_eq {f : Nat → Int32} {i : Nat} {v : Int32} : upd f i v i = v := by unfold upd; rw [if_pos rfl]
theorem upd_at {f g : Nat → Int32} {i j b c : Nat} {v : Int32} (h : f j = g c) (e : j = i ↔ c = b) : upd f i v j = upd g b v c := by
  unfold upd
  by_cases q : c = b
  · rw [if_pos (e.mpr q), if_pos q]
  · rw [if_neg (fun p => q (e.mp p)), if_neg q, h]
theorem MS.u_hour (h : MS mm hour cold air rub z N kd cl gr lit ccell cpow sp) (v : Int32) : MS (upd mm 0 v) v cold air rub z N kd cl gr lit ccell cpow sp :=
  ⟨upd_eq, (upd_ne (by omega)).trans h.h1, (upd_ne (by omega)).trans h.h2, (upd_ne (by omega)).trans h.h3, (upd_ne (by omega)).trans h.h4, h.hN, (upd_ne (by omega)).trans h.h5, fun j hj => (upd_ne (by omega)).trans (h.hk j hj), fun j hj => (upd_ne (by omega)).trans (h.hc j hj), fun j hj => (upd_ne (by omega)).trans (h.hg j hj), fun j hj => (upd_ne (by omega)).trans (h.cc j hj), fun j hj => (upd_ne (by omega)).trans (h.cp j hj), fun j hj => (upd_ne (by omega)).trans (h.cb j hj), fun j hj => (upd_ne (by omega)).trans (h.hs j hj)⟩
theorem MS.u_cold (h : MS mm hour cold air rub z N kd cl gr lit ccell cpow sp) (v : Int32) : MS (upd mm 1 v) hour v air rub z N kd cl gr lit ccell cpow sp :=
  ⟨(upd_ne (by omega)).trans h.h0, upd_eq, (upd_ne (by omega)).trans h.h2, (upd_ne (by omega)).trans h.h3, (upd_ne (by omega)).trans h.h4, h.hN, (upd_ne (by omega)).trans h.h5, fun j hj => (upd_ne (by omega)).trans (h.hk j hj), fun j hj => (upd_ne (by omega)).trans (h.hc j hj), fun j hj => (upd_ne (by omega)).trans (h.hg j hj), fun j hj => (upd_ne (by omega)).trans (h.cc j hj), fun j hj => (upd_ne (by omega)).trans (h.cp j hj), fun j hj => (upd_ne (by omega)).trans (h.cb j hj), fun j hj => (upd_ne (by omega)).trans (h.hs j hj)⟩
theorem MS.u_air (h : MS mm hour cold air rub z N kd cl gr lit ccell cpow sp) (v : Int32) : MS (upd mm 2 v) hour cold v rub z N kd cl gr lit ccell cpow sp :=
  ⟨(upd_ne (by omega)).trans h.h0, (upd_ne (by omega)).trans h.h1, upd_eq, (upd_ne (by omega)).trans h.h3, (upd_ne (by omega)).trans h.h4, h.hN, (upd_ne (by omega)).trans h.h5, fun j hj => (upd_ne (by omega)).trans (h.hk j hj), fun j hj => (upd_ne (by omega)).trans (h.hc j hj), fun j hj => (upd_ne (by omega)).trans (h.hg j hj), fun j hj => (upd_ne (by omega)).trans (h.cc j hj), fun j hj => (upd_ne (by omega)).trans (h.cp j hj), fun j hj => (upd_ne (by omega)).trans (h.cb j hj), fun j hj => (upd_ne (by omega)).trans (h.hs j hj)⟩
theorem MS.u_rub (h : MS mm hour cold air rub z N kd cl gr lit ccell cpow sp) (v : Int32) : MS (upd mm 3 v) hour cold air v z N kd cl gr lit ccell cpow sp :=
  ⟨(upd_ne (by omega)).trans h.h0, (upd_ne (by omega)).trans h.h1, (upd_ne (by omega)).trans h.h2, upd_eq, (upd_ne (by omega)).trans h.h4, h.hN, (upd_ne (by omega)).trans h.h5, fun j hj => (upd_ne (by omega)).trans (h.hk j hj), fun j hj => (upd_ne (by omega)).trans (h.hc j hj), fun j hj => (upd_ne (by omega)).trans (h.hg j hj), fun j hj => (upd_ne (by omega)).trans (h.cc j hj), fun j hj => (upd_ne (by omega)).trans (h.cp j hj), fun j hj => (upd_ne (by omega)).trans (h.cb j hj), fun j hj => (upd_ne (by omega)).trans (h.hs j hj)⟩
theorem MS.u_z (h : MS mm hour cold air rub z N kd cl gr lit ccell cpow sp) (v : Int32) : MS (upd mm 4 v) hour cold air rub v N kd cl gr lit ccell cpow sp :=
  ⟨(upd_ne (by omega)).trans h.h0, (upd_ne (by omega)).trans h.h1, (upd_ne (by omega)).trans h.h2, (upd_ne (by omega)).trans h.h3, upd_eq, h.hN, (upd_ne (by omega)).trans h.h5, fun j hj => (upd_ne (by omega)).trans (h.hk j hj), fun j hj => (upd_ne (by omega)).trans (h.hc j hj), fun j hj => (upd_ne (by omega)).trans (h.hg j hj), fun j hj => (upd_ne (by omega)).trans (h.cc j hj), fun j hj => (upd_ne (by omega)).trans (h.cp j hj), fun j hj => (upd_ne (by omega)).trans (h.cb j hj), fun j hj => (upd_ne (by omega)).trans (h.hs j hj)⟩
theorem MS.u_kd (h : MS mm hour cold air rub z N kd cl gr lit ccell cpow sp) {b : Nat} (hb : b < 16) (v : Int32) : MS (upd mm (24 + 3 * b) v) hour cold air rub z N (upd kd b v) cl gr lit ccell cpow sp :=
  ⟨(upd_ne (by omega)).trans h.h0, (upd_ne (by omega)).trans h.h1, (upd_ne (by omega)).trans h.h2, (upd_ne (by omega)).trans h.h3, (upd_ne (by omega)).trans h.h4, h.hN, (upd_ne (by omega)).trans h.h5, fun j hj => upd_at (h.hk j hj) (by omega), fun j hj => (upd_ne (by omega)).trans (h.hc j hj), fun j hj => (upd_ne (by omega)).trans (h.hg j hj), fun j hj => (upd_ne (by omega)).trans (h.cc j hj), fun j hj => (upd_ne (by omega)).trans (h.cp j hj), fun j hj => (upd_ne (by omega)).trans (h.cb j hj), fun j hj => (upd_ne (by omega)).trans (h.hs j hj)⟩
theorem MS.u_cl (h : MS mm hour cold air rub z N kd cl gr lit ccell cpow sp) {b : Nat} (hb : b < 16) (v : Int32) : MS (upd mm (25 + 3 * b) v) hour cold air rub z N kd (upd cl b v) gr lit ccell cpow sp :=
  ⟨(upd_ne (by omega)).trans h.h0, (upd_ne (by omega)).trans h.h1, (upd_ne (by omega)).trans h.h2, (upd_ne (by omega)).trans h.h3, (upd_ne (by omega)).trans h.h4, h.hN, (upd_ne (by omega)).trans h.h5, fun j hj => (upd_ne (by omega)).trans (h.hk j hj), fun j hj => upd_at (h.hc j hj) (by omega), fun j hj => (upd_ne (by omega)).trans (h.hg j hj), fun j hj => (upd_ne (by omega)).trans (h.cc j hj), fun j hj => (upd_ne (by omega)).trans (h.cp j hj), fun j hj => (upd_ne (by omega)).trans (h.cb j hj), fun j hj => (upd_ne (by omega)).trans (h.hs j hj)⟩
theorem MS.u_gr (h : MS mm hour cold air rub z N kd cl gr lit ccell cpow sp) {b : Nat} (hb : b < 16) (v : Int32) : MS (upd mm (26 + 3 * b) v) hour cold air rub z N kd cl (upd gr b v) lit ccell cpow sp :=
  ⟨(upd_ne (by omega)).trans h.h0, (upd_ne (by omega)).trans h.h1, (upd_ne (by omega)).trans h.h2, (upd_ne (by omega)).trans h.h3, (upd_ne (by omega)).trans h.h4, h.hN, (upd_ne (by omega)).trans h.h5, fun j hj => (upd_ne (by omega)).trans (h.hk j hj), fun j hj => (upd_ne (by omega)).trans (h.hc j hj), fun j hj => upd_at (h.hg j hj) (by omega), fun j hj => (upd_ne (by omega)).trans (h.cc j hj), fun j hj => (upd_ne (by omega)).trans (h.cp j hj), fun j hj => (upd_ne (by omega)).trans (h.cb j hj), fun j hj => (upd_ne (by omega)).trans (h.hs j hj)⟩
theorem MS.u_cc (h : MS mm hour cold air rub z N kd cl gr lit ccell cpow sp) {b : Nat} (hb : b < 6) (v : Int32) : MS (upd mm (6 + 3 * b) v) hour cold air rub z N kd cl gr lit (upd ccell b v) cpow sp :=
  ⟨(upd_ne (by omega)).trans h.h0, (upd_ne (by omega)).trans h.h1, (upd_ne (by omega)).trans h.h2, (upd_ne (by omega)).trans h.h3, (upd_ne (by omega)).trans h.h4, h.hN, (upd_ne (by omega)).trans h.h5, fun j hj => (upd_ne (by omega)).trans (h.hk j hj), fun j hj => (upd_ne (by omega)).trans (h.hc j hj), fun j hj => (upd_ne (by omega)).trans (h.hg j hj), fun j hj => upd_at (h.cc j hj) (by omega), fun j hj => (upd_ne (by omega)).trans (h.cp j hj), fun j hj => (upd_ne (by omega)).trans (h.cb j hj), fun j hj => (upd_ne (by omega)).trans (h.hs j hj)⟩
theorem MS.u_cp (h : MS mm hour cold air rub z N kd cl gr lit ccell cpow sp) {b : Nat} (hb : b < 6) (v : Int32) : MS (upd mm (7 + 3 * b) v) hour cold air rub z N kd cl gr lit ccell (upd cpow b v) sp :=
  ⟨(upd_ne (by omega)).trans h.h0, (upd_ne (by omega)).trans h.h1, (upd_ne (by omega)).trans h.h2, (upd_ne (by omega)).trans h.h3, (upd_ne (by omega)).trans h.h4, h.hN, (upd_ne (by omega)).trans h.h5, fun j hj => (upd_ne (by omega)).trans (h.hk j hj), fun j hj => (upd_ne (by omega)).trans (h.hc j hj), fun j hj => (upd_ne (by omega)).trans (h.hg j hj), fun j hj => (upd_ne (by omega)).trans (h.cc j hj), fun j hj => upd_at (h.cp j hj) (by omega), fun j hj => (upd_ne (by omega)).trans (h.cb j hj), fun j hj => (upd_ne (by omega)).trans (h.hs j hj)⟩
theorem MS.u_sp (h : MS mm hour cold air rub z N kd cl gr lit ccell cpow sp) {b : Nat} (hb : b < 10) (v : Int32) : MS (upd mm (72 + b) v) hour cold air rub z N kd cl gr lit ccell cpow (upd sp b v) :=
  ⟨(upd_ne (by omega)).trans h.h0, (upd_ne (by omega)).trans h.h1, (upd_ne (by omega)).trans h.h2, (upd_ne (by omega)).trans h.h3, (upd_ne (by omega)).trans h.h4, h.hN, (upd_ne (by omega)).trans h.h5, fun j hj => (upd_ne (by omega)).trans (h.hk j hj), fun j hj => (upd_ne (by omega)).trans (h.hc j hj), fun j hj => (upd_ne (by omega)).trans (h.hg j hj), fun j hj => (upd_ne (by omega)).trans (h.cc j hj), fun j hj => (upd_ne (by omega)).trans (h.cp j hj), fun j hj => (upd_ne (by omega)).trans (h.cb j hj), fun j hj => upd_at (h.hs j hj) (by omega)⟩
theorem MS.u_lit (h : MS mm hour cold air rub z N kd cl gr lit ccell cpow sp) {b : Nat} (hb : b < 6) {p : Bool} {y : Int32} (hl : bt y b = p) (hr : ∀ j, j < 6 → ¬ j = b → bt y j = bt lit j) : MS (upd mm (8 + 3 * b) (bI p)) hour cold air rub z N kd cl gr y ccell cpow sp :=
  ⟨(upd_ne (by omega)).trans h.h0, (upd_ne (by omega)).trans h.h1, (upd_ne (by omega)).trans h.h2, (upd_ne (by omega)).trans h.h3, (upd_ne (by omega)).trans h.h4, h.hN, (upd_ne (by omega)).trans h.h5, fun j hj => (upd_ne (by omega)).trans (h.hk j hj), fun j hj => (upd_ne (by omega)).trans (h.hc j hj), fun j hj => (upd_ne (by omega)).trans (h.hg j hj), fun j hj => (upd_ne (by omega)).trans (h.cc j hj), fun j hj => (upd_ne (by omega)).trans (h.cp j hj), fun j hj => (Decidable.em (j = b)).elim (fun q => by subst q; rw [upd_eq, hl]) (fun q => by rw [upd_ne (by omega), h.cb j hj, hr j hj q]), fun j hj => (upd_ne (by omega)).trans (h.hs j hj)⟩
theorem MS.u_N (h : MS mm hour cold air rub z N kd cl gr lit ccell cpow sp) {n : Nat} (hn : n ≤ 16) : MS (upd mm 5 (nI n)) hour cold air rub z n kd cl gr lit ccell cpow sp :=
  ⟨(upd_ne (by omega)).trans h.h0, (upd_ne (by omega)).trans h.h1, (upd_ne (by omega)).trans h.h2, (upd_ne (by omega)).trans h.h3, (upd_ne (by omega)).trans h.h4, hn, upd_eq, fun j hj => (upd_ne (by omega)).trans (h.hk j hj), fun j hj => (upd_ne (by omega)).trans (h.hc j hj), fun j hj => (upd_ne (by omega)).trans (h.hg j hj), fun j hj => (upd_ne (by omega)).trans (h.cc j hj), fun j hj => (upd_ne (by omega)).trans (h.cp j hj), fun j hj => (upd_ne (by omega)).trans (h.cb j hj), fun j hj => (upd_ne (by omega)).trans (h.hs j hj)⟩
end
/-- the walls are what walls may be -/
def WV (N : Nat) (kd cl oc : Nat → Int32) : Prop := WI N kd cl ∧ DC N cl ∧ OC N cl oc
theorem WV.wi {N : Nat} {kd cl oc : Nat → Int32} (h : WV N kd cl oc) : WI N kd cl := h.1
theorem WV.dc {N : Nat} {kd cl oc : Nat → Int32} (h : WV N kd cl oc) : DC N cl := h.2.1
theorem WV.oc {N : Nat} {kd cl oc : Nat → Int32} (h : WV N kd cl oc) : OC N cl oc := h.2.2
theorem OC_mk {N : Nat} {cl oc : Nat → Int32} (h1 : ∀ b c, b < N → c < 48 → cl b = nI c → oc c = nI b) (h2 : ∀ c, c < 48 → (∀ b, b < N → ¬ cl b = nI c) → oc c = -1) : OC N cl oc := by
  intro c hc
  rcases bo_cases N cl (nI c) with ⟨b, q1, q2, q3⟩ | ⟨q1, q2⟩
  · rw [q3]; exact h1 b c q1 hc q2
  · rw [q1]; exact h2 c hc q2
theorem OC_1 {N : Nat} {cl oc : Nat → Int32} (ho : OC N cl oc) (hd : DC N cl) {b c : Nat} (hb : b < N) (hc : c < 48) (e : cl b = nI c) : oc c = nI b := by
  rw [ho c hc]
  rcases bo_cases N cl (nI c) with ⟨a, q1, q2, q3⟩ | ⟨q1, q2⟩
  · have := hd b a hb q1 (by rw [e]; exact nI_pos (by omega)) (by rw [e, q2])
    subst this
    exact q3
  · exact absurd e (q2 b hb)
theorem OC_2 {N : Nat} {cl oc : Nat → Int32} (ho : OC N cl oc) {c : Nat} (hc : c < 48) (h : ∀ b, b < N → ¬ cl b = nI c) : oc c = -1 := by
  rw [ho c hc]
  rcases bo_cases N cl (nI c) with ⟨a, q1, q2, q3⟩ | ⟨q1, q2⟩
  · exact absurd q2 (h a q1)
  · exact q1
theorem nI_m1 {c : Nat} (hc : c < 2 ^ 31) : ¬ (-1 : Int32) = nI c := fun q => nI_pos hc (by rw [← q]; decide)
/-- one block goes -/
theorem w_remove {N : Nat} {kd cl gr oc : Nat → Int32} (hN : N ≤ 16) (hv : WV N kd cl oc) {b : Nat} (hb : b < N) : ∃ oc', f_X5_remove cl gr oc (nI b) = some (gr b, upd cl b (-1), upd gr b 0, oc') ∧ WV N kd (upd cl b (-1)) oc' := by
  have hWI : WI N kd (upd cl b (-1)) := ⟨hv.wi.1, fun a ha => ⟨(hv.wi.2 a ha).1, by
    by_cases q : a = b
    · left; rw [q, upd_eq]
    · rw [upd_ne q]; exact (hv.wi.2 a ha).2⟩⟩
  have hDC : DC N (upd cl b (-1)) := by
    intro x y hx hy h1 h2
    by_cases qx : x = b
    · rw [qx, upd_eq] at h1; exact absurd (by decide) h1
    · rw [upd_ne qx] at h1 h2
      by_cases qy : y = b
      · rw [qy, upd_eq] at h2; rw [h2] at h1; exact absurd (by decide) h1
      · rw [upd_ne qy] at h2; exact hv.dc x y hx hy h1 h2
  unfold f_X5_remove
  simp only [pu_gdN (show b < 16 by omega) (show 16 < 2 ^ 31 by omega), nI_clamp (show b < 2 ^ 31 by omega), pu_6cell, pu_b1]
  rcases (hv.wi.2 b hb).2 with g | ⟨c, hc, g⟩
  · refine ⟨oc, ?_, hWI, hDC, ?_⟩
    · rw [g, if_pos (by decide)]
    · refine OC_mk (fun a c ha hc e => ?_) (fun c hc h => ?_)
      · by_cases q : a = b
        · rw [q] at e; exact absurd (upd_eq.symm.trans e) (nI_m1 (by omega))
        · exact OC_1 hv.oc hv.dc ha hc ((upd_ne q).symm.trans e)
      · refine OC_2 hv.oc hc (fun a ha e => ?_)
        by_cases q : a = b
        · rw [q, g] at e; exact nI_m1 (by omega) e
        · exact h a ha ((upd_ne q).trans e)
  · refine ⟨upd oc c (-1), ?_, hWI, hDC, ?_⟩
    · have hw : wn (nI c) 0 47 = true := by unfold wn; rw [nI_toInt (by omega)]; exact decide_eq_true (by omega)
      rw [g, hw, bI_t, if_neg (by decide), pu_gdN hc (by omega), nI_clamp (by omega)]
    · refine OC_mk (fun a c' ha hc' e => ?_) (fun c' hc' h => ?_)
      · by_cases q : a = b
        · rw [q] at e; exact absurd (upd_eq.symm.trans e) (nI_m1 (by omega))
        · have e' : cl a = nI c' := (upd_ne q).symm.trans e
          have : c' ≠ c := fun p => q (hv.dc a b ha hb (by rw [e']; exact nI_pos (by omega)) (by rw [e', g, p]))
          show upd oc c (-1) c' = _
          rw [upd_ne this]
          exact OC_1 hv.oc hv.dc ha hc' e'
      · show upd oc c (-1) c' = _
        by_cases p : c' = c
        · rw [p, upd_eq]
        · rw [upd_ne p]
          refine OC_2 hv.oc hc' (fun a ha e => ?_)
          by_cases q : a = b
          · rw [q, g] at e; exact p ((nI_eq (by omega) (by omega)).mp e.symm)
          · exact h a ha ((upd_ne q).trans e)
theorem cnt_congr {T S : Nat → Bool} : ∀ n, (∀ b, b < n → S b = T b) → cnt S n = cnt T n
  | 0, _ => rfl
  | n + 1, h => by
    have h1 := cnt_congr n (fun b hb => h b (by omega))
    unfold cnt
    rw [h1, h n (by omega)]
theorem cnt_dec {T S : Nat → Bool} : ∀ n b, b < n → T b = true → S b = false → (∀ a, a < n → a ≠ b → S a = T a) → cnt S n + 1 = cnt T n
  | 0, b, hb, _, _, _ => absurd hb (by omega)
  | n + 1, b, hb, h1, h2, h3 => by
    unfold cnt
    by_cases e : b = n
    · subst e
      rw [h1, h2, cnt_congr b (fun a ha => h3 a (by omega) (by omega))]; simp
    · have := cnt_dec n b (by omega) h1 h2 (fun a ha => h3 a (by omega))
      rw [h3 n (by omega) (fun q => e q.symm)]
      omega
/-- how many blocks are left -/
def live (cl : Nat → Int32) (N : Nat) : Nat := cnt (fun b => !decide (cl b < 0)) N
theorem live_le (cl : Nat → Int32) (N : Nat) : live cl N ≤ N := cnt_le _ N
theorem live_upd {cl : Nat → Int32} {N b : Nat} (hb : b < N) (h : ¬ cl b < 0) : live (upd cl b (-1)) N + 1 = live cl N := by
  unfold live
  refine cnt_dec N b hb (by rw [decide_eq_false h]; rfl) (by show (!decide (upd cl b (-1) b < 0)) = false; rw [upd_eq]; rfl) (fun a ha q => ?_)
  show (!decide (upd cl b (-1) a < 0)) = _
  rw [upd_ne q]
