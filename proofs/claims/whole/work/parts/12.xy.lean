/-! drips freeze; what has melted goes -/
theorem m8_neg : ∀ x, x < 8 → nI x + (-8) < 0 := by decide +kernel
section
variable {mm : Nat → Int32} {hour cold rub z : Int32} {A N : Nat} {kd cl gr oc : Nat → Int32} {lit : Int32} {ccell cpow sp : Nat → Int32}
theorem fz_w (hN : N ≤ 16) (ho : OC N cl oc) {x D : Nat} (hx : x < 8) {wm W : Nat → Int32} (hw : ∀ b, b < N → ¬ cl b < 0 → wm b = W b) : ∀ d, d ≤ 6 → ∀ n, d < n → ik_lp3 (b_X1_freezeDrip_9 (nI A) oc wm) n gr (nI D) (nI (x + 8 * (6 - d))) = (if fb N cl W x d < 0 then some (nI A + nI D, gr) else ik_b2 (f_X5_thicken gr (fb N cl W x d) (nI D)) (fun r1 g2 => some (nI A + (nI D - r1), g2))) := by
  intro d
  induction d with
  | zero =>
    intro _ n hn
    obtain ⟨n, rfl⟩ := Nat.exists_eq_succ_of_ne_zero (show n ≠ 0 by omega)
    show b_X1_freezeDrip_9 (nI A) oc wm (ik_lp3 (b_X1_freezeDrip_9 (nI A) oc wm) n) gr (nI D) (nI (x + 8 * (6 - 0))) = _
    unfold b_X1_freezeDrip_9
    rw [if_pos (show (48 : Int32) ≤ nI (x + 8 * (6 - 0)) from nI_le (a := 48) (by omega) (by omega)), if_pos (show fb N cl W x 0 < 0 from (by decide : (-1 : Int32) < 0))]
  | succ d ih =>
    intro hd n hn
    obtain ⟨n, rfl⟩ := Nat.exists_eq_succ_of_ne_zero (show n ≠ 0 by omega)
    have ec : x + 8 * (6 - (d + 1)) = x + 8 * (5 - d) := by omega
    have e8 : nI (x + 8 * (5 - d)) + 8 = nI (x + 8 * (6 - d)) := by
      have : x + 8 * (6 - d) = x + 8 * (5 - d) + 8 := by omega
      rw [this]; exact nI_add (x + 8 * (5 - d)) 8
    have hc : x + 8 * (5 - d) < 48 := by omega
    rw [ec]
    show b_X1_freezeDrip_9 (nI A) oc wm (ik_lp3 (b_X1_freezeDrip_9 (nI A) oc wm) n) gr (nI D) (nI (x + 8 * (5 - d))) = _
    unfold b_X1_freezeDrip_9
    rw [if_neg (show ¬ (48 : Int32) ≤ nI (x + 8 * (5 - d)) from nI_ge (b := 48) hc (by omega)), pu_gdN hc (by omega), nI_clamp (by omega), ho _ hc, e8]
    have ih' := ih (by omega) n (by omega)
    unfold fb
    rcases bo_cases N cl (nI (x + 8 * (5 - d))) with ⟨b, q1, q2, q3⟩ | ⟨q1, q2⟩
    · rw [q3]
      simp only [if_neg (nI_pos (show b < 2 ^ 31 by omega)), pu_gdN (show b < 16 by omega) (show 16 < 2 ^ 31 by omega), nI_clamp (show b < 2 ^ 31 by omega)]
      rw [hw b q1 (by rw [q2]; exact nI_pos (by omega))]
      by_cases g : 0 ≤ W b
      · rw [if_pos g, if_pos g]; exact ih'
      · rw [if_neg g, if_neg g, if_neg (nI_pos (by omega))]
    · rw [q1]
      simp only [if_pos (show (-1 : Int32) < 0 by decide)]
      exact ih'
theorem fr_both (h : MS mm hour cold (nI A) rub z N kd cl gr lit ccell cpow sp) (ho : OC N cl oc) (hg : GZ N cl gr) {x D : Nat} (hx : x < 8) (hD : D < 2 ^ 20) (hA : A < 2 ^ 30) {wm W dr md : Nat → Int32} (hw : ∀ b, b < N → ¬ cl b < 0 → wm b = W b) (e1 : dr x = nI D) (e2 : md x = nI D) :
    ∃ (A' : Nat) (gr' mm' : Nat → Int32), A' ≤ A + D ∧ GZ N cl gr' ∧ f_X1_freezeDrip (nI A) gr oc wm dr (nI x) = some (nI A', gr') ∧ f_X7_freezes mm W md (nI x) = some mm' ∧ MS mm' hour cold (nI A') rub z N kd cl gr' lit ccell cpow sp := by
  have hN := h.hN
  have c1 : f_X1_freezeDrip (nI A) gr oc wm dr (nI x) = (if fb N cl W x 6 < 0 then some (nI A + nI D, gr) else ik_b2 (f_X5_thicken gr (fb N cl W x 6) (nI D)) (fun r1 g2 => some (nI A + (nI D - r1), g2))) := by
    unfold f_X1_freezeDrip
    rw [pu_gdN hx (by omega), nI_clamp (by omega), e1]
    have := fz_w (A := A) (gr := gr) (D := D) hN ho hx hw 6 (by omega) ik_fu (pu_fu (by omega))
    exact this
  have c2 : f_X7_freezes mm W md (nI x) = (if fb N cl W x 6 < 0 then some (upd mm 2 (mm 2 + md x)) else ik_b1 (f_X7_grains mm (fb N cl W x 6)) (fun r1 => if ((99 : Int32) - r1) ≤ md x then ik_b1 (f_X7_grains mm (fb N cl W x 6)) (fun r2 => ik_b1 (f_X7_makes mm (fb N cl W x 6) (r2 + ((99 : Int32) - r1))) (fun g3 => some (upd g3 2 (g3 2 + (md x - ((99 : Int32) - r1)))))) else ik_b1 (f_X7_grains mm (fb N cl W x 6)) (fun r2 => ik_b1 (f_X7_makes mm (fb N cl W x 6) (r2 + md x)) (fun g3 => some (upd g3 2 (g3 2 + (md x - md x))))))) := by
    unfold f_X7_freezes
    have e0 : (40 : Int32) + nI x = (fun d => if d < 6 then nI (40 + x - 8 * d) else nI x + (-8)) 0 := nI_add 40 x
    rw [e0]
    refine lp_for2 (fb N cl W x) (fun d => if d < 6 then nI (40 + x - 8 * d) else nI x + (-8)) _ 6 (fun rc d hd => ?_) (fun rc => ?_) (pu_fu (by omega))
    · have ec : 40 + x - 8 * d = x + 8 * (5 - d) := by omega
      have en : nI (x + 8 * (5 - d)) + (-8) = (if d + 1 < 6 then nI (40 + x - 8 * (d + 1)) else nI x + (-8)) := by
        by_cases g : d + 1 < 6
        · rw [if_pos g, ← Int32.sub_eq_add_neg]
          have : 40 + x - 8 * (d + 1) = x + 8 * (5 - d) - 8 := by omega
          rw [this]
          exact pk_sub (b := 8) (by omega)
        · rw [if_neg g]
          have : x + 8 * (5 - d) = x := by omega
          rw [this]
      rw [if_pos hd, ec]
      unfold b_X7_freezes_7
      rw [if_neg (nI_pos (by omega)), m_bon h.rm (nI_pos (by omega)), pu_b1, en]
      show _ = rc (if bo N cl (nI (x + 8 * (5 - d))) < 0 then fb N cl W x d else if 0 ≤ W (bo N cl (nI (x + 8 * (5 - d)))).toNatClampNeg then fb N cl W x d else bo N cl (nI (x + 8 * (5 - d)))) _
      rcases bo_cases N cl (nI (x + 8 * (5 - d))) with ⟨b, q1, q2, q3⟩ | ⟨q1, q2⟩
      · rw [q3]
        simp only [if_neg (nI_pos (show b < 2 ^ 31 by omega)), pu_gdN (show b < 16 by omega) (show 16 < 2 ^ 31 by omega), nI_clamp (show b < 2 ^ 31 by omega)]
        by_cases g : 0 ≤ W b
        · rw [if_pos g, if_pos g]
        · rw [if_neg g, if_neg g]
      · rw [q1]
        simp only [if_pos (show (-1 : Int32) < 0 by decide)]
    · unfold b_X7_freezes_7
      rw [if_neg (show ¬ 6 < 6 by omega), if_pos (m8_neg x hx), pu_gdN hx (by omega), nI_clamp (by omega), pu_c2]
  rcases fb_is hN (cl := cl) (W := W) hx 6 (by omega) with q | ⟨b, hb, hl, q⟩
  · rw [q, if_pos (by decide)] at c1 c2
    rw [nI_add] at c1
    rw [h.h2, e2, nI_add] at c2
    exact ⟨A + D, gr, _, by omega, hg, c1, c2, h.u_air _⟩
  · obtain ⟨G, hG, eg, -⟩ := hg b hb
    have e99 : (99 : Int32) - nI G = nI (99 - G) := pk_sub (a := 99) (by omega)
    have hb16 : b < 16 := by omega
    obtain ⟨t, ht⟩ : ∃ t, t = min D (99 - G) := ⟨_, rfl⟩
    rw [q, if_neg (nI_pos (by omega))] at c1 c2
    unfold f_X5_thicken at c1
    simp only [pu_gdN hb16 (show 16 < 2 ^ 31 by omega), nI_clamp (show b < 2 ^ 31 by omega), eg, e99, ik_minN (show D < 2 ^ 31 by omega) (show 99 - G < 2 ^ 31 by omega), pu_b2] at c1
    rw [← ht, nI_add, pk_sub (by omega), nI_add] at c1
    simp only [m_grains h.rm hb16, pu_b1, eg, e99, m_makes hb16, e2] at c2
    have c3 : f_X7_freezes mm W md (nI x) = some (upd (upd mm (26 + 3 * b) (nI (G + t))) 2 (nI (A + (D - t)))) := by
      rw [c2]
      by_cases g : 99 - G ≤ D
      · rw [if_pos (nI_le g (by omega)), upd_ne (by omega), h.h2, nI_add, pk_sub g, nI_add, ht, Nat.min_eq_right g]
      · have e3 : nI D - nI D = nI (D - D) := pk_sub (Nat.le_refl _)
        rw [if_neg (nI_ge (by omega) (by omega)), upd_ne (by omega), h.h2, nI_add, e3, nI_add, ht, Nat.min_eq_left (by omega)]
    refine ⟨A + (D - t), upd gr b (nI (G + t)), _, by omega, fun a ha => ?_, c1, c3, (h.u_gr hb16 (nI (G + t))).u_air _⟩
    by_cases g : a = b
    · subst g
      exact ⟨G + t, by omega, upd_eq, fun p => absurd p hl⟩
    · rw [upd_ne g]; exact hg a ha
/-- grains: none where, and only where, a block is gone -/
def GS (N : Nat) (cl gr : Nat → Int32) : Prop := ∀ a, a < N → ∃ g, g ≤ 99 ∧ gr a = nI g ∧ (cl a < 0 ↔ g = 0)
theorem GS.gz {N : Nat} {cl gr : Nat → Int32} (h : GS N cl gr) : GZ N cl gr := fun a ha => by
  obtain ⟨g, h1, h2, h3⟩ := h a ha
  exact ⟨g, h1, h2, h3.mp⟩
/-- what has melted goes -/
theorem eg_both {air : Int32} (h : MS mm hour cold air rub z N kd cl gr lit ccell cpow sp) (hv : WV N kd cl oc) (hg : GZ N cl gr) :
    ∃ (cl' gr' oc' : Nat → Int32) (v' : Nat) (mm' : Nat → Int32), MS mm' hour cold air rub z N kd cl' gr' lit ccell cpow sp ∧ WV N kd cl' oc' ∧ v' + live cl' N = live cl N ∧ GS N cl' gr' ∧ (∀ a, a < N → cl' a = cl a ∨ cl' a = -1) ∧ f_X1_removeMelted (nI N) cl gr oc = some (nI v', cl', gr', oc') ∧ f_X7_emptyGo mm = some mm' := by
  have hN := h.hN
  obtain ⟨q, ⟨m, j⟩, ⟨cl', gr', oc', v', rfl, -, i1, i2, i3, i4, i5⟩, e1, e2⟩ := lp_sim
    (P := Unit) (Q := Unit)
    (α := (Nat → Int32) × (Nat → Int32) × (Nat → Int32) × Int32 × Int32) (β := (Nat → Int32) × Int32)
    (fun _ rc q => b_X1_removeMelted_4 (nI N) (fun a1 a2 a3 a4 a5 => rc (a1, a2, a3, a4, a5)) q.1 q.2.1 q.2.2.1 q.2.2.2.1 q.2.2.2.2)
    (fun _ rc q => b_X7_emptyGo_2 (fun a b => rc (a, b)) q.1 q.2)
    (fun _ q => some (q.2.2.2.1, q.1, q.2.1, q.2.2.1))
    (fun _ q => some q.1)
    (fun b q r => ∃ (cl' gr' oc' : Nat → Int32) (v' : Nat), q = (cl', gr', oc', nI v', nI b) ∧ r.2 = nI b ∧ MS r.1 hour cold air rub z N kd cl' gr' lit ccell cpow sp ∧ WV N kd cl' oc' ∧ v' + live cl' N = live cl N ∧ (∀ a, a < N → cl' a = cl a ∨ cl' a = -1) ∧ (∀ a, a < N → ∃ g, g ≤ 99 ∧ gr' a = nI g ∧ (cl' a < 0 → g = 0) ∧ (a < b → g = 0 → cl' a < 0)))
    N
    (by
      rintro b q ⟨m, j⟩ hb ⟨cl', gr', oc', v', rfl, hj, i1, i2, i3, i4, i5⟩
      dsimp only at hj i1
      subst hj
      obtain ⟨G, hG, eg, g1, -⟩ := i5 b hb
      have hb16 : b < 16 := by omega
      rcases (i2.wi.2 b hb).2 with hgo | ⟨c, hc, hcl⟩
      · have hg0 : cl' b < 0 := by rw [hgo]; decide
        have hG0 : G = 0 := g1 hg0
        refine ⟨(cl', gr', oc', nI v', nI (b + 1)), (upd m (25 + 3 * b) (-1), nI (b + 1)), fun u rc => ?_, fun u rc => ?_, cl', gr', oc', v', rfl, rfl, ?_, i2, i3, i4, fun a ha => ?_⟩
        · dsimp only
          unfold b_X1_removeMelted_4
          rw [if_neg (nI_ge hb (by omega)), w_gone hb16, pu_b1, pu_ifb, decide_eq_true hg0, if_pos rfl, nI_1]
        · dsimp only
          unfold b_X7_emptyGo_2
          rw [pu_c5, i1.h5, if_neg (nI_ge hb (by omega)), m_grains i1.rm hb16, pu_b1, eg, hG0, if_pos nI_0, pu_x1, pu_gdN (show 25 + 3 * b < 82 by omega) (by omega), nI_clamp (by omega), nI_1]
        · have := i1.u_cl hb16 (-1)
          rw [upd_self hgo] at this
          exact this
        · obtain ⟨g, h1, h2, h3, h4⟩ := i5 a ha
          refine ⟨g, h1, h2, h3, fun p q => ?_⟩
          by_cases e : a = b
          · rw [e]; exact hg0
          · exact h4 (by omega) q
      · have hg0 : ¬ cl' b < 0 := by rw [hcl]; exact nI_pos (by omega)
        by_cases hG0 : G = 0
        · obtain ⟨oc'', er, hv'⟩ := w_remove (gr := gr') hN i2 hb
          have hlv := live_upd hb hg0
          have egr : upd gr' b 0 = gr' := upd_self (by rw [eg, hG0, nI_0])
          refine ⟨(upd cl' b (-1), gr', oc'', nI (v' + 1), nI (b + 1)), (upd m (25 + 3 * b) (-1), nI (b + 1)), fun u rc => ?_, fun u rc => ?_, upd cl' b (-1), gr', oc'', v' + 1, rfl, rfl, i1.u_cl hb16 (-1), hv', by omega, fun a ha => ?_, fun a ha => ?_⟩
          · dsimp only
            unfold b_X1_removeMelted_4
            rw [if_neg (nI_ge hb (by omega)), w_gone hb16, pu_b1, pu_ifb, decide_eq_false hg0, if_neg (by decide), pu_gdN hb16 (by omega), nI_clamp (by omega), eg, hG0, if_neg (by decide), er, pu_b4, egr, nI_1, nI_1]
          · dsimp only
            unfold b_X7_emptyGo_2
            rw [pu_c5, i1.h5, if_neg (nI_ge hb (by omega)), m_grains i1.rm hb16, pu_b1, eg, hG0, if_pos nI_0, pu_x1, pu_gdN (show 25 + 3 * b < 82 by omega) (by omega), nI_clamp (by omega), nI_1]
          · by_cases e : a = b
            · right; rw [e, upd_eq]
            · rw [upd_ne e]; exact i4 a ha
          · by_cases e : a = b
            · subst e
              rw [upd_eq]
              exact ⟨G, hG, eg, fun _ => hG0, fun _ _ => by decide⟩
            · rw [upd_ne e]
              obtain ⟨g, h1, h2, h3, h4⟩ := i5 a ha
              exact ⟨g, h1, h2, h3, fun p q => h4 (by omega) q⟩
        · refine ⟨(cl', gr', oc', nI v', nI (b + 1)), (m, nI (b + 1)), fun u rc => ?_, fun u rc => ?_, cl', gr', oc', v', rfl, rfl, i1, i2, i3, i4, fun a ha => ?_⟩
          · dsimp only
            unfold b_X1_removeMelted_4
            rw [if_neg (nI_ge hb (by omega)), w_gone hb16, pu_b1, pu_ifb, decide_eq_false hg0, if_neg (by decide), pu_gdN hb16 (by omega), nI_clamp (by omega), eg, if_pos (show (0 : Int32) < nI G from nI_lt (a := 0) (by omega) (by omega)), nI_1]
          · dsimp only
            unfold b_X7_emptyGo_2
            rw [pu_c5, i1.h5, if_neg (nI_ge hb (by omega)), m_grains i1.rm hb16, pu_b1, eg, if_neg (nI_ne0 (by omega) (by omega)), nI_1]
          · obtain ⟨g, h1, h2, h3, h4⟩ := i5 a ha
            refine ⟨g, h1, h2, h3, fun p q => ?_⟩
            by_cases e : a = b
            · subst e
              have := (nI_eq (by omega) (by omega)).mp (h2.symm.trans eg)
              omega
            · exact h4 (by omega) q)
    (by
      rintro q ⟨m, j⟩ ⟨cl', gr', oc', v', rfl, hj, i1, i2, i3, i4, i5⟩
      dsimp only at hj i1
      subst hj
      refine ⟨fun u rc => ?_, fun u rc => ?_⟩
      · dsimp only
        unfold b_X1_removeMelted_4
        rw [if_pos (nI_le (Nat.le_refl _) (by omega))]
      · dsimp only
        unfold b_X7_emptyGo_2
        rw [pu_c5, i1.h5, if_pos (nI_le (Nat.le_refl _) (by omega))])
    (cl, gr, oc, nI 0, nI 0) (mm, nI 0) ⟨cl, gr, oc, 0, rfl, rfl, h, hv, by omega, fun a _ => Or.inl rfl, fun a ha => by
      obtain ⟨g, h1, h2, h3⟩ := hg a ha
      exact ⟨g, h1, h2, h3, fun p => absurd p (by omega)⟩⟩
  refine ⟨cl', gr', oc', v', m, i1, i2, i3, fun a ha => ?_, i4, ?_, ?_⟩
  · obtain ⟨g, h1, h2, h3, h4⟩ := i5 a ha
    exact ⟨g, h1, h2, h3, h4 ha⟩
  · unfold f_X1_removeMelted
    rw [lp_unc5]; exact e1 () ik_fu (pu_fu (by omega))
  · unfold f_X7_emptyGo
    rw [lp_unc2]; exact e2 () ik_fu (pu_fu (by omega))
end
