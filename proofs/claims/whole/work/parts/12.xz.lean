/-! one hour -/
theorem GS_LO {N : Nat} {cl gr cl' gr' : Nat → Int32} (h : GS N cl gr) (l : LO N cl gr cl' gr') : GS N cl' gr' := by
  intro a ha
  rcases l a ha with ⟨q1, q2⟩ | ⟨q1, q2⟩
  · rw [q1, q2]; exact h a ha
  · rw [q1, q2]; exact ⟨0, by omega, nI_0.symm, by decide⟩
section
variable {mm : Nat → Int32} {hour cold rub z : Int32} {A N : Nat} {kd cl gr oc : Nat → Int32} {lit : Int32} {ccell cpow sp : Nat → Int32}
theorem ho_melt (h : MS mm hour cold (nI A) rub z N kd cl gr lit ccell cpow sp) (hv : WV N kd cl oc) (hg : GZ N cl gr) (hA : A < 2 ^ 29) {wm W dr md : Nat → Int32} (hw : ∀ b, b < N → ¬ cl b < 0 → wm b = W b) (hw1 : ∀ b, b < N → -20 ≤ (W b).toInt ∧ (W b).toInt ≤ 200) (hd : ∀ x, x < 8 → dr x = nI 0 ∧ md x = nI 0) :
    ∃ (A' : Nat) (gr' dr' md' mm' : Nat → Int32), A' ≤ A + 1600 ∧ GZ N cl gr' ∧ (∀ x, x < 8 → ∃ D, D ≤ 1600 ∧ dr' x = nI D ∧ md' x = nI D) ∧ MS mm' hour cold (nI A') rub z N kd cl gr' lit ccell cpow sp ∧
      ik_lp4 (b_X1_passHour_10 hour rub (nI N) kd cl oc wm) ik_fu (nI A) gr dr 0 = ik_lp3 (b_X1_passHour_45 hour rub (nI N) kd cl oc wm dr') ik_fu (nI A') gr' 0 ∧
      ik_lp3 (b_X7_hour_68 W) ik_fu mm md 0 = ik_lp2 (b_X7_hour_99 W md') ik_fu mm' 0 := by
  have hN := h.hN
  obtain ⟨q, ⟨m, md2, j⟩, ⟨A', gr', dr', md', rfl, hj, i1, i2, i3, i4⟩, e1, e2⟩ := lp_sim
    (P := Unit) (Q := Unit)
    (α := Int32 × (Nat → Int32) × (Nat → Int32) × Int32) (β := (Nat → Int32) × (Nat → Int32) × Int32)
    (fun _ rc q => b_X1_passHour_10 hour rub (nI N) kd cl oc wm (fun a1 a2 a3 a4 => rc (a1, a2, a3, a4)) q.1 q.2.1 q.2.2.1 q.2.2.2)
    (fun _ rc q => b_X7_hour_68 W (fun a1 a2 a3 => rc (a1, a2, a3)) q.1 q.2.1 q.2.2)
    (fun _ q => ik_lp3 (b_X1_passHour_45 hour rub (nI N) kd cl oc wm q.2.2.1) ik_fu q.1 q.2.1 0)
    (fun _ q => ik_lp2 (b_X7_hour_99 W q.2.1) ik_fu q.1 0)
    (fun b q r => ∃ (A' : Nat) (gr' dr' md' : Nat → Int32), q = (nI A', gr', dr', nI b) ∧ r.2 = (md', nI b) ∧ MS r.1 hour cold (nI A') rub z N kd cl gr' lit ccell cpow sp ∧ A' ≤ A + 100 * b ∧ GZ N cl gr' ∧ (∀ x, x < 8 → ∃ D, D ≤ 100 * b ∧ dr' x = nI D ∧ md' x = nI D))
    N
    (by
      rintro b q ⟨m, mj⟩ hb ⟨A', gr', dr', md', rfl, hj, i1, i2, i3, i4⟩
      dsimp only at hj i1
      subst hj
      have hb16 : b < 16 := by omega
      rcases (hv.wi.2 b hb).2 with hgo | ⟨c, hc, hcl⟩
      · have hg0 : cl b < 0 := by rw [hgo]; decide
        refine ⟨(nI A', gr', dr', nI (b + 1)), (m, md', nI (b + 1)), fun u rc => ?_, fun u rc => ?_, A', gr', dr', md', rfl, rfl, i1, by omega, i3, fun x hx => ?_⟩
        · dsimp only
          unfold b_X1_passHour_10
          rw [if_neg (nI_ge hb (by omega)), w_gone hb16, pu_b1, pu_ifb, decide_eq_true hg0, if_pos rfl, nI_1]
        · dsimp only
          unfold b_X7_hour_68
          rw [pu_c5, i1.h5, if_neg (nI_ge hb (by omega)), m_gone i1.rm hb16, pu_b1, pu_ifb, decide_eq_true hg0, if_pos rfl, nI_1]
        · obtain ⟨D, h1, h2, h3⟩ := i4 x hx
          exact ⟨D, by omega, h2, h3⟩
      · have hg0 : ¬ cl b < 0 := by rw [hcl]; exact nI_pos (by omega)
        obtain ⟨G, hG, eg, -⟩ := i3 b hb
        obtain ⟨D, hD, d1, d2⟩ := i4 (c % 8) (by omega)
        obtain ⟨A2, G2, D2, m2, b1, b2, b3, f1, f2, b4⟩ := me_both i1 hb hc hcl hG eg (by omega) (hw b hb hg0) (hw1 b hb).1 (hw1 b hb).2 (by omega) d1 d2
        refine ⟨(nI A2, upd gr' b (nI G2), upd dr' (c % 8) (nI D2), nI (b + 1)), (m2, upd md' (c % 8) (nI D2), nI (b + 1)), fun u rc => ?_, fun u rc => ?_, A2, upd gr' b (nI G2), upd dr' (c % 8) (nI D2), upd md' (c % 8) (nI D2), rfl, rfl, b4, by omega, fun a ha => ?_, fun x hx => ?_⟩
        · dsimp only
          unfold b_X1_passHour_10
          rw [if_neg (nI_ge hb (by omega)), w_gone hb16, pu_b1, pu_ifb, decide_eq_false hg0, if_neg (by decide), f1, pu_b3, nI_1]
        · dsimp only
          unfold b_X7_hour_68
          rw [pu_c5, i1.h5, if_neg (nI_ge hb (by omega)), m_gone i1.rm hb16, pu_b1, pu_ifb, decide_eq_false hg0, if_neg (by decide), f2, pu_b2, nI_1]
        · by_cases e : a = b
          · subst e
            exact ⟨G2, b2, upd_eq, fun p => absurd p hg0⟩
          · rw [upd_ne e]; exact i3 a ha
        · by_cases e : x = c % 8
          · subst e
            exact ⟨D2, by omega, upd_eq, upd_eq⟩
          · rw [upd_ne e, upd_ne e]
            obtain ⟨D, h1, h2, h3⟩ := i4 x hx
            exact ⟨D, by omega, h2, h3⟩)
    (by
      rintro q ⟨m, mj⟩ ⟨A', gr', dr', md', rfl, hj, i1, i2, i3, i4⟩
      dsimp only at hj i1
      subst hj
      refine ⟨fun u rc => ?_, fun u rc => ?_⟩
      · dsimp only
        unfold b_X1_passHour_10
        rw [if_pos (nI_le (Nat.le_refl _) (by omega))]
      · dsimp only
        unfold b_X7_hour_68
        rw [pu_c5, i1.h5, if_pos (nI_le (Nat.le_refl _) (by omega))])
    (nI A, gr, dr, nI 0) (mm, md, nI 0) ⟨A, gr, dr, md, rfl, rfl, h, by omega, hg, fun x hx => ⟨0, by omega, (hd x hx).1, (hd x hx).2⟩⟩
  have hj' : (md2, j) = (md', nI N) := hj
  obtain ⟨rfl, rfl⟩ := Prod.mk.inj hj'
  refine ⟨A', gr', dr', md2, m, by omega, i3, fun x hx => ?_, i1, ?_, ?_⟩
  · obtain ⟨D, h1, h2, h3⟩ := i4 x hx
    exact ⟨D, by omega, h2, h3⟩
  · rw [lp_unc4]; exact e1 () ik_fu (pu_fu (by omega))
  · rw [lp_unc3]; exact e2 () ik_fu (pu_fu (by omega))
theorem ho_drip (h : MS mm hour cold (nI A) rub z N kd cl gr lit ccell cpow sp) (hv : WV N kd cl oc) (hg : GZ N cl gr) (hA : A < 2 ^ 29 + 1600) {wm W dr md : Nat → Int32} (hw : ∀ b, b < N → ¬ cl b < 0 → wm b = W b) (hd : ∀ x, x < 8 → ∃ D, D ≤ 1600 ∧ dr x = nI D ∧ md x = nI D) :
    ∃ (A' : Nat) (gr' mm' : Nat → Int32), A' ≤ A + 12800 ∧ GZ N cl gr' ∧ MS mm' hour cold (nI A') rub z N kd cl gr' lit ccell cpow sp ∧
      ik_lp3 (b_X1_passHour_45 hour rub (nI N) kd cl oc wm dr) ik_fu (nI A) gr 0 = ik_b4 (f_X1_removeMelted (nI N) cl gr' oc) (fun r2 g3 g4 g5 => ik_b5 (f_X1_collapse rub (nI N) kd g3 g4 g5) (fun r6 g7 g8 g9 g10 => some (r2 + r6, hour + 1, nI A', g7, g8, g9, g10, dr))) ∧
      ik_lp2 (b_X7_hour_99 W md) ik_fu mm 0 = ik_b1 (f_X7_emptyGo mm') (fun g1 => ik_b1 (f_X7_falls g1) (fun g2 => some (upd g2 0 (g2 0 + 1), W, md))) := by
  have hN := h.hN
  obtain ⟨q, ⟨m, j⟩, ⟨A', gr', rfl, -, i1, i2, i3⟩, e1, e2⟩ := lp_sim
    (P := Unit) (Q := Unit)
    (α := Int32 × (Nat → Int32) × Int32) (β := (Nat → Int32) × Int32)
    (fun _ rc q => b_X1_passHour_45 hour rub (nI N) kd cl oc wm dr (fun a1 a2 a3 => rc (a1, a2, a3)) q.1 q.2.1 q.2.2)
    (fun _ rc q => b_X7_hour_99 W md (fun a1 a2 => rc (a1, a2)) q.1 q.2)
    (fun _ q => ik_b4 (f_X1_removeMelted (nI N) cl q.2.1 oc) (fun r2 g3 g4 g5 => ik_b5 (f_X1_collapse rub (nI N) kd g3 g4 g5) (fun r6 g7 g8 g9 g10 => some (r2 + r6, hour + 1, q.1, g7, g8, g9, g10, dr))))
    (fun _ q => ik_b1 (f_X7_emptyGo q.1) (fun g1 => ik_b1 (f_X7_falls g1) (fun g2 => some (upd g2 0 (g2 0 + 1), W, md))))
    (fun x q r => ∃ (A' : Nat) (gr' : Nat → Int32), q = (nI A', gr', nI x) ∧ r.2 = nI x ∧ MS r.1 hour cold (nI A') rub z N kd cl gr' lit ccell cpow sp ∧ A' ≤ A + 1600 * x ∧ GZ N cl gr')
    8
    (by
      rintro x q ⟨m, j⟩ hx ⟨A', gr', rfl, hj, i1, i2, i3⟩
      dsimp only at hj i1
      subst hj
      obtain ⟨D, hD, d1, d2⟩ := hd x hx
      obtain ⟨A2, gr2, m2, b1, b2, f1, f2, b3⟩ := fr_both i1 hv.oc i3 hx (by omega) (by omega) hw d1 d2
      refine ⟨(nI A2, gr2, nI (x + 1)), (m2, nI (x + 1)), fun u rc => ?_, fun u rc => ?_, A2, gr2, rfl, rfl, b3, by omega, b2⟩
      · dsimp only
        unfold b_X1_passHour_45
        rw [if_neg (show ¬ (8 : Int32) ≤ nI x from nI_ge (b := 8) hx (by omega)), f1, pu_b2, nI_1]
      · dsimp only
        unfold b_X7_hour_99
        rw [if_neg (show ¬ (8 : Int32) ≤ nI x from nI_ge (b := 8) hx (by omega)), f2, pu_b1, nI_1])
    (by
      rintro q ⟨m, j⟩ ⟨A', gr', rfl, hj, i1, i2, i3⟩
      dsimp only at hj i1
      subst hj
      refine ⟨fun u rc => ?_, fun u rc => ?_⟩
      · dsimp only
        unfold b_X1_passHour_45
        rw [if_pos (show (8 : Int32) ≤ nI 8 from nI_le (a := 8) (by omega) (by omega))]
      · dsimp only
        unfold b_X7_hour_99
        rw [if_pos (show (8 : Int32) ≤ nI 8 from nI_le (a := 8) (by omega) (by omega)), pu_c0])
    (nI A, gr, nI 0) (mm, nI 0) ⟨A, gr, rfl, rfl, h, by omega, hg⟩
  refine ⟨A', gr', m, by omega, i3, i1, ?_, ?_⟩
  · rw [lp_unc3]; exact e1 () ik_fu (pu_fu (by omega))
  · rw [lp_unc2]; exact e2 () ik_fu (pu_fu (by omega))
/-- one hour, on both sides -/
theorem ho_both (h : MS mm hour cold (nI A) rub z N kd cl gr lit ccell cpow sp) (hv : WV N kd cl oc) (hg : GS N cl gr) (hc : CI cold ccell cpow) (hA : A < 2 ^ 29) {wm : Nat → Int32} (hwm : ∀ b, b < N → ¬ cl b < 0 → wm b = fv cl lit cold ccell cpow b) (dr mwarm mdrip : Nat → Int32) :
    ∃ (A' : Nat) (rub' : Int32) (cl' gr' oc' dr' : Nat → Int32) (v : Nat) (mm' W' md' : Nat → Int32), A' ≤ A + 15000 ∧ MS mm' (hour + 1) cold (nI A') rub' z N kd cl' gr' lit ccell cpow sp ∧ WV N kd cl' oc' ∧ GS N cl' gr' ∧ v + live cl' N = live cl N ∧ (∀ a, a < N → cl' a = cl a ∨ cl' a = -1) ∧
      f_X1_passHour hour (nI A) rub (nI N) kd cl gr oc wm dr = some (nI v, hour + 1, nI A', rub', cl', gr', oc', dr') ∧ f_X7_hour mm mwarm mdrip = some (mm', W', md') := by
  have hN := h.hN
  have hW : ∀ b, b < N → fw (fv cl lit cold ccell cpow) mwarm N b = fv cl lit cold ccell cpow b := fun b hb => fw_at N b hb
  obtain ⟨A1, gr1, dr1, md1, mm1, a1, a2, a3, a4, e1, e2⟩ := ho_melt h hv hg.gz hA (wm := wm) (W := fw (fv cl lit cold ccell cpow) mwarm N) (dr := fw (fun _ => 0) dr 8) (md := fw (fun _ => 0) mdrip 8) (fun b hb hl => (hwm b hb hl).trans (hW b hb).symm) (fun b hb => by rw [hW b hb]; exact fv_in hv.wi hc hb) (fun x hx => ⟨by rw [fw_at 8 x hx, nI_0], by rw [fw_at 8 x hx, nI_0]⟩)
  obtain ⟨A2, gr2, mm2, b1, b2, b3, e3, e4⟩ := ho_drip a4 hv a2 (by omega) (wm := wm) (W := fw (fv cl lit cold ccell cpow) mwarm N) (fun b hb hl => (hwm b hb hl).trans (hW b hb).symm) a3
  obtain ⟨cl3, gr3, oc3, v3, mm3, c1, c2, c3, c4, c5, e5, e6⟩ := eg_both b3 hv b2
  obtain ⟨rub4, cl4, gr4, oc4, v4, mm4, d1, d2, d3, d4, e7, e8⟩ := co_both c1 c2
  refine ⟨A2, rub4, cl4, gr4, oc4, dr1, v3 + v4, upd mm4 0 (hour + 1), fw (fv cl lit cold ccell cpow) mwarm N, md1, by omega, d1.u_hour (hour + 1), d2, GS_LO c4 d4, by omega, fun a ha => ?_, ?_, ?_⟩
  · rcases d4 a ha with ⟨q1, -⟩ | ⟨q1, -⟩
    · rw [q1]; exact c5 a ha
    · exact Or.inr q1
  · unfold f_X1_passHour
    rw [fill_fw (by omega), pu_b1, e1, e3, e5, pu_b4, e7, pu_b5, nI_add]
  · rw [m_hour1 h hv.wi hc, e2, e4, e6, pu_b1, e8, pu_b1, d1.h0]
end
