/-! what falls: the class's rounds and the reference's -/
theorem or_mk (p q : Nat → Bool) {N : Nat} (hN : N ≤ 16) : mk p N ||| mk q N = mk (fun b => p b || q b) N := by
  refine b_ext (fun i hi => ?_)
  rw [b_or, mk_bits p N (by omega) i hi, mk_bits q N (by omega) i hi, mk_bits _ N (by omega) i hi]
  cases decide (i < N) <;> cases p i <;> cases q i <;> rfl
theorem mk_0 {p : Nat → Bool} {N : Nat} (hN : N ≤ 16) : mk p N = 0 ↔ ∀ b, b < N → p b = false := by
  constructor
  · intro h b hb
    have := mk_bits p N (by omega) b (by omega)
    rw [h, b_0, decide_eq_true hb, Bool.true_and] at this
    exact this.symm
  · intro h
    refine b_ext (fun i hi => ?_)
    rw [mk_bits p N (by omega) i hi, b_0]
    by_cases g : i < N
    · rw [h i g, Bool.and_false]
    · rw [decide_eq_false g, Bool.false_and]
section
variable {mm : Nat → Int32} {hour cold air rub z : Int32} {N : Nat} {kd cl gr oc : Nat → Int32} {lit : Int32} {ccell cpow sp : Nat → Int32}
/-- what is left of the walls -/
def LO (N : Nat) (cl gr cl' gr' : Nat → Int32) : Prop := ∀ a, a < N → (cl' a = cl a ∧ gr' a = gr a) ∨ (cl' a = -1 ∧ gr' a = 0)
theorem co_round (h : MS mm hour cold air rub z N kd cl gr lit ccell cpow sp) (hv : WV N kd cl oc) (p : Nat → Bool) (hp : ∀ b, b < N → p b = true → ¬ cl b < 0) (v : Nat) {x r1 r2 : Int32} (hx : ∀ b, b < N → bt x b = p b) (hr : r1 ||| r2 = x) :
    ∃ (rub' : Int32) (cl' gr' oc' : Nat → Int32) (v' : Nat) (mm' : Nat → Int32), MS mm' hour cold air rub' z N kd cl' gr' lit ccell cpow sp ∧ WV N kd cl' oc' ∧ v' + live cl' N = v + live cl N ∧ (∀ a, a < N → if p a = true then cl' a = -1 ∧ gr' a = 0 else cl' a = cl a ∧ gr' a = gr a) ∧
      (∀ (y : Int32) (rc : Int32 → (Nat → Int32) → (Nat → Int32) → (Nat → Int32) → Int32 → Int32 → Option (Int32 × Int32 × (Nat → Int32) × (Nat → Int32) × (Nat → Int32))) (n : Nat), N < n → ik_lp6 (b_X1_collapse_36 (nI N) y r1 r2 rc) n rub cl gr oc (nI v) (nI 0) = rc rub' cl' gr' oc' (nI v') (y + 1)) ∧
      (∀ (rc : (Nat → Int32) → Int32 → Option (Nat → Int32)) (n : Nat), N < n → ik_lp2 (b_X7_falls_16 x rc) n mm (nI 0) = ik_b1 (f_X7_looseNow mm') (fun r3 => ik_b1 (f_X7_weakNow mm') (fun r4 => rc mm' (r3 ||| r4)))) := by
  have hN := h.hN
  obtain ⟨q, ⟨m, j⟩, ⟨rub', cl', gr', oc', v', rfl, -, i1, i2, i3, i4⟩, e1, e2⟩ := lp_sim
    (P := Int32 × (Int32 → (Nat → Int32) → (Nat → Int32) → (Nat → Int32) → Int32 → Int32 → Option (Int32 × Int32 × (Nat → Int32) × (Nat → Int32) × (Nat → Int32))))
    (Q := (Nat → Int32) → Int32 → Option (Nat → Int32))
    (α := Int32 × (Nat → Int32) × (Nat → Int32) × (Nat → Int32) × Int32 × Int32) (β := (Nat → Int32) × Int32)
    (fun u rc q => b_X1_collapse_36 (nI N) u.1 r1 r2 u.2 (fun a1 a2 a3 a4 a5 a6 => rc (a1, a2, a3, a4, a5, a6)) q.1 q.2.1 q.2.2.1 q.2.2.2.1 q.2.2.2.2.1 q.2.2.2.2.2)
    (fun u rc q => b_X7_falls_16 x u (fun a b => rc (a, b)) q.1 q.2)
    (fun u q => u.2 q.1 q.2.1 q.2.2.1 q.2.2.2.1 q.2.2.2.2.1 (u.1 + 1))
    (fun u q => ik_b1 (f_X7_looseNow q.1) (fun r3 => ik_b1 (f_X7_weakNow q.1) (fun r4 => u q.1 (r3 ||| r4))))
    (fun b q r => ∃ (rub' : Int32) (cl' gr' oc' : Nat → Int32) (v' : Nat), q = (rub', cl', gr', oc', nI v', nI b) ∧ r.2 = nI b ∧ MS r.1 hour cold air rub' z N kd cl' gr' lit ccell cpow sp ∧ WV N kd cl' oc' ∧ v' + live cl' N = v + live cl N ∧ (∀ a, a < N → if a < b ∧ p a = true then cl' a = -1 ∧ gr' a = 0 else cl' a = cl a ∧ gr' a = gr a))
    N
    (by
      rintro b q ⟨m, j⟩ hb ⟨rub', cl', gr', oc', v', rfl, hj, i1, i2, i3, i4⟩
      dsimp only at hj i1
      subst hj
      cases hpb : p b
      · refine ⟨(rub', cl', gr', oc', nI v', nI (b + 1)), (m, nI (b + 1)), fun u rc => ?_, fun u rc => ?_, rub', cl', gr', oc', v', rfl, rfl, i1, i2, i3, fun a ha => ?_⟩
        · dsimp only
          unfold b_X1_collapse_36
          rw [if_neg (nI_ge hb (by omega)), hr, bt_us (by omega), hx b hb, hpb, if_pos bI_f, nI_1]
        · dsimp only
          unfold b_X7_falls_16
          rw [pu_c5, i1.h5, if_neg (nI_ge hb (by omega)), pu_has (by omega), pu_b1, hx b hb, hpb, if_pos bI_f, nI_1]
        · have := i4 a ha
          by_cases g : a < b ∧ p a = true
          · rw [if_pos g] at this; rw [if_pos ⟨by omega, g.2⟩]; exact this
          · rw [if_neg g] at this
            rw [if_neg (fun q => g ⟨by
              have := q.1
              have : a ≠ b := fun e => by rw [e, hpb] at q; exact absurd q.2 (by decide)
              omega, q.2⟩)]
            exact this
      · have i4b := i4 b hb
        rw [if_neg (fun q => by omega)] at i4b
        have hng : ¬ cl' b < 0 := by rw [i4b.1]; exact hp b hb hpb
        obtain ⟨oc'', e, hv'⟩ := w_remove (gr := gr') hN i2 hb
        have hlv := live_upd hb hng
        refine ⟨(rub' + gr' b, upd cl' b (-1), upd gr' b 0, oc'', nI (v' + 1), nI (b + 1)), (upd (upd (upd m 3 (rub' + gr' b)) (26 + 3 * b) 0) (25 + 3 * b) (-1), nI (b + 1)), fun u rc => ?_, fun u rc => ?_, rub' + gr' b, upd cl' b (-1), upd gr' b 0, oc'', v' + 1, rfl, rfl, ((i1.u_rub (rub' + gr' b)).u_gr (by omega) 0).u_cl (by omega) (-1), hv', by omega, fun a ha => ?_⟩
        · dsimp only
          unfold b_X1_collapse_36
          rw [if_neg (nI_ge hb (by omega)), hr, bt_us (by omega), hx b hb, hpb, if_neg (by decide), e, pu_b4, nI_1, nI_1]
        · dsimp only
          unfold b_X7_falls_16
          rw [pu_c5, i1.h5, if_neg (nI_ge hb (by omega)), pu_has (by omega), pu_b1, hx b hb, hpb, if_neg (by decide), m_grains i1.rm (by omega), pu_b1, pu_c3, i1.h3, m_makes (by omega), pu_b1, pu_x1, pu_gdN (show 25 + 3 * b < 82 by omega) (by omega), nI_clamp (by omega), nI_1]
        · by_cases g : a = b
          · subst g
            rw [if_pos ⟨by omega, hpb⟩, upd_eq, upd_eq]
            exact ⟨rfl, rfl⟩
          · have := i4 a ha
            rw [upd_ne g, upd_ne g]
            by_cases g2 : a < b ∧ p a = true
            · rw [if_pos g2] at this; rw [if_pos ⟨by omega, g2.2⟩]; exact this
            · rw [if_neg g2] at this
              rw [if_neg (fun q => g2 ⟨by have := q.1; omega, q.2⟩)]
              exact this)
    (by
      rintro q ⟨m, j⟩ ⟨rub', cl', gr', oc', v', rfl, hj, i1, i2, i3, i4⟩
      dsimp only at hj i1
      subst hj
      refine ⟨fun u rc => ?_, fun u rc => ?_⟩
      · dsimp only
        unfold b_X1_collapse_36
        rw [if_pos (nI_le (Nat.le_refl _) (by omega))]
      · dsimp only
        unfold b_X7_falls_16
        rw [pu_c5, i1.h5, if_pos (nI_le (Nat.le_refl _) (by omega))])
    (rub, cl, gr, oc, nI v, nI 0) (mm, nI 0) ⟨rub, cl, gr, oc, v, rfl, rfl, h, hv, rfl, fun a ha => by rw [if_neg (fun q => by omega)]; exact ⟨rfl, rfl⟩⟩
  refine ⟨rub', cl', gr', oc', v', m, i1, i2, i3, fun a ha => ?_, fun y rc n hn => ?_, fun rc n hn => ?_⟩
  · have := i4 a ha
    by_cases g : p a = true
    · rw [if_pos ⟨ha, g⟩] at this; rw [if_pos g]; exact this
    · rw [if_neg (fun q => g q.2)] at this; rw [if_neg g]; exact this
  · rw [lp_unc6]; exact e1 (y, rc) n hn
  · rw [lp_unc2]; exact e2 rc n hn
end
theorem co_all {hour cold air z : Int32} {N : Nat} {kd : Nat → Int32} {lit : Int32} {ccell cpow sp : Nat → Int32} : ∀ (d r : Nat), r + d ≤ 16 → ∀ (mm : Nat → Int32) (rub : Int32) (cl gr oc : Nat → Int32) (v : Nat), MS mm hour cold air rub z N kd cl gr lit ccell cpow sp → WV N kd cl oc → live cl N ≤ d →
    ∃ (rub' : Int32) (cl' gr' oc' : Nat → Int32) (v' : Nat) (mm' : Nat → Int32), MS mm' hour cold air rub' z N kd cl' gr' lit ccell cpow sp ∧ WV N kd cl' oc' ∧ v' + live cl' N = v + live cl N ∧ LO N cl gr cl' gr' ∧
      (∀ n, d < n → ik_lp6 (b_X1_collapse_4 (nI N) kd) n rub cl gr oc (nI v) (nI r) = some (nI v', rub', cl', gr', oc')) ∧
      (∀ l w n, f_X7_looseNow mm = some l → f_X7_weakNow mm = some w → d < n → ik_lp2 b_X7_falls_10 n mm (l ||| w) = some mm') := by
  intro d
  induction d with
  | zero =>
    intro r hr mm rub cl gr oc v h hv hl
    have hN := h.hN
    obtain ⟨p, p1, p2, p3⟩ := lo_both h.rm hv.wi hv.dc
    obtain ⟨q, q1, q2, q3⟩ := we_both h.rm hv.wi hv.oc
    have hz : mk p N ||| mk q N = 0 := by
      rw [or_mk p q hN, mk_0 hN]
      intro b hb
      have hg : cl b < 0 := by
        apply Classical.byContradiction
        intro hng
        have := live_upd hb hng
        omega
      cases hp : p b
      · cases hq : q b
        · rfl
        · exact absurd hg (q1 b hb hq)
      · exact absurd hg (p1 b hb hp)
    refine ⟨rub, cl, gr, oc, v, mm, h, hv, rfl, fun a _ => Or.inl ⟨rfl, rfl⟩, fun n hn => ?_, fun l w n hl hw hn => ?_⟩
    · obtain ⟨n, rfl⟩ := Nat.exists_eq_succ_of_ne_zero (show n ≠ 0 by omega)
      show b_X1_collapse_4 (nI N) kd (ik_lp6 (b_X1_collapse_4 (nI N) kd) n) rub cl gr oc (nI v) (nI r) = _
      unfold b_X1_collapse_4
      rw [if_neg (show ¬ (16 : Int32) < nI r from nI_nlt (a := 16) (by omega) (by omega)), p2, pu_b1, q2, pu_b1, if_pos hz]
    · obtain ⟨n, rfl⟩ := Nat.exists_eq_succ_of_ne_zero (show n ≠ 0 by omega)
      have e1 : l = mk p N := Option.some.inj (hl.symm.trans p3)
      have e2 : w = mk q N := Option.some.inj (hw.symm.trans q3)
      subst e1; subst e2
      show b_X7_falls_10 (ik_lp2 b_X7_falls_10 n) mm _ = _
      unfold b_X7_falls_10
      rw [if_pos hz]
  | succ d ih =>
    intro r hr mm rub cl gr oc v h hv hl
    have hN := h.hN
    obtain ⟨p, p1, p2, p3⟩ := lo_both h.rm hv.wi hv.dc
    obtain ⟨q, q1, q2, q3⟩ := we_both h.rm hv.wi hv.oc
    by_cases hz : mk p N ||| mk q N = 0
    · refine ⟨rub, cl, gr, oc, v, mm, h, hv, rfl, fun a _ => Or.inl ⟨rfl, rfl⟩, fun n hn => ?_, fun l w n hl hw hn => ?_⟩
      · obtain ⟨n, rfl⟩ := Nat.exists_eq_succ_of_ne_zero (show n ≠ 0 by omega)
        show b_X1_collapse_4 (nI N) kd (ik_lp6 (b_X1_collapse_4 (nI N) kd) n) rub cl gr oc (nI v) (nI r) = _
        unfold b_X1_collapse_4
        rw [if_neg (show ¬ (16 : Int32) < nI r from nI_nlt (a := 16) (by omega) (by omega)), p2, pu_b1, q2, pu_b1, if_pos hz]
      · obtain ⟨n, rfl⟩ := Nat.exists_eq_succ_of_ne_zero (show n ≠ 0 by omega)
        have e1 : l = mk p N := Option.some.inj (hl.symm.trans p3)
        have e2 : w = mk q N := Option.some.inj (hw.symm.trans q3)
        subst e1; subst e2
        show b_X7_falls_10 (ik_lp2 b_X7_falls_10 n) mm _ = _
        unfold b_X7_falls_10
        rw [if_pos hz]
    · have hpq : ∀ b, b < N → (p b || q b) = true → ¬ cl b < 0 := by
        intro b hb ht
        rw [Bool.or_eq_true] at ht
        rcases ht with ht | ht
        · exact p1 b hb ht
        · exact q1 b hb ht
      obtain ⟨rub1, cl1, gr1, oc1, v1, mm1, a1, a2, a3, a4, e1, e2⟩ := co_round h hv (fun b => p b || q b) hpq v (x := mk p N ||| mk q N) (r1 := mk p N) (r2 := mk q N) (fun b hb => by rw [or_mk p q hN, mk_bits _ N (by omega) b (by omega), decide_eq_true hb, Bool.true_and]) rfl
      have hlt : live cl1 N < live cl N := by
        have hex : ∃ b, b < N ∧ (p b || q b) = true := by
          apply Classical.byContradiction
          intro hn
          apply hz
          rw [or_mk p q hN, mk_0 hN]
          intro b hb
          exact ts_nt (fun q => hn ⟨b, hb, q⟩)
        obtain ⟨b, hb, hb2⟩ := hex
        unfold live
        refine cnt_lt N (fun a ha ht => ?_) ⟨b, hb, by rw [decide_eq_false (hpq b hb hb2)]; rfl, ?_⟩
        · have := a4 a ha
          by_cases g : (p a || q a) = true
          · rw [decide_eq_false (hpq a ha g)]; rfl
          · rw [if_neg g] at this; rw [this.1] at ht; exact ht
        · have := a4 b hb
          rw [if_pos hb2] at this
          rw [this.1]; rfl
      obtain ⟨rub2, cl2, gr2, oc2, v2, mm2, b1, b2, b3, b4, f1, f2⟩ := ih (r + 1) (by omega) mm1 rub1 cl1 gr1 oc1 v1 a1 a2 (by omega)
      refine ⟨rub2, cl2, gr2, oc2, v2, mm2, b1, b2, by omega, fun a ha => ?_, fun n hn => ?_, fun l w n hl hw hn => ?_⟩
      · have h1 := a4 a ha
        rcases b4 a ha with g | g
        · by_cases g2 : (p a || q a) = true
          · rw [if_pos g2] at h1; exact Or.inr ⟨g.1.trans h1.1, g.2.trans h1.2⟩
          · rw [if_neg g2] at h1; exact Or.inl ⟨g.1.trans h1.1, g.2.trans h1.2⟩
        · exact Or.inr g
      · obtain ⟨n, rfl⟩ := Nat.exists_eq_succ_of_ne_zero (show n ≠ 0 by omega)
        show b_X1_collapse_4 (nI N) kd (ik_lp6 (b_X1_collapse_4 (nI N) kd) n) rub cl gr oc (nI v) (nI r) = _
        unfold b_X1_collapse_4
        rw [if_neg (show ¬ (16 : Int32) < nI r from nI_nlt (a := 16) (by omega) (by omega)), p2, pu_b1, q2, pu_b1, if_neg hz]
        refine (e1 (nI r) _ ik_fu (pu_fu (by omega))).trans ?_
        rw [nI_1]
        exact f1 n (by omega)
      · obtain ⟨n, rfl⟩ := Nat.exists_eq_succ_of_ne_zero (show n ≠ 0 by omega)
        have g1 : l = mk p N := Option.some.inj (hl.symm.trans p3)
        have g2 : w = mk q N := Option.some.inj (hw.symm.trans q3)
        subst g1; subst g2
        show b_X7_falls_10 (ik_lp2 b_X7_falls_10 n) mm _ = _
        unfold b_X7_falls_10
        rw [if_neg hz]
        refine (e2 _ ik_fu (pu_fu (by omega))).trans ?_
        obtain ⟨p', -, -, p3'⟩ := lo_both a1.rm a2.wi a2.dc
        obtain ⟨q', -, -, q3'⟩ := we_both a1.rm a2.wi a2.oc
        rw [p3', pu_b1, q3', pu_b1]
        exact f2 _ _ n p3' q3' (by omega)
theorem co_both {mm : Nat → Int32} {hour cold air rub z : Int32} {N : Nat} {kd cl gr oc : Nat → Int32} {lit : Int32} {ccell cpow sp : Nat → Int32} (h : MS mm hour cold air rub z N kd cl gr lit ccell cpow sp) (hv : WV N kd cl oc) :
    ∃ (rub' : Int32) (cl' gr' oc' : Nat → Int32) (v' : Nat) (mm' : Nat → Int32), MS mm' hour cold air rub' z N kd cl' gr' lit ccell cpow sp ∧ WV N kd cl' oc' ∧ v' + live cl' N = live cl N ∧ LO N cl gr cl' gr' ∧ f_X1_collapse rub (nI N) kd cl gr oc = some (nI v', rub', cl', gr', oc') ∧ f_X7_falls mm = some mm' := by
  have hN := h.hN
  obtain ⟨rub', cl', gr', oc', v', mm', a1, a2, a3, a4, e1, e2⟩ := co_all 16 0 (by omega) mm rub cl gr oc 0 h hv (by have := live_le cl N; omega)
  obtain ⟨p, -, -, p3⟩ := lo_both h.rm hv.wi hv.dc
  obtain ⟨q, -, -, q3⟩ := we_both h.rm hv.wi hv.oc
  refine ⟨rub', cl', gr', oc', v', mm', a1, a2, by omega, a4, e1 ik_fu (pu_fu (by omega)), ?_⟩
  unfold f_X7_falls
  rw [p3, pu_b1, q3, pu_b1]
  exact e2 _ _ ik_fu p3 q3 (pu_fu (by omega))
