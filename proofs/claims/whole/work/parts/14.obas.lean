/-! pieces for the calls that try -/
theorem nI_inj {a b : Nat} (ha : a < 2 ^ 31) (hb : b < 2 ^ 31) (h : nI a = nI b) : a = b := (nI_eq ha hb).mp h
theorem uu (f : Nat → Int32) (b : Nat) (v w : Int32) : upd (upd f b v) b w = upd f b w := by
  funext j
  by_cases h : j = b
  · rw [h, upd_eq, upd_eq]
  · rw [upd_ne h, upd_ne h, upd_ne h]
theorem up_cg {f g : Nat → Int32} {n : Nat} (h : ∀ b, b < n → f b = g b) (i : Nat) (v : Int32) : ∀ b, b < n → upd f i v b = upd g i v b := fun b hb => upd_at (h b hb) Iff.rfl
theorem held_all {hour rub z : Int32} {A N : Nat} {kd cl gr oc : Nat → Int32} {lit cold : Int32} {ccell cpow sp mm : Nat → Int32} (hM : MS mm hour cold (nI A) rub z N kd cl gr lit ccell cpow sp) (hV : WV N kd cl oc) (hS : GS N cl gr) (hC : CI cold ccell cpow) {n : Nat} (hn : n < 200) (hA : A < 100000000) :
    ∃ x : Nat, x ≤ n ∧ (∀ wm dr : Nat → Int32, ∃ (hr' air' rb' : Int32) (cl' gr' oc' wm' dr' : Nat → Int32), f_X1_hoursHeld hour (nI A) rub (nI N) kd cl gr oc lit cold ccell cpow wm dr (nI n) = some (nI x, hr', air', rb', cl', gr', oc', wm', dr')) ∧ (∀ m mwas mwarm mdrip : Nat → Int32, MS m hour cold (nI A) rub z N kd cl gr lit ccell cpow sp → ∃ m' W' md' : Nat → Int32, f_X7_held m mwas mwarm mdrip (nI n) = some (nI x, fw (fw m mwas 82) m' 82, fw m mwas 82, W', md')) := by
  obtain ⟨x, q1, q2, q3, q4, q5, q6, q7, q8, q9, q10, q11, hx, w, u⟩ := held_both hM hV hS hC hn hA (fun _ => 0) (fun _ => 0) (fun _ => 0) (fun _ => 0) (fun _ => 0)
  refine ⟨x, hx, fun wm dr => ?_, fun m mwas mwarm mdrip h => ?_⟩
  · obtain ⟨x2, p1, p2, p3, p4, p5, p6, p7, p8, p9, p10, p11, hx2, w2, u2⟩ := held_both hM hV hS hC hn hA wm dr (fun _ => 0) (fun _ => 0) (fun _ => 0)
    rw [u] at u2
    have : x = x2 := nI_inj (by omega) (by omega) (congrArg Prod.fst (Option.some.inj u2))
    subst this
    exact ⟨_, _, _, _, _, _, _, _, w2⟩
  · obtain ⟨x2, p1, p2, p3, p4, p5, p6, p7, p8, p9, p10, p11, hx2, w2, u2⟩ := held_both h hV hS hC hn hA (fun _ => 0) (fun _ => 0) mwas mwarm mdrip
    rw [w] at w2
    have : x = x2 := nI_inj (by omega) (by omega) (congrArg Prod.fst (Option.some.inj w2))
    subst this
    exact ⟨_, _, _, u2⟩
theorem gone_pos {hour rub z : Int32} {A N : Nat} {kd cl gr oc : Nat → Int32} {lit cold : Int32} {ccell cpow sp mm : Nat → Int32} (hM : MS mm hour cold (nI A) rub z N kd cl gr lit ccell cpow sp) (hV : WV N kd cl oc) (hS : GS N cl gr) (hC : CI cold ccell cpow) {b n : Nat} (hb : b < N) (hl : ¬ cl b < 0) (hn : n < 200) (hA : A < 100000000) (wm dr mwas mwarm mdrip : Nat → Int32) :
    ∃ (x : Nat) (hr' air' rb' : Int32) (cl' gr' oc' wm' dr' m' W' md' : Nat → Int32), 0 < x ∧ x ≤ n + 1 ∧ f_X1_goneIn hour (nI A) rub (nI N) kd cl gr oc lit cold ccell cpow wm dr (nI b) (nI n) = some (nI x, hr', air', rb', cl', gr', oc', wm', dr') ∧ f_X7_goneIn mm mwas mwarm mdrip (nI b) (nI n) = some (nI x, fw (fw mm mwas 82) m' 82, fw mm mwas 82, W', md') := by
  have hN := hM.hN
  obtain ⟨hr, A', rb, cl2, gr2, oc2, dr2, v, mm', W, md, ⟨e1, e2, e3, e4, e5, e6, e7, e8, e9, e10⟩, hq⟩ := hq_ex hM hV hS hC (M := n) (by omega) (wm := fw (fv cl lit cold ccell cpow) wm N) (fun b hb _ => fw_at N b hb) dr mwarm mdrip
  obtain ⟨hr', air', rb', cl', gr', oc', dr', w⟩ := w_goneIn hq hb (by rw [e4]; exact hl) (Nat.le_refl n) (by omega)
  obtain ⟨m', W', md', u⟩ := m_goneIn hq hb (by rw [e4]; exact hl) (Nat.le_refl n) (by omega) mwas
  rw [e1, e2, e3, e4, e5, e6, e7] at w
  rw [e8, e9, e10] at u
  refine ⟨gin cl2 b n, hr', air', rb', cl', gr', oc', fw (fv cl lit cold ccell cpow) wm N, dr', m', W', md', gin_pos (by rw [e4]; exact hl), gin_le cl2 b n, ?_, u⟩
  unfold f_X1_goneIn
  rw [w_feel hN hV.wi hC, pu_b1, w]
theorem w_thick {gr : Nat → Int32} {b g d : Nat} (hb : b < 16) (e : gr b = nI g) (hg : g ≤ 99) (hd : d < 2 ^ 31) : f_X5_thicken gr (nI b) (nI d) = some (nI (min d (99 - g)), upd gr b (nI (g + min d (99 - g)))) := by
  unfold f_X5_thicken
  have e99 : (99 : Int32) - nI g = nI (99 - g) := pk_sub (a := 99) (by omega)
  simp only [pu_gdN hb (show 16 < 2 ^ 31 by omega), nI_clamp (show b < 2 ^ 31 by omega), e, e99, ik_minN hd (show 99 - g < 2 ^ 31 by omega), nI_add]
theorem m_capped {a : Nat} (ha : a < 2 ^ 31) : f_X7_capped (nI a) = some (nI (min a 99)) := by
  unfold f_X7_capped
  by_cases q : a ≤ 99
  · rw [if_pos (show nI a ≤ (99 : Int32) from (nI_leI (b := 99) ha (by omega)).mpr q), Nat.min_eq_left q]
  · rw [if_neg (show ¬ nI a ≤ (99 : Int32) from fun p => q ((nI_leI (b := 99) ha (by omega)).mp p)), Nat.min_eq_right (by omega)]
    rfl
theorem GS.up {N : Nat} {cl gr : Nat → Int32} (h : GS N cl gr) {b v : Nat} (hl : ¬ cl b < 0) (h1 : 0 < v) (h2 : v ≤ 99) : GS N cl (upd gr b (nI v)) := by
  intro a ha
  by_cases q : a = b
  · rw [q, upd_eq]
    exact ⟨v, h2, rfl, fun p => absurd p hl, fun p => by omega⟩
  · rw [upd_ne q]
    exact h a ha
theorem i_sub1 (x : Int32) : x - 1 = x + -1 := Int32.sub_eq_add_neg x 1
def dn (i : Nat) : Int32 := Int32.ofInt (20 - i)
theorem dn_0 : (20 : Int32) = dn 0 := by decide
theorem dn_toInt {i : Nat} (h : i ≤ 60) : (dn i).toInt = 20 - i := by
  unfold dn
  rw [Int32.toInt_ofInt]
  exact pu_bm (by omega) (by omega)
theorem dn_s {i : Nat} (h : i < 60) : dn i + -1 = dn (i + 1) := by
  apply Int32.toInt_inj.mp
  have e1 : (-1 : Int32).toInt = -1 := rfl
  have e2 := dn_toInt (i := i) (by omega)
  rw [i_add (by omega) (by omega), dn_toInt (by omega), dn_toInt (by omega), e1]
  omega
theorem dn_ge {i : Nat} (h : i < 41) : ¬ dn i < (-20 : Int32) := by
  rw [Int32.lt_iff_toInt_lt, dn_toInt (by omega)]
  have e1 : (-20 : Int32).toInt = -20 := rfl
  omega
theorem dn_41 : dn 41 < (-20 : Int32) := by decide
theorem dn_ci {i : Nat} (h : i < 41) : -20 ≤ (dn i).toInt ∧ (dn i).toInt ≤ 20 := by
  rw [dn_toInt (by omega)]; omega
theorem lp1_s {α ρ : Type} (f : (α → Option ρ) → α → Option ρ) (n : Nat) (a : α) : ik_lp1 f (n + 1) a = f (ik_lp1 f n) a := rfl
