/-! a fresh trial -/
theorem cpy_at {f g : Nat → Int32} {n i : Nat} (h : i < n) : va_cpy f g 0 0 n i = f i := by
  unfold va_cpy
  rw [if_pos ⟨Nat.zero_le _, by omega⟩]
  congr 1
  omega
theorem pu_c16 : ((16 : Int32)).toNatClampNeg = 16 := by decide
theorem pu_c48 : ((48 : Int32)).toNatClampNeg = 48 := by decide
theorem pu_c6 : ((6 : Int32)).toNatClampNeg = 6 := by decide
theorem pu_c10 : ((10 : Int32)).toNatClampNeg = 10 := by decide
theorem WV.cg {N : Nat} {kd cl oc kd' cl' oc' : Nat → Int32} (hN : N ≤ 16) (h : WV N kd cl oc) (h1 : ∀ b, b < 16 → kd' b = kd b) (h2 : ∀ b, b < 16 → cl' b = cl b) (h3 : ∀ c, c < 48 → oc' c = oc c) : WV N kd' cl' oc' := by
  refine ⟨⟨hN, fun b hb => ?_⟩, fun a b ha hb q1 q2 => ?_, OC_mk (fun b c hb hc e => ?_) (fun c hc q => ?_)⟩
  · rw [h1 b (by omega), h2 b (by omega)]; exact h.wi.2 b hb
  · rw [h2 a (by omega)] at q1 q2
    rw [h2 b (by omega)] at q2
    exact h.dc a b ha hb q1 q2
  · rw [h2 b (by omega)] at e
    rw [h3 c hc]
    exact OC_1 h.oc h.dc hb hc e
  · rw [h3 c hc]
    exact OC_2 h.oc hc (fun b hb e => q b hb (by rw [h2 b (by omega)]; exact e))
theorem GS.cg {N : Nat} {cl gr cl' gr' : Nat → Int32} (hN : N ≤ 16) (h : GS N cl gr) (h2 : ∀ b, b < 16 → cl' b = cl b) (h3 : ∀ b, b < 16 → gr' b = gr b) : GS N cl' gr' := fun a ha => by
  rw [h2 a (by omega), h3 a (by omega)]; exact h a ha
theorem CI.cg {cold : Int32} {ccell cpow ccell' cpow' : Nat → Int32} (h : CI cold ccell cpow) (h4 : ∀ b, b < 6 → ccell' b = ccell b) (h5 : ∀ b, b < 6 → cpow' b = cpow b) : CI cold ccell' cpow' := ⟨h.1, fun j hj => by rw [h4 j hj, h5 j hj]; exact h.2 j hj⟩
theorem w_copy {hour air rub z : Int32} {N : Nat} {kd cl gr oc : Nat → Int32} {lit cold : Int32} {ccell cpow sp mm : Nat → Int32} (hM : MS mm hour cold air rub z N kd cl gr lit ccell cpow sp) (hV : WV N kd cl oc) (hS : GS N cl gr) (hC : CI cold ccell cpow) (thour tair trub tz tnb : Int32) (tkd tcl tgr toc : Nat → Int32) (tlit tcold : Int32) (tccell tcpow tsp : Nat → Int32) :
    ∃ (kd' cl' gr' oc' ccell' cpow' sp' : Nat → Int32), f_X1_copyFrom thour tair trub tz tnb tkd tcl tgr toc tlit tcold tccell tcpow tsp hour air rub z (nI N) kd cl gr oc lit cold ccell cpow sp = some (hour, air, rub, z, nI N, kd', cl', gr', oc', lit, cold, ccell', cpow', sp') ∧ MS mm hour cold air rub z N kd' cl' gr' lit ccell' cpow' sp' ∧ WV N kd' cl' oc' ∧ GS N cl' gr' ∧ CI cold ccell' cpow' ∧ (∀ b, b < 16 → cl' b = cl b) ∧ (∀ b, b < 16 → gr' b = gr b) ∧ (∀ j, j < 6 → cpow' j = cpow j) ∧ (∀ j, j < 6 → ccell' j = ccell j) ∧ (∀ b, b < 16 → kd' b = kd b) ∧ (∀ c, c < 48 → oc' c = oc c) ∧ (∀ j, j < 10 → sp' j = sp j) := by
  have hN := hM.hN
  unfold f_X1_copyFrom f_X5_copyFrom f_X0_copyFrom
  rw [pu_b5, pu_b4, pu_c0, pu_c16, pu_c48, pu_c6, pu_c10]
  exact ⟨_, _, _, _, _, _, _, rfl, hM.cg (fun _ _ => rfl) (fun b hb => cpy_at hb) (fun b hb => cpy_at hb) (fun b hb => cpy_at hb) (fun b hb => cpy_at hb) (fun b hb => cpy_at hb) (fun b hb => cpy_at hb), hV.cg hN (fun b hb => cpy_at hb) (fun b hb => cpy_at hb) (fun c hc => cpy_at hc), hS.cg hN (fun b hb => cpy_at hb) (fun b hb => cpy_at hb), hC.cg (fun b hb => cpy_at hb) (fun b hb => cpy_at hb), fun b hb => cpy_at hb, fun b hb => cpy_at hb, fun b hb => cpy_at hb, fun b hb => cpy_at hb, fun b hb => cpy_at hb, fun b hb => cpy_at hb, fun b hb => cpy_at hb⟩
theorem w_fresh {hour air rub z : Int32} {N : Nat} {kd cl gr oc : Nat → Int32} {lit cold : Int32} {ccell cpow sp mm : Nat → Int32} (hM : MS mm hour cold air rub z N kd cl gr lit ccell cpow sp) (hV : WV N kd cl oc) (hS : GS N cl gr) (hC : CI cold ccell cpow) (thour tair trub tz tnb : Int32) (tkd tcl tgr toc : Nat → Int32) (tlit tcold : Int32) (tccell tcpow tsp : Nat → Int32) :
    ∃ (kd' cl' gr' oc' ccell' cpow' sp' : Nat → Int32), f_X6_freshTrial hour air rub z (nI N) kd cl gr oc lit cold ccell cpow sp thour tair trub tz tnb tkd tcl tgr toc tlit tcold tccell tcpow tsp = some (hour, air, rub, z, nI N, kd', cl', gr', oc', lit, cold, ccell', cpow', sp') ∧ MS mm hour cold air rub z N kd' cl' gr' lit ccell' cpow' sp' ∧ WV N kd' cl' oc' ∧ GS N cl' gr' ∧ CI cold ccell' cpow' ∧ (∀ b, b < 16 → cl' b = cl b) ∧ (∀ b, b < 16 → gr' b = gr b) ∧ (∀ j, j < 6 → cpow' j = cpow j) ∧ (∀ j, j < 6 → ccell' j = ccell j) ∧ (∀ b, b < 16 → kd' b = kd b) ∧ (∀ c, c < 48 → oc' c = oc c) ∧ (∀ j, j < 10 → sp' j = sp j) := by
  obtain ⟨kd', cl', gr', oc', ccell', cpow', sp', e, r⟩ := w_copy hM hV hS hC thour tair trub tz tnb tkd tcl tgr toc tlit tcold tccell tcpow tsp
  refine ⟨kd', cl', gr', oc', ccell', cpow', sp', ?_, r⟩
  unfold f_X6_freshTrial
  rw [e, pu_b14]
