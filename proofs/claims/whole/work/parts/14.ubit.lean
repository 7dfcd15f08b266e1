/-! how many bits -/
theorem land256 {a c : Nat} (ha : a < 256) (hc : c < 256) (b d : Nat) : (256 * b + a) &&& (256 * d + c) = 256 * (b &&& d) + (a &&& c) := by
  have h1 : ((256 * b + a) &&& (256 * d + c)) % 2 ^ 8 = a &&& c := by
    rw [Nat.and_mod_two_pow, show (256 * b + a) % 2 ^ 8 = a by omega, show (256 * d + c) % 2 ^ 8 = c by omega]
  have h2 : ((256 * b + a) &&& (256 * d + c)) / 2 ^ 8 = b &&& d := by
    rw [← Nat.shiftRight_eq_div_pow, Nat.shiftRight_and_distrib, Nat.shiftRight_eq_div_pow, Nat.shiftRight_eq_div_pow, show (256 * b + a) / 2 ^ 8 = b by omega, show (256 * d + c) / 2 ^ 8 = d by omega]
  have h3 := Nat.div_add_mod ((256 * b + a) &&& (256 * d + c)) (2 ^ 8)
  rw [h1, h2] at h3
  exact h3.symm
def p1 (a : Nat) : Nat := a - ((a / 2) &&& 85)
def p2 (s : Nat) : Nat := (s &&& 51) + ((s / 4) &&& 51)
def p3 (n : Nat) : Nat := (n + n / 16) &&& 15
theorem q1 : ∀ a, a < 256 → ((128 * 0 + a / 2) &&& 85) = ((a / 2) &&& 85) ∧ ((128 * 1 + a / 2) &&& 85) = ((a / 2) &&& 85) ∧ ((a / 2) &&& 5592405) = ((a / 2) &&& 85) ∧ ((a / 2) &&& 85) ≤ a ∧ p1 a < 256 ∧ p2 (p1 a) < 69 ∧ p2 (p1 a) % 16 < 5 ∧ p3 (p2 (p1 a)) = cnt (fun i => a.testBit i) 8 := by decide +kernel
theorem q2 : ∀ s, s < 256 → ((64 * 0 + s / 4) &&& 51) = ((s / 4) &&& 51) ∧ ((64 * 1 + s / 4) &&& 51) = ((s / 4) &&& 51) ∧ ((64 * 2 + s / 4) &&& 51) = ((s / 4) &&& 51) ∧ ((64 * 3 + s / 4) &&& 51) = ((s / 4) &&& 51) ∧ ((s / 4) &&& 3355443) = ((s / 4) &&& 51) ∧ (s &&& 3355443) = (s &&& 51) := by decide +kernel
theorem q4 : ∀ n, n < 69 → (n + n / 16) &&& 986895 = p3 n ∧ ∀ t, t < 5 → ((n + n / 16 + 16 * t) &&& 15) = p3 n := by decide +kernel
theorem bc_nat {a b : Nat} (ha : a < 256) (hb : b < 256) : (256 * b + a) - (((256 * b + a) / 2) &&& 1431655765) = 256 * p1 b + p1 a := by
  obtain ⟨a1, a2, a3, a4, a5, a6, a7, a8⟩ := q1 a ha
  obtain ⟨b1, b2, b3, b4, b5, b6, b7, b8⟩ := q1 b hb
  have e : (256 * b + a) / 2 = 256 * (b / 2) + (128 * (b % 2) + a / 2) := by omega
  have e2 : ((256 * b + a) / 2) &&& 1431655765 = 256 * ((b / 2) &&& 85) + ((a / 2) &&& 85) := by
    rw [e, show 1431655765 = 256 * 5592405 + 85 by omega, land256 (by omega) (by omega), b3]
    rcases (show b % 2 = 0 ∨ b % 2 = 1 by omega) with g | g
    · rw [g, a1]
    · rw [g, a2]
  rw [e2]
  unfold p1
  omega
theorem bc_nat2 {s r : Nat} (hs : s < 256) (hr : r < 256) : ((256 * r + s) &&& 858993459) + (((256 * r + s) / 4) &&& 858993459) = 256 * p2 r + p2 s := by
  obtain ⟨a1, a2, a3, a4, a5, a6⟩ := q2 s hs
  obtain ⟨b1, b2, b3, b4, b5, b6⟩ := q2 r hr
  have e : (256 * r + s) / 4 = 256 * (r / 4) + (64 * (r % 4) + s / 4) := by omega
  have e2 : ((256 * r + s) / 4) &&& 858993459 = 256 * ((r / 4) &&& 51) + ((s / 4) &&& 51) := by
    rw [e, show 858993459 = 256 * 3355443 + 51 by omega, land256 (by omega) (by omega), b5]
    rcases (show r % 4 = 0 ∨ r % 4 = 1 ∨ r % 4 = 2 ∨ r % 4 = 3 by omega) with g | g | g | g
    · rw [g, a1]
    · rw [g, a2]
    · rw [g, a3]
    · rw [g, a4]
  have e3 : (256 * r + s) &&& 858993459 = 256 * (r &&& 51) + (s &&& 51) := by
    rw [show 858993459 = 256 * 3355443 + 51 by omega, land256 hs (by omega), b6]
  rw [e2, e3]
  unfold p2
  omega
theorem bc_nat3 {s r : Nat} (hs : s < 69) (hr : r < 69) (hm : r % 16 < 5) : ((256 * r + s) + (256 * r + s) / 16) &&& 252645135 = 256 * p3 r + p3 s := by
  have e : (256 * r + s) + (256 * r + s) / 16 = 256 * (r + r / 16) + (s + s / 16 + 16 * (r % 16)) := by omega
  rw [e, show 252645135 = 256 * 986895 + 15 by omega, land256 (by omega) (by omega), (q4 r hr).1, (q4 s hs).2 _ hm]
theorem cnt_add (T : Nat → Bool) (n : Nat) : ∀ k, cnt T (n + k) = cnt T n + cnt (fun i => T (n + i)) k
  | 0 => rfl
  | k + 1 => by
    have ih := cnt_add T n k
    show cnt T (n + k) + (if T (n + k) then 1 else 0) = cnt T n + (cnt (fun i => T (n + i)) k + (if T (n + k) then 1 else 0))
    rw [ih, Nat.add_assoc]
theorem nI_and (a b : Nat) : nI a &&& nI b = nI (a &&& b) := by
  apply Int32.toBitVec_inj.mp
  rw [Int32.toBitVec_and]
  exact (BitVec.ofNat_and).symm
theorem us_nI {n : Nat} (hn : n < 2 ^ 32) {s : Int32} (k : Nat) (hs : ((s.toUInt32 &&& Int32.toUInt32 31).toBitVec % 32).toNat = k) : ik_us (nI n) s = nI (n / 2 ^ k) := by
  unfold ik_us
  exact pk_ushrN hn s k hs
theorem bc_nI {m : Nat} (hm : m < 65536) : f_J6_bitCount_0f7a4 (nI m) = some (nI (cnt (fun i => m.testBit i) 16)) := by
  obtain ⟨a, b, ha, hb, rfl⟩ : ∃ a b, a < 256 ∧ b < 256 ∧ m = 256 * b + a := ⟨m % 256, m / 256, by omega, by omega, by omega⟩
  obtain ⟨a1, a2, a3, a4, a5, a6, a7, a8⟩ := q1 a ha
  obtain ⟨b1, b2, b3, b4, b5, b6, b7, b8⟩ := q1 b hb
  have c8 := cnt_le (fun i => a.testBit i) 8
  have d8 := cnt_le (fun i => b.testBit i) 8
  have hle : ((256 * b + a) / 2) &&& 1431655765 ≤ 256 * b + a := Nat.le_trans Nat.and_le_left (by omega)
  have e1 : nI (256 * b + a) - (ik_us (nI (256 * b + a)) 1 &&& 1431655765) = nI (256 * p1 b + p1 a) := by
    rw [us_nI (by omega) 1 (by decide), show (1431655765 : Int32) = nI 1431655765 from rfl, nI_and, pk_sub hle, bc_nat ha hb]
  have e2 : (nI (256 * p1 b + p1 a) &&& 858993459) + (ik_us (nI (256 * p1 b + p1 a)) 2 &&& 858993459) = nI (256 * p2 (p1 b) + p2 (p1 a)) := by
    rw [us_nI (by omega) 2 (by decide), show (858993459 : Int32) = nI 858993459 from rfl, nI_and, nI_and, nI_add, show 2 ^ 2 = 4 from rfl, bc_nat2 a5 b5]
  have e3 : (nI (256 * p2 (p1 b) + p2 (p1 a)) + ik_us (nI (256 * p2 (p1 b) + p2 (p1 a))) 4) &&& 252645135 = nI (256 * p3 (p2 (p1 b)) + p3 (p2 (p1 a))) := by
    rw [us_nI (by omega) 4 (by decide), show (252645135 : Int32) = nI 252645135 from rfl, nI_add, nI_and, show 2 ^ 4 = 16 from rfl, bc_nat3 a6 b6 b7]
  have e5 : cnt (fun i => (256 * b + a).testBit i) 16 = cnt (fun i => b.testBit i) 8 + cnt (fun i => a.testBit i) 8 := by
    have h1 : cnt (fun i => (256 * b + a).testBit i) 8 = cnt (fun i => a.testBit i) 8 := cnt_congr 8 (fun i hi => by
      show (2 ^ 8 * b + a).testBit i = _
      rw [Nat.testBit_two_pow_mul_add _ (by omega), if_pos hi])
    have h2 : cnt (fun i => (256 * b + a).testBit (8 + i)) 8 = cnt (fun i => b.testBit i) 8 := cnt_congr 8 (fun i hi => by
      show (2 ^ 8 * b + a).testBit (8 + i) = _
      rw [Nat.testBit_two_pow_mul_add _ (by omega), if_neg (by omega), Nat.add_sub_cancel_left])
    have h3 := cnt_add (fun i => (256 * b + a).testBit i) 8 8
    rw [h1, h2] at h3
    rw [h3, Nat.add_comm]
  unfold f_J6_bitCount_0f7a4
  rw [pu_nv, pu_nv, e1, e2, e3, a8, b8, us_nI (by omega) 8 (by decide), nI_add, us_nI (by omega) 16 (by decide), nI_add, show (63 : Int32) = nI 63 from rfl, nI_and, e5]
  refine congrArg some (congrArg nI ?_)
  rw [show 63 = 2 ^ 6 - 1 from rfl, Nat.and_two_pow_sub_one_eq_mod]
  generalize cnt (fun i => a.testBit i) 8 = u at *
  generalize cnt (fun i => b.testBit i) 8 = v at *
  rw [show (256 * v + u) / 2 ^ 8 = v by omega, show (256 * v + u + v) / 2 ^ 16 = 0 by omega]
  omega
theorem bc_mk (p : Nat → Bool) {N : Nat} (hN : N ≤ 16) : f_J6_bitCount_0f7a4 (mk p N) = some (nI (cnt (fun i => bt (mk p N) i) 16)) := by
  have hm : (mk p N).toBitVec.toNat < 2 ^ 16 := Nat.lt_pow_two_of_testBit _ (fun i hi => by
    show bt (mk p N) i = false
    rcases Nat.lt_or_ge i 32 with h | h
    · rw [mk_bits p N (by omega) i h, decide_eq_false (by omega), Bool.false_and]
    · exact b_big h)
  have e : mk p N = nI (mk p N).toBitVec.toNat := by
    apply Int32.toBitVec_inj.mp
    apply BitVec.eq_of_toNat_eq
    show _ = (BitVec.ofNat 32 _).toNat
    rw [BitVec.toNat_ofNat, Nat.mod_eq_of_lt (by omega)]
  have h := bc_nI hm
  rw [← e] at h
  exact h
