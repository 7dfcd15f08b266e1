/-! the pure part: loops by the trace of their states; binds; guards; small numbers -/
theorem lp_for1 {α1 ρ : Type} {f : (α1 → Option ρ) → α1 → Option ρ} (s1 : Nat → α1) (K : Option ρ) (N : Nat) (hs : ∀ (rc : α1 → Option ρ) (b : Nat), b < N → f rc (s1 b) = rc (s1 (b + 1))) (he : ∀ rc : α1 → Option ρ, f rc (s1 N) = K) {n : Nat} (hn : N < n) : ik_lp1 f n (s1 0) = K := by
  have key : ∀ (d j : Nat), j + d = N → ∀ n, d < n → ik_lp1 f n (s1 j) = K := by
    intro d
    induction d with
    | zero =>
      intro j hj n hn
      obtain ⟨n, rfl⟩ := Nat.exists_eq_succ_of_ne_zero (show n ≠ 0 by omega)
      have hjN : j = N := by omega
      subst hjN
      exact he _
    | succ d ih =>
      intro j hj n hn
      obtain ⟨n, rfl⟩ := Nat.exists_eq_succ_of_ne_zero (show n ≠ 0 by omega)
      show f (ik_lp1 f n) (s1 j) = K
      rw [hs _ j (by omega)]
      exact ih (j + 1) (by omega) n (by omega)
  exact key N 0 (by omega) n hn
theorem lp_for2 {α1 α2 ρ : Type} {f : (α1 → α2 → Option ρ) → α1 → α2 → Option ρ} (s1 : Nat → α1) (s2 : Nat → α2) (K : Option ρ) (N : Nat) (hs : ∀ (rc : α1 → α2 → Option ρ) (b : Nat), b < N → f rc (s1 b) (s2 b) = rc (s1 (b + 1)) (s2 (b + 1))) (he : ∀ rc : α1 → α2 → Option ρ, f rc (s1 N) (s2 N) = K) {n : Nat} (hn : N < n) : ik_lp2 f n (s1 0) (s2 0) = K := by
  have key : ∀ (d j : Nat), j + d = N → ∀ n, d < n → ik_lp2 f n (s1 j) (s2 j) = K := by
    intro d
    induction d with
    | zero =>
      intro j hj n hn
      obtain ⟨n, rfl⟩ := Nat.exists_eq_succ_of_ne_zero (show n ≠ 0 by omega)
      have hjN : j = N := by omega
      subst hjN
      exact he _
    | succ d ih =>
      intro j hj n hn
      obtain ⟨n, rfl⟩ := Nat.exists_eq_succ_of_ne_zero (show n ≠ 0 by omega)
      show f (ik_lp2 f n) (s1 j) (s2 j) = K
      rw [hs _ j (by omega)]
      exact ih (j + 1) (by omega) n (by omega)
  exact key N 0 (by omega) n hn
theorem lp_for3 {α1 α2 α3 ρ : Type} {f : (α1 → α2 → α3 → Option ρ) → α1 → α2 → α3 → Option ρ} (s1 : Nat → α1) (s2 : Nat → α2) (s3 : Nat → α3) (K : Option ρ) (N : Nat) (hs : ∀ (rc : α1 → α2 → α3 → Option ρ) (b : Nat), b < N → f rc (s1 b) (s2 b) (s3 b) = rc (s1 (b + 1)) (s2 (b + 1)) (s3 (b + 1))) (he : ∀ rc : α1 → α2 → α3 → Option ρ, f rc (s1 N) (s2 N) (s3 N) = K) {n : Nat} (hn : N < n) : ik_lp3 f n (s1 0) (s2 0) (s3 0) = K := by
  have key : ∀ (d j : Nat), j + d = N → ∀ n, d < n → ik_lp3 f n (s1 j) (s2 j) (s3 j) = K := by
    intro d
    induction d with
    | zero =>
      intro j hj n hn
      obtain ⟨n, rfl⟩ := Nat.exists_eq_succ_of_ne_zero (show n ≠ 0 by omega)
      have hjN : j = N := by omega
      subst hjN
      exact he _
    | succ d ih =>
      intro j hj n hn
      obtain ⟨n, rfl⟩ := Nat.exists_eq_succ_of_ne_zero (show n ≠ 0 by omega)
      show f (ik_lp3 f n) (s1 j) (s2 j) (s3 j) = K
      rw [hs _ j (by omega)]
      exact ih (j + 1) (by omega) n (by omega)
  exact key N 0 (by omega) n hn
theorem lp_for4 {α1 α2 α3 α4 ρ : Type} {f : (α1 → α2 → α3 → α4 → Option ρ) → α1 → α2 → α3 → α4 → Option ρ} (s1 : Nat → α1) (s2 : Nat → α2) (s3 : Nat → α3) (s4 : Nat → α4) (K : Option ρ) (N : Nat) (hs : ∀ (rc : α1 → α2 → α3 → α4 → Option ρ) (b : Nat), b < N → f rc (s1 b) (s2 b) (s3 b) (s4 b) = rc (s1 (b + 1)) (s2 (b + 1)) (s3 (b + 1)) (s4 (b + 1))) (he : ∀ rc : α1 → α2 → α3 → α4 → Option ρ, f rc (s1 N) (s2 N) (s3 N) (s4 N) = K) {n : Nat} (hn : N < n) : ik_lp4 f n (s1 0) (s2 0) (s3 0) (s4 0) = K := by
  have key : ∀ (d j : Nat), j + d = N → ∀ n, d < n → ik_lp4 f n (s1 j) (s2 j) (s3 j) (s4 j) = K := by
    intro d
    induction d with
    | zero =>
      intro j hj n hn
      obtain ⟨n, rfl⟩ := Nat.exists_eq_succ_of_ne_zero (show n ≠ 0 by omega)
      have hjN : j = N := by omega
      subst hjN
      exact he _
    | succ d ih =>
      intro j hj n hn
      obtain ⟨n, rfl⟩ := Nat.exists_eq_succ_of_ne_zero (show n ≠ 0 by omega)
      show f (ik_lp4 f n) (s1 j) (s2 j) (s3 j) (s4 j) = K
      rw [hs _ j (by omega)]
      exact ih (j + 1) (by omega) n (by omega)
  exact key N 0 (by omega) n hn
theorem lp_for5 {α1 α2 α3 α4 α5 ρ : Type} {f : (α1 → α2 → α3 → α4 → α5 → Option ρ) → α1 → α2 → α3 → α4 → α5 → Option ρ} (s1 : Nat → α1) (s2 : Nat → α2) (s3 : Nat → α3) (s4 : Nat → α4) (s5 : Nat → α5) (K : Option ρ) (N : Nat) (hs : ∀ (rc : α1 → α2 → α3 → α4 → α5 → Option ρ) (b : Nat), b < N → f rc (s1 b) (s2 b) (s3 b) (s4 b) (s5 b) = rc (s1 (b + 1)) (s2 (b + 1)) (s3 (b + 1)) (s4 (b + 1)) (s5 (b + 1))) (he : ∀ rc : α1 → α2 → α3 → α4 → α5 → Option ρ, f rc (s1 N) (s2 N) (s3 N) (s4 N) (s5 N) = K) {n : Nat} (hn : N < n) : ik_lp5 f n (s1 0) (s2 0) (s3 0) (s4 0) (s5 0) = K := by
  have key : ∀ (d j : Nat), j + d = N → ∀ n, d < n → ik_lp5 f n (s1 j) (s2 j) (s3 j) (s4 j) (s5 j) = K := by
    intro d
    induction d with
    | zero =>
      intro j hj n hn
      obtain ⟨n, rfl⟩ := Nat.exists_eq_succ_of_ne_zero (show n ≠ 0 by omega)
      have hjN : j = N := by omega
      subst hjN
      exact he _
    | succ d ih =>
      intro j hj n hn
      obtain ⟨n, rfl⟩ := Nat.exists_eq_succ_of_ne_zero (show n ≠ 0 by omega)
      show f (ik_lp5 f n) (s1 j) (s2 j) (s3 j) (s4 j) (s5 j) = K
      rw [hs _ j (by omega)]
      exact ih (j + 1) (by omega) n (by omega)
  exact key N 0 (by omega) n hn
theorem lp_for6 {α1 α2 α3 α4 α5 α6 ρ : Type} {f : (α1 → α2 → α3 → α4 → α5 → α6 → Option ρ) → α1 → α2 → α3 → α4 → α5 → α6 → Option ρ} (s1 : Nat → α1) (s2 : Nat → α2) (s3 : Nat → α3) (s4 : Nat → α4) (s5 : Nat → α5) (s6 : Nat → α6) (K : Option ρ) (N : Nat) (hs : ∀ (rc : α1 → α2 → α3 → α4 → α5 → α6 → Option ρ) (b : Nat), b < N → f rc (s1 b) (s2 b) (s3 b) (s4 b) (s5 b) (s6 b) = rc (s1 (b + 1)) (s2 (b + 1)) (s3 (b + 1)) (s4 (b + 1)) (s5 (b + 1)) (s6 (b + 1))) (he : ∀ rc : α1 → α2 → α3 → α4 → α5 → α6 → Option ρ, f rc (s1 N) (s2 N) (s3 N) (s4 N) (s5 N) (s6 N) = K) {n : Nat} (hn : N < n) : ik_lp6 f n (s1 0) (s2 0) (s3 0) (s4 0) (s5 0) (s6 0) = K := by
  have key : ∀ (d j : Nat), j + d = N → ∀ n, d < n → ik_lp6 f n (s1 j) (s2 j) (s3 j) (s4 j) (s5 j) (s6 j) = K := by
    intro d
    induction d with
    | zero =>
      intro j hj n hn
      obtain ⟨n, rfl⟩ := Nat.exists_eq_succ_of_ne_zero (show n ≠ 0 by omega)
      have hjN : j = N := by omega
      subst hjN
      exact he _
    | succ d ih =>
      intro j hj n hn
      obtain ⟨n, rfl⟩ := Nat.exists_eq_succ_of_ne_zero (show n ≠ 0 by omega)
      show f (ik_lp6 f n) (s1 j) (s2 j) (s3 j) (s4 j) (s5 j) (s6 j) = K
      rw [hs _ j (by omega)]
      exact ih (j + 1) (by omega) n (by omega)
  exact key N 0 (by omega) n hn
theorem lp_for7 {α1 α2 α3 α4 α5 α6 α7 ρ : Type} {f : (α1 → α2 → α3 → α4 → α5 → α6 → α7 → Option ρ) → α1 → α2 → α3 → α4 → α5 → α6 → α7 → Option ρ} (s1 : Nat → α1) (s2 : Nat → α2) (s3 : Nat → α3) (s4 : Nat → α4) (s5 : Nat → α5) (s6 : Nat → α6) (s7 : Nat → α7) (K : Option ρ) (N : Nat) (hs : ∀ (rc : α1 → α2 → α3 → α4 → α5 → α6 → α7 → Option ρ) (b : Nat), b < N → f rc (s1 b) (s2 b) (s3 b) (s4 b) (s5 b) (s6 b) (s7 b) = rc (s1 (b + 1)) (s2 (b + 1)) (s3 (b + 1)) (s4 (b + 1)) (s5 (b + 1)) (s6 (b + 1)) (s7 (b + 1))) (he : ∀ rc : α1 → α2 → α3 → α4 → α5 → α6 → α7 → Option ρ, f rc (s1 N) (s2 N) (s3 N) (s4 N) (s5 N) (s6 N) (s7 N) = K) {n : Nat} (hn : N < n) : ik_lp7 f n (s1 0) (s2 0) (s3 0) (s4 0) (s5 0) (s6 0) (s7 0) = K := by
  have key : ∀ (d j : Nat), j + d = N → ∀ n, d < n → ik_lp7 f n (s1 j) (s2 j) (s3 j) (s4 j) (s5 j) (s6 j) (s7 j) = K := by
    intro d
    induction d with
    | zero =>
      intro j hj n hn
      obtain ⟨n, rfl⟩ := Nat.exists_eq_succ_of_ne_zero (show n ≠ 0 by omega)
      have hjN : j = N := by omega
      subst hjN
      exact he _
    | succ d ih =>
      intro j hj n hn
      obtain ⟨n, rfl⟩ := Nat.exists_eq_succ_of_ne_zero (show n ≠ 0 by omega)
      show f (ik_lp7 f n) (s1 j) (s2 j) (s3 j) (s4 j) (s5 j) (s6 j) (s7 j) = K
      rw [hs _ j (by omega)]
      exact ih (j + 1) (by omega) n (by omega)
  exact key N 0 (by omega) n hn
theorem lp_for8 {α1 α2 α3 α4 α5 α6 α7 α8 ρ : Type} {f : (α1 → α2 → α3 → α4 → α5 → α6 → α7 → α8 → Option ρ) → α1 → α2 → α3 → α4 → α5 → α6 → α7 → α8 → Option ρ} (s1 : Nat → α1) (s2 : Nat → α2) (s3 : Nat → α3) (s4 : Nat → α4) (s5 : Nat → α5) (s6 : Nat → α6) (s7 : Nat → α7) (s8 : Nat → α8) (K : Option ρ) (N : Nat) (hs : ∀ (rc : α1 → α2 → α3 → α4 → α5 → α6 → α7 → α8 → Option ρ) (b : Nat), b < N → f rc (s1 b) (s2 b) (s3 b) (s4 b) (s5 b) (s6 b) (s7 b) (s8 b) = rc (s1 (b + 1)) (s2 (b + 1)) (s3 (b + 1)) (s4 (b + 1)) (s5 (b + 1)) (s6 (b + 1)) (s7 (b + 1)) (s8 (b + 1))) (he : ∀ rc : α1 → α2 → α3 → α4 → α5 → α6 → α7 → α8 → Option ρ, f rc (s1 N) (s2 N) (s3 N) (s4 N) (s5 N) (s6 N) (s7 N) (s8 N) = K) {n : Nat} (hn : N < n) : ik_lp8 f n (s1 0) (s2 0) (s3 0) (s4 0) (s5 0) (s6 0) (s7 0) (s8 0) = K := by
  have key : ∀ (d j : Nat), j + d = N → ∀ n, d < n → ik_lp8 f n (s1 j) (s2 j) (s3 j) (s4 j) (s5 j) (s6 j) (s7 j) (s8 j) = K := by
    intro d
    induction d with
    | zero =>
      intro j hj n hn
      obtain ⟨n, rfl⟩ := Nat.exists_eq_succ_of_ne_zero (show n ≠ 0 by omega)
      have hjN : j = N := by omega
      subst hjN
      exact he _
    | succ d ih =>
      intro j hj n hn
      obtain ⟨n, rfl⟩ := Nat.exists_eq_succ_of_ne_zero (show n ≠ 0 by omega)
      show f (ik_lp8 f n) (s1 j) (s2 j) (s3 j) (s4 j) (s5 j) (s6 j) (s7 j) (s8 j) = K
      rw [hs _ j (by omega)]
      exact ih (j + 1) (by omega) n (by omega)
  exact key N 0 (by omega) n hn
theorem lp_for9 {α1 α2 α3 α4 α5 α6 α7 α8 α9 ρ : Type} {f : (α1 → α2 → α3 → α4 → α5 → α6 → α7 → α8 → α9 → Option ρ) → α1 → α2 → α3 → α4 → α5 → α6 → α7 → α8 → α9 → Option ρ} (s1 : Nat → α1) (s2 : Nat → α2) (s3 : Nat → α3) (s4 : Nat → α4) (s5 : Nat → α5) (s6 : Nat → α6) (s7 : Nat → α7) (s8 : Nat → α8) (s9 : Nat → α9) (K : Option ρ) (N : Nat) (hs : ∀ (rc : α1 → α2 → α3 → α4 → α5 → α6 → α7 → α8 → α9 → Option ρ) (b : Nat), b < N → f rc (s1 b) (s2 b) (s3 b) (s4 b) (s5 b) (s6 b) (s7 b) (s8 b) (s9 b) = rc (s1 (b + 1)) (s2 (b + 1)) (s3 (b + 1)) (s4 (b + 1)) (s5 (b + 1)) (s6 (b + 1)) (s7 (b + 1)) (s8 (b + 1)) (s9 (b + 1))) (he : ∀ rc : α1 → α2 → α3 → α4 → α5 → α6 → α7 → α8 → α9 → Option ρ, f rc (s1 N) (s2 N) (s3 N) (s4 N) (s5 N) (s6 N) (s7 N) (s8 N) (s9 N) = K) {n : Nat} (hn : N < n) : ik_lp9 f n (s1 0) (s2 0) (s3 0) (s4 0) (s5 0) (s6 0) (s7 0) (s8 0) (s9 0) = K := by
  have key : ∀ (d j : Nat), j + d = N → ∀ n, d < n → ik_lp9 f n (s1 j) (s2 j) (s3 j) (s4 j) (s5 j) (s6 j) (s7 j) (s8 j) (s9 j) = K := by
    intro d
    induction d with
    | zero =>
      intro j hj n hn
      obtain ⟨n, rfl⟩ := Nat.exists_eq_succ_of_ne_zero (show n ≠ 0 by omega)
      have hjN : j = N := by omega
      subst hjN
      exact he _
    | succ d ih =>
      intro j hj n hn
      obtain ⟨n, rfl⟩ := Nat.exists_eq_succ_of_ne_zero (show n ≠ 0 by omega)
      show f (ik_lp9 f n) (s1 j) (s2 j) (s3 j) (s4 j) (s5 j) (s6 j) (s7 j) (s8 j) (s9 j) = K
      rw [hs _ j (by omega)]
      exact ih (j + 1) (by omega) n (by omega)
  exact key N 0 (by omega) n hn
theorem lp_for10 {α1 α2 α3 α4 α5 α6 α7 α8 α9 α10 ρ : Type} {f : (α1 → α2 → α3 → α4 → α5 → α6 → α7 → α8 → α9 → α10 → Option ρ) → α1 → α2 → α3 → α4 → α5 → α6 → α7 → α8 → α9 → α10 → Option ρ} (s1 : Nat → α1) (s2 : Nat → α2) (s3 : Nat → α3) (s4 : Nat → α4) (s5 : Nat → α5) (s6 : Nat → α6) (s7 : Nat → α7) (s8 : Nat → α8) (s9 : Nat → α9) (s10 : Nat → α10) (K : Option ρ) (N : Nat) (hs : ∀ (rc : α1 → α2 → α3 → α4 → α5 → α6 → α7 → α8 → α9 → α10 → Option ρ) (b : Nat), b < N → f rc (s1 b) (s2 b) (s3 b) (s4 b) (s5 b) (s6 b) (s7 b) (s8 b) (s9 b) (s10 b) = rc (s1 (b + 1)) (s2 (b + 1)) (s3 (b + 1)) (s4 (b + 1)) (s5 (b + 1)) (s6 (b + 1)) (s7 (b + 1)) (s8 (b + 1)) (s9 (b + 1)) (s10 (b + 1))) (he : ∀ rc : α1 → α2 → α3 → α4 → α5 → α6 → α7 → α8 → α9 → α10 → Option ρ, f rc (s1 N) (s2 N) (s3 N) (s4 N) (s5 N) (s6 N) (s7 N) (s8 N) (s9 N) (s10 N) = K) {n : Nat} (hn : N < n) : ik_lp10 f n (s1 0) (s2 0) (s3 0) (s4 0) (s5 0) (s6 0) (s7 0) (s8 0) (s9 0) (s10 0) = K := by
  have key : ∀ (d j : Nat), j + d = N → ∀ n, d < n → ik_lp10 f n (s1 j) (s2 j) (s3 j) (s4 j) (s5 j) (s6 j) (s7 j) (s8 j) (s9 j) (s10 j) = K := by
    intro d
    induction d with
    | zero =>
      intro j hj n hn
      obtain ⟨n, rfl⟩ := Nat.exists_eq_succ_of_ne_zero (show n ≠ 0 by omega)
      have hjN : j = N := by omega
      subst hjN
      exact he _
    | succ d ih =>
      intro j hj n hn
      obtain ⟨n, rfl⟩ := Nat.exists_eq_succ_of_ne_zero (show n ≠ 0 by omega)
      show f (ik_lp10 f n) (s1 j) (s2 j) (s3 j) (s4 j) (s5 j) (s6 j) (s7 j) (s8 j) (s9 j) (s10 j) = K
      rw [hs _ j (by omega)]
      exact ih (j + 1) (by omega) n (by omega)
  exact key N 0 (by omega) n hn
theorem pu_b1 {α1 ρ : Type} {k : α1 → Option ρ} {a1 : α1} : ik_b1 (some (a1)) k = k a1 := rfl
theorem pu_b2 {α1 α2 ρ : Type} {k : α1 → α2 → Option ρ} {a1 : α1} {a2 : α2} : ik_b2 (some (a1, a2)) k = k a1 a2 := rfl
theorem pu_b3 {α1 α2 α3 ρ : Type} {k : α1 → α2 → α3 → Option ρ} {a1 : α1} {a2 : α2} {a3 : α3} : ik_b3 (some (a1, a2, a3)) k = k a1 a2 a3 := rfl
theorem pu_b4 {α1 α2 α3 α4 ρ : Type} {k : α1 → α2 → α3 → α4 → Option ρ} {a1 : α1} {a2 : α2} {a3 : α3} {a4 : α4} : ik_b4 (some (a1, a2, a3, a4)) k = k a1 a2 a3 a4 := rfl
theorem pu_b5 {α1 α2 α3 α4 α5 ρ : Type} {k : α1 → α2 → α3 → α4 → α5 → Option ρ} {a1 : α1} {a2 : α2} {a3 : α3} {a4 : α4} {a5 : α5} : ik_b5 (some (a1, a2, a3, a4, a5)) k = k a1 a2 a3 a4 a5 := rfl
theorem pu_b6 {α1 α2 α3 α4 α5 α6 ρ : Type} {k : α1 → α2 → α3 → α4 → α5 → α6 → Option ρ} {a1 : α1} {a2 : α2} {a3 : α3} {a4 : α4} {a5 : α5} {a6 : α6} : ik_b6 (some (a1, a2, a3, a4, a5, a6)) k = k a1 a2 a3 a4 a5 a6 := rfl
theorem pu_b7 {α1 α2 α3 α4 α5 α6 α7 ρ : Type} {k : α1 → α2 → α3 → α4 → α5 → α6 → α7 → Option ρ} {a1 : α1} {a2 : α2} {a3 : α3} {a4 : α4} {a5 : α5} {a6 : α6} {a7 : α7} : ik_b7 (some (a1, a2, a3, a4, a5, a6, a7)) k = k a1 a2 a3 a4 a5 a6 a7 := rfl
theorem pu_b8 {α1 α2 α3 α4 α5 α6 α7 α8 ρ : Type} {k : α1 → α2 → α3 → α4 → α5 → α6 → α7 → α8 → Option ρ} {a1 : α1} {a2 : α2} {a3 : α3} {a4 : α4} {a5 : α5} {a6 : α6} {a7 : α7} {a8 : α8} : ik_b8 (some (a1, a2, a3, a4, a5, a6, a7, a8)) k = k a1 a2 a3 a4 a5 a6 a7 a8 := rfl
theorem pu_b9 {α1 α2 α3 α4 α5 α6 α7 α8 α9 ρ : Type} {k : α1 → α2 → α3 → α4 → α5 → α6 → α7 → α8 → α9 → Option ρ} {a1 : α1} {a2 : α2} {a3 : α3} {a4 : α4} {a5 : α5} {a6 : α6} {a7 : α7} {a8 : α8} {a9 : α9} : ik_b9 (some (a1, a2, a3, a4, a5, a6, a7, a8, a9)) k = k a1 a2 a3 a4 a5 a6 a7 a8 a9 := rfl
theorem pu_b10 {α1 α2 α3 α4 α5 α6 α7 α8 α9 α10 ρ : Type} {k : α1 → α2 → α3 → α4 → α5 → α6 → α7 → α8 → α9 → α10 → Option ρ} {a1 : α1} {a2 : α2} {a3 : α3} {a4 : α4} {a5 : α5} {a6 : α6} {a7 : α7} {a8 : α8} {a9 : α9} {a10 : α10} : ik_b10 (some (a1, a2, a3, a4, a5, a6, a7, a8, a9, a10)) k = k a1 a2 a3 a4 a5 a6 a7 a8 a9 a10 := rfl
theorem pu_b11 {α1 α2 α3 α4 α5 α6 α7 α8 α9 α10 α11 ρ : Type} {k : α1 → α2 → α3 → α4 → α5 → α6 → α7 → α8 → α9 → α10 → α11 → Option ρ} {a1 : α1} {a2 : α2} {a3 : α3} {a4 : α4} {a5 : α5} {a6 : α6} {a7 : α7} {a8 : α8} {a9 : α9} {a10 : α10} {a11 : α11} : ik_b11 (some (a1, a2, a3, a4, a5, a6, a7, a8, a9, a10, a11)) k = k a1 a2 a3 a4 a5 a6 a7 a8 a9 a10 a11 := rfl
theorem pu_b12 {α1 α2 α3 α4 α5 α6 α7 α8 α9 α10 α11 α12 ρ : Type} {k : α1 → α2 → α3 → α4 → α5 → α6 → α7 → α8 → α9 → α10 → α11 → α12 → Option ρ} {a1 : α1} {a2 : α2} {a3 : α3} {a4 : α4} {a5 : α5} {a6 : α6} {a7 : α7} {a8 : α8} {a9 : α9} {a10 : α10} {a11 : α11} {a12 : α12} : ik_b12 (some (a1, a2, a3, a4, a5, a6, a7, a8, a9, a10, a11, a12)) k = k a1 a2 a3 a4 a5 a6 a7 a8 a9 a10 a11 a12 := rfl
theorem pu_b13 {α1 α2 α3 α4 α5 α6 α7 α8 α9 α10 α11 α12 α13 ρ : Type} {k : α1 → α2 → α3 → α4 → α5 → α6 → α7 → α8 → α9 → α10 → α11 → α12 → α13 → Option ρ} {a1 : α1} {a2 : α2} {a3 : α3} {a4 : α4} {a5 : α5} {a6 : α6} {a7 : α7} {a8 : α8} {a9 : α9} {a10 : α10} {a11 : α11} {a12 : α12} {a13 : α13} : ik_b13 (some (a1, a2, a3, a4, a5, a6, a7, a8, a9, a10, a11, a12, a13)) k = k a1 a2 a3 a4 a5 a6 a7 a8 a9 a10 a11 a12 a13 := rfl
theorem pu_b14 {α1 α2 α3 α4 α5 α6 α7 α8 α9 α10 α11 α12 α13 α14 ρ : Type} {k : α1 → α2 → α3 → α4 → α5 → α6 → α7 → α8 → α9 → α10 → α11 → α12 → α13 → α14 → Option ρ} {a1 : α1} {a2 : α2} {a3 : α3} {a4 : α4} {a5 : α5} {a6 : α6} {a7 : α7} {a8 : α8} {a9 : α9} {a10 : α10} {a11 : α11} {a12 : α12} {a13 : α13} {a14 : α14} : ik_b14 (some (a1, a2, a3, a4, a5, a6, a7, a8, a9, a10, a11, a12, a13, a14)) k = k a1 a2 a3 a4 a5 a6 a7 a8 a9 a10 a11 a12 a13 a14 := rfl
theorem pu_b15 {α1 α2 α3 α4 α5 α6 α7 α8 α9 α10 α11 α12 α13 α14 α15 ρ : Type} {k : α1 → α2 → α3 → α4 → α5 → α6 → α7 → α8 → α9 → α10 → α11 → α12 → α13 → α14 → α15 → Option ρ} {a1 : α1} {a2 : α2} {a3 : α3} {a4 : α4} {a5 : α5} {a6 : α6} {a7 : α7} {a8 : α8} {a9 : α9} {a10 : α10} {a11 : α11} {a12 : α12} {a13 : α13} {a14 : α14} {a15 : α15} : ik_b15 (some (a1, a2, a3, a4, a5, a6, a7, a8, a9, a10, a11, a12, a13, a14, a15)) k = k a1 a2 a3 a4 a5 a6 a7 a8 a9 a10 a11 a12 a13 a14 a15 := rfl
theorem pu_b16 {α1 α2 α3 α4 α5 α6 α7 α8 α9 α10 α11 α12 α13 α14 α15 α16 ρ : Type} {k : α1 → α2 → α3 → α4 → α5 → α6 → α7 → α8 → α9 → α10 → α11 → α12 → α13 → α14 → α15 → α16 → Option ρ} {a1 : α1} {a2 : α2} {a3 : α3} {a4 : α4} {a5 : α5} {a6 : α6} {a7 : α7} {a8 : α8} {a9 : α9} {a10 : α10} {a11 : α11} {a12 : α12} {a13 : α13} {a14 : α14} {a15 : α15} {a16 : α16} : ik_b16 (some (a1, a2, a3, a4, a5, a6, a7, a8, a9, a10, a11, a12, a13, a14, a15, a16)) k = k a1 a2 a3 a4 a5 a6 a7 a8 a9 a10 a11 a12 a13 a14 a15 a16 := rfl
theorem pu_b17 {α1 α2 α3 α4 α5 α6 α7 α8 α9 α10 α11 α12 α13 α14 α15 α16 α17 ρ : Type} {k : α1 → α2 → α3 → α4 → α5 → α6 → α7 → α8 → α9 → α10 → α11 → α12 → α13 → α14 → α15 → α16 → α17 → Option ρ} {a1 : α1} {a2 : α2} {a3 : α3} {a4 : α4} {a5 : α5} {a6 : α6} {a7 : α7} {a8 : α8} {a9 : α9} {a10 : α10} {a11 : α11} {a12 : α12} {a13 : α13} {a14 : α14} {a15 : α15} {a16 : α16} {a17 : α17} : ik_b17 (some (a1, a2, a3, a4, a5, a6, a7, a8, a9, a10, a11, a12, a13, a14, a15, a16, a17)) k = k a1 a2 a3 a4 a5 a6 a7 a8 a9 a10 a11 a12 a13 a14 a15 a16 a17 := rfl
theorem pu_b18 {α1 α2 α3 α4 α5 α6 α7 α8 α9 α10 α11 α12 α13 α14 α15 α16 α17 α18 ρ : Type} {k : α1 → α2 → α3 → α4 → α5 → α6 → α7 → α8 → α9 → α10 → α11 → α12 → α13 → α14 → α15 → α16 → α17 → α18 → Option ρ} {a1 : α1} {a2 : α2} {a3 : α3} {a4 : α4} {a5 : α5} {a6 : α6} {a7 : α7} {a8 : α8} {a9 : α9} {a10 : α10} {a11 : α11} {a12 : α12} {a13 : α13} {a14 : α14} {a15 : α15} {a16 : α16} {a17 : α17} {a18 : α18} : ik_b18 (some (a1, a2, a3, a4, a5, a6, a7, a8, a9, a10, a11, a12, a13, a14, a15, a16, a17, a18)) k = k a1 a2 a3 a4 a5 a6 a7 a8 a9 a10 a11 a12 a13 a14 a15 a16 a17 a18 := rfl
theorem pu_b19 {α1 α2 α3 α4 α5 α6 α7 α8 α9 α10 α11 α12 α13 α14 α15 α16 α17 α18 α19 ρ : Type} {k : α1 → α2 → α3 → α4 → α5 → α6 → α7 → α8 → α9 → α10 → α11 → α12 → α13 → α14 → α15 → α16 → α17 → α18 → α19 → Option ρ} {a1 : α1} {a2 : α2} {a3 : α3} {a4 : α4} {a5 : α5} {a6 : α6} {a7 : α7} {a8 : α8} {a9 : α9} {a10 : α10} {a11 : α11} {a12 : α12} {a13 : α13} {a14 : α14} {a15 : α15} {a16 : α16} {a17 : α17} {a18 : α18} {a19 : α19} : ik_b19 (some (a1, a2, a3, a4, a5, a6, a7, a8, a9, a10, a11, a12, a13, a14, a15, a16, a17, a18, a19)) k = k a1 a2 a3 a4 a5 a6 a7 a8 a9 a10 a11 a12 a13 a14 a15 a16 a17 a18 a19 := rfl
theorem pu_b20 {α1 α2 α3 α4 α5 α6 α7 α8 α9 α10 α11 α12 α13 α14 α15 α16 α17 α18 α19 α20 ρ : Type} {k : α1 → α2 → α3 → α4 → α5 → α6 → α7 → α8 → α9 → α10 → α11 → α12 → α13 → α14 → α15 → α16 → α17 → α18 → α19 → α20 → Option ρ} {a1 : α1} {a2 : α2} {a3 : α3} {a4 : α4} {a5 : α5} {a6 : α6} {a7 : α7} {a8 : α8} {a9 : α9} {a10 : α10} {a11 : α11} {a12 : α12} {a13 : α13} {a14 : α14} {a15 : α15} {a16 : α16} {a17 : α17} {a18 : α18} {a19 : α19} {a20 : α20} : ik_b20 (some (a1, a2, a3, a4, a5, a6, a7, a8, a9, a10, a11, a12, a13, a14, a15, a16, a17, a18, a19, a20)) k = k a1 a2 a3 a4 a5 a6 a7 a8 a9 a10 a11 a12 a13 a14 a15 a16 a17 a18 a19 a20 := rfl
theorem pu_b21 {α1 α2 α3 α4 α5 α6 α7 α8 α9 α10 α11 α12 α13 α14 α15 α16 α17 α18 α19 α20 α21 ρ : Type} {k : α1 → α2 → α3 → α4 → α5 → α6 → α7 → α8 → α9 → α10 → α11 → α12 → α13 → α14 → α15 → α16 → α17 → α18 → α19 → α20 → α21 → Option ρ} {a1 : α1} {a2 : α2} {a3 : α3} {a4 : α4} {a5 : α5} {a6 : α6} {a7 : α7} {a8 : α8} {a9 : α9} {a10 : α10} {a11 : α11} {a12 : α12} {a13 : α13} {a14 : α14} {a15 : α15} {a16 : α16} {a17 : α17} {a18 : α18} {a19 : α19} {a20 : α20} {a21 : α21} : ik_b21 (some (a1, a2, a3, a4, a5, a6, a7, a8, a9, a10, a11, a12, a13, a14, a15, a16, a17, a18, a19, a20, a21)) k = k a1 a2 a3 a4 a5 a6 a7 a8 a9 a10 a11 a12 a13 a14 a15 a16 a17 a18 a19 a20 a21 := rfl
theorem pu_b22 {α1 α2 α3 α4 α5 α6 α7 α8 α9 α10 α11 α12 α13 α14 α15 α16 α17 α18 α19 α20 α21 α22 ρ : Type} {k : α1 → α2 → α3 → α4 → α5 → α6 → α7 → α8 → α9 → α10 → α11 → α12 → α13 → α14 → α15 → α16 → α17 → α18 → α19 → α20 → α21 → α22 → Option ρ} {a1 : α1} {a2 : α2} {a3 : α3} {a4 : α4} {a5 : α5} {a6 : α6} {a7 : α7} {a8 : α8} {a9 : α9} {a10 : α10} {a11 : α11} {a12 : α12} {a13 : α13} {a14 : α14} {a15 : α15} {a16 : α16} {a17 : α17} {a18 : α18} {a19 : α19} {a20 : α20} {a21 : α21} {a22 : α22} : ik_b22 (some (a1, a2, a3, a4, a5, a6, a7, a8, a9, a10, a11, a12, a13, a14, a15, a16, a17, a18, a19, a20, a21, a22)) k = k a1 a2 a3 a4 a5 a6 a7 a8 a9 a10 a11 a12 a13 a14 a15 a16 a17 a18 a19 a20 a21 a22 := rfl
theorem pu_b23 {α1 α2 α3 α4 α5 α6 α7 α8 α9 α10 α11 α12 α13 α14 α15 α16 α17 α18 α19 α20 α21 α22 α23 ρ : Type} {k : α1 → α2 → α3 → α4 → α5 → α6 → α7 → α8 → α9 → α10 → α11 → α12 → α13 → α14 → α15 → α16 → α17 → α18 → α19 → α20 → α21 → α22 → α23 → Option ρ} {a1 : α1} {a2 : α2} {a3 : α3} {a4 : α4} {a5 : α5} {a6 : α6} {a7 : α7} {a8 : α8} {a9 : α9} {a10 : α10} {a11 : α11} {a12 : α12} {a13 : α13} {a14 : α14} {a15 : α15} {a16 : α16} {a17 : α17} {a18 : α18} {a19 : α19} {a20 : α20} {a21 : α21} {a22 : α22} {a23 : α23} : ik_b23 (some (a1, a2, a3, a4, a5, a6, a7, a8, a9, a10, a11, a12, a13, a14, a15, a16, a17, a18, a19, a20, a21, a22, a23)) k = k a1 a2 a3 a4 a5 a6 a7 a8 a9 a10 a11 a12 a13 a14 a15 a16 a17 a18 a19 a20 a21 a22 a23 := rfl
theorem pu_b24 {α1 α2 α3 α4 α5 α6 α7 α8 α9 α10 α11 α12 α13 α14 α15 α16 α17 α18 α19 α20 α21 α22 α23 α24 ρ : Type} {k : α1 → α2 → α3 → α4 → α5 → α6 → α7 → α8 → α9 → α10 → α11 → α12 → α13 → α14 → α15 → α16 → α17 → α18 → α19 → α20 → α21 → α22 → α23 → α24 → Option ρ} {a1 : α1} {a2 : α2} {a3 : α3} {a4 : α4} {a5 : α5} {a6 : α6} {a7 : α7} {a8 : α8} {a9 : α9} {a10 : α10} {a11 : α11} {a12 : α12} {a13 : α13} {a14 : α14} {a15 : α15} {a16 : α16} {a17 : α17} {a18 : α18} {a19 : α19} {a20 : α20} {a21 : α21} {a22 : α22} {a23 : α23} {a24 : α24} : ik_b24 (some (a1, a2, a3, a4, a5, a6, a7, a8, a9, a10, a11, a12, a13, a14, a15, a16, a17, a18, a19, a20, a21, a22, a23, a24)) k = k a1 a2 a3 a4 a5 a6 a7 a8 a9 a10 a11 a12 a13 a14 a15 a16 a17 a18 a19 a20 a21 a22 a23 a24 := rfl
theorem pu_b25 {α1 α2 α3 α4 α5 α6 α7 α8 α9 α10 α11 α12 α13 α14 α15 α16 α17 α18 α19 α20 α21 α22 α23 α24 α25 ρ : Type} {k : α1 → α2 → α3 → α4 → α5 → α6 → α7 → α8 → α9 → α10 → α11 → α12 → α13 → α14 → α15 → α16 → α17 → α18 → α19 → α20 → α21 → α22 → α23 → α24 → α25 → Option ρ} {a1 : α1} {a2 : α2} {a3 : α3} {a4 : α4} {a5 : α5} {a6 : α6} {a7 : α7} {a8 : α8} {a9 : α9} {a10 : α10} {a11 : α11} {a12 : α12} {a13 : α13} {a14 : α14} {a15 : α15} {a16 : α16} {a17 : α17} {a18 : α18} {a19 : α19} {a20 : α20} {a21 : α21} {a22 : α22} {a23 : α23} {a24 : α24} {a25 : α25} : ik_b25 (some (a1, a2, a3, a4, a5, a6, a7, a8, a9, a10, a11, a12, a13, a14, a15, a16, a17, a18, a19, a20, a21, a22, a23, a24, a25)) k = k a1 a2 a3 a4 a5 a6 a7 a8 a9 a10 a11 a12 a13 a14 a15 a16 a17 a18 a19 a20 a21 a22 a23 a24 a25 := rfl
theorem pu_b26 {α1 α2 α3 α4 α5 α6 α7 α8 α9 α10 α11 α12 α13 α14 α15 α16 α17 α18 α19 α20 α21 α22 α23 α24 α25 α26 ρ : Type} {k : α1 → α2 → α3 → α4 → α5 → α6 → α7 → α8 → α9 → α10 → α11 → α12 → α13 → α14 → α15 → α16 → α17 → α18 → α19 → α20 → α21 → α22 → α23 → α24 → α25 → α26 → Option ρ} {a1 : α1} {a2 : α2} {a3 : α3} {a4 : α4} {a5 : α5} {a6 : α6} {a7 : α7} {a8 : α8} {a9 : α9} {a10 : α10} {a11 : α11} {a12 : α12} {a13 : α13} {a14 : α14} {a15 : α15} {a16 : α16} {a17 : α17} {a18 : α18} {a19 : α19} {a20 : α20} {a21 : α21} {a22 : α22} {a23 : α23} {a24 : α24} {a25 : α25} {a26 : α26} : ik_b26 (some (a1, a2, a3, a4, a5, a6, a7, a8, a9, a10, a11, a12, a13, a14, a15, a16, a17, a18, a19, a20, a21, a22, a23, a24, a25, a26)) k = k a1 a2 a3 a4 a5 a6 a7 a8 a9 a10 a11 a12 a13 a14 a15 a16 a17 a18 a19 a20 a21 a22 a23 a24 a25 a26 := rfl
theorem pu_b27 {α1 α2 α3 α4 α5 α6 α7 α8 α9 α10 α11 α12 α13 α14 α15 α16 α17 α18 α19 α20 α21 α22 α23 α24 α25 α26 α27 ρ : Type} {k : α1 → α2 → α3 → α4 → α5 → α6 → α7 → α8 → α9 → α10 → α11 → α12 → α13 → α14 → α15 → α16 → α17 → α18 → α19 → α20 → α21 → α22 → α23 → α24 → α25 → α26 → α27 → Option ρ} {a1 : α1} {a2 : α2} {a3 : α3} {a4 : α4} {a5 : α5} {a6 : α6} {a7 : α7} {a8 : α8} {a9 : α9} {a10 : α10} {a11 : α11} {a12 : α12} {a13 : α13} {a14 : α14} {a15 : α15} {a16 : α16} {a17 : α17} {a18 : α18} {a19 : α19} {a20 : α20} {a21 : α21} {a22 : α22} {a23 : α23} {a24 : α24} {a25 : α25} {a26 : α26} {a27 : α27} : ik_b27 (some (a1, a2, a3, a4, a5, a6, a7, a8, a9, a10, a11, a12, a13, a14, a15, a16, a17, a18, a19, a20, a21, a22, a23, a24, a25, a26, a27)) k = k a1 a2 a3 a4 a5 a6 a7 a8 a9 a10 a11 a12 a13 a14 a15 a16 a17 a18 a19 a20 a21 a22 a23 a24 a25 a26 a27 := rfl
theorem pu_b28 {α1 α2 α3 α4 α5 α6 α7 α8 α9 α10 α11 α12 α13 α14 α15 α16 α17 α18 α19 α20 α21 α22 α23 α24 α25 α26 α27 α28 ρ : Type} {k : α1 → α2 → α3 → α4 → α5 → α6 → α7 → α8 → α9 → α10 → α11 → α12 → α13 → α14 → α15 → α16 → α17 → α18 → α19 → α20 → α21 → α22 → α23 → α24 → α25 → α26 → α27 → α28 → Option ρ} {a1 : α1} {a2 : α2} {a3 : α3} {a4 : α4} {a5 : α5} {a6 : α6} {a7 : α7} {a8 : α8} {a9 : α9} {a10 : α10} {a11 : α11} {a12 : α12} {a13 : α13} {a14 : α14} {a15 : α15} {a16 : α16} {a17 : α17} {a18 : α18} {a19 : α19} {a20 : α20} {a21 : α21} {a22 : α22} {a23 : α23} {a24 : α24} {a25 : α25} {a26 : α26} {a27 : α27} {a28 : α28} : ik_b28 (some (a1, a2, a3, a4, a5, a6, a7, a8, a9, a10, a11, a12, a13, a14, a15, a16, a17, a18, a19, a20, a21, a22, a23, a24, a25, a26, a27, a28)) k = k a1 a2 a3 a4 a5 a6 a7 a8 a9 a10 a11 a12 a13 a14 a15 a16 a17 a18 a19 a20 a21 a22 a23 a24 a25 a26 a27 a28 := rfl
theorem pu_b29 {α1 α2 α3 α4 α5 α6 α7 α8 α9 α10 α11 α12 α13 α14 α15 α16 α17 α18 α19 α20 α21 α22 α23 α24 α25 α26 α27 α28 α29 ρ : Type} {k : α1 → α2 → α3 → α4 → α5 → α6 → α7 → α8 → α9 → α10 → α11 → α12 → α13 → α14 → α15 → α16 → α17 → α18 → α19 → α20 → α21 → α22 → α23 → α24 → α25 → α26 → α27 → α28 → α29 → Option ρ} {a1 : α1} {a2 : α2} {a3 : α3} {a4 : α4} {a5 : α5} {a6 : α6} {a7 : α7} {a8 : α8} {a9 : α9} {a10 : α10} {a11 : α11} {a12 : α12} {a13 : α13} {a14 : α14} {a15 : α15} {a16 : α16} {a17 : α17} {a18 : α18} {a19 : α19} {a20 : α20} {a21 : α21} {a22 : α22} {a23 : α23} {a24 : α24} {a25 : α25} {a26 : α26} {a27 : α27} {a28 : α28} {a29 : α29} : ik_b29 (some (a1, a2, a3, a4, a5, a6, a7, a8, a9, a10, a11, a12, a13, a14, a15, a16, a17, a18, a19, a20, a21, a22, a23, a24, a25, a26, a27, a28, a29)) k = k a1 a2 a3 a4 a5 a6 a7 a8 a9 a10 a11 a12 a13 a14 a15 a16 a17 a18 a19 a20 a21 a22 a23 a24 a25 a26 a27 a28 a29 := rfl
theorem pu_b30 {α1 α2 α3 α4 α5 α6 α7 α8 α9 α10 α11 α12 α13 α14 α15 α16 α17 α18 α19 α20 α21 α22 α23 α24 α25 α26 α27 α28 α29 α30 ρ : Type} {k : α1 → α2 → α3 → α4 → α5 → α6 → α7 → α8 → α9 → α10 → α11 → α12 → α13 → α14 → α15 → α16 → α17 → α18 → α19 → α20 → α21 → α22 → α23 → α24 → α25 → α26 → α27 → α28 → α29 → α30 → Option ρ} {a1 : α1} {a2 : α2} {a3 : α3} {a4 : α4} {a5 : α5} {a6 : α6} {a7 : α7} {a8 : α8} {a9 : α9} {a10 : α10} {a11 : α11} {a12 : α12} {a13 : α13} {a14 : α14} {a15 : α15} {a16 : α16} {a17 : α17} {a18 : α18} {a19 : α19} {a20 : α20} {a21 : α21} {a22 : α22} {a23 : α23} {a24 : α24} {a25 : α25} {a26 : α26} {a27 : α27} {a28 : α28} {a29 : α29} {a30 : α30} : ik_b30 (some (a1, a2, a3, a4, a5, a6, a7, a8, a9, a10, a11, a12, a13, a14, a15, a16, a17, a18, a19, a20, a21, a22, a23, a24, a25, a26, a27, a28, a29, a30)) k = k a1 a2 a3 a4 a5 a6 a7 a8 a9 a10 a11 a12 a13 a14 a15 a16 a17 a18 a19 a20 a21 a22 a23 a24 a25 a26 a27 a28 a29 a30 := rfl
theorem pu_fu {n : Nat} (h : n < 4000) : n < ik_fu := by unfold ik_fu; omega
theorem pu_gd {α : Type} {i : Int32} {n : Nat} {k : Option α} (h : 0 ≤ i.toInt ∧ i.toInt < n) : ik_gd i n k = k := by unfold ik_gd; rw [if_pos h]
theorem pu_gdN {α : Type} {b n : Nat} {k : Option α} (h : b < n) (hn : n < 2 ^ 31) : ik_gd (nI b) n k = k := pu_gd (by rw [nI_toInt (by omega)]; omega)
theorem pu_gn {α : Type} {d : Int32} {k : Option α} (h : ¬ d = 0) : ik_gn d k = k := by unfold ik_gn; rw [if_neg h]
theorem pu_nv {α β : Type} {a : α} {k : α → Option β} : ik_nv a k = k a := rfl
/-- 1 or 0 -/
def bI (p : Bool) : Int32 := if p then 1 else 0
theorem bI_0 (p : Bool) : (bI p = 0) ↔ p = false := by cases p <;> decide
theorem bI_1 (p : Bool) : (bI p = 1) ↔ p = true := by cases p <;> decide
theorem bI_t : bI true = 1 := rfl
theorem bI_f : bI false = 0 := rfl
theorem pu_gz {α : Type} {p : Bool} {k : Option α} : ik_gz (bI p) k = k := by unfold ik_gz; cases p <;> rfl
theorem pu_ifb {α : Type} {p : Bool} {x y : α} : (if bI p = 0 then x else y) = (if p then y else x) := by cases p <;> rfl
theorem pu_ifi {c : Prop} [Decidable c] : (if c then some (1 : Int32) else some (0 : Int32)) = some (bI (decide c)) := by by_cases h : c <;> simp [h, bI]
theorem pu_ifn {c : Prop} [Decidable c] : (if c then some (0 : Int32) else some (1 : Int32)) = some (bI (!decide c)) := by by_cases h : c <;> simp [h, bI]
/-- within, by the numbers -/
def wn (x : Int32) (lo hi : Int) : Bool := decide (lo ≤ x.toInt ∧ x.toInt ≤ hi)
theorem pu_within (x lo hi : Int32) : f_X6_isWithin x lo hi = some (bI (wn x lo.toInt hi.toInt)) := by
  unfold f_X6_isWithin wn
  by_cases h1 : x < lo
  · have := Int32.lt_iff_toInt_lt.mp h1
    rw [if_pos h1, show decide (lo.toInt ≤ x.toInt ∧ x.toInt ≤ hi.toInt) = false from decide_eq_false (by omega)]; rfl
  · rw [if_neg h1]
    have h1' : ¬ x.toInt < lo.toInt := fun h => h1 (Int32.lt_iff_toInt_lt.mpr h)
    by_cases h2 : hi < x
    · have := Int32.lt_iff_toInt_lt.mp h2
      rw [if_pos h2, show decide (lo.toInt ≤ x.toInt ∧ x.toInt ≤ hi.toInt) = false from decide_eq_false (by omega)]; rfl
    · have h2' : ¬ hi.toInt < x.toInt := fun h => h2 (Int32.lt_iff_toInt_lt.mpr h)
      rw [if_neg h2, show decide (lo.toInt ≤ x.toInt ∧ x.toInt ≤ hi.toInt) = true from decide_eq_true (by omega)]; rfl
theorem pu_in (x y z : Int64) : f_X7_in x y z = some (bI (decide (y.toInt ≤ x.toInt ∧ x.toInt ≤ z.toInt))) := by
  unfold f_X7_in lg_cmp
  by_cases h1 : x < y
  · have h := Int64.lt_iff_toInt_lt.mp h1
    have a1 : ¬ x > y := fun g => by have := Int64.lt_iff_toInt_lt.mp g; omega
    have a2 : ¬ x = y := fun g => by subst g; omega
    rw [if_neg a1, if_neg a2, if_pos (by decide), show decide (y.toInt ≤ x.toInt ∧ x.toInt ≤ z.toInt) = false from decide_eq_false (by omega)]; rfl
  · have h1' : y.toInt ≤ x.toInt := by
      have : ¬ x.toInt < y.toInt := fun h => h1 (Int64.lt_iff_toInt_lt.mpr h)
      omega
    have c1 : ¬ (if x > y then (1 : Int32) else if x = y then 0 else -1) < 0 := by
      by_cases g : x > y
      · rw [if_pos g]; decide
      · rw [if_neg g]
        have e : x = y := Int64.toInt_inj.mp (by have : ¬ y.toInt < x.toInt := fun h => g (Int64.lt_iff_toInt_lt.mpr h); omega)
        rw [if_pos e]; decide
    rw [if_neg c1]
    by_cases h2 : z < x
    · have h := Int64.lt_iff_toInt_lt.mp h2
      rw [if_pos (show x > z from h2), if_pos (by decide), show decide (y.toInt ≤ x.toInt ∧ x.toInt ≤ z.toInt) = false from decide_eq_false (by omega)]; rfl
    · have h2' : ¬ z.toInt < x.toInt := fun h => h2 (Int64.lt_iff_toInt_lt.mpr h)
      have c2 : ¬ (0 : Int32) < (if x > z then (1 : Int32) else if x = z then 0 else -1) := by
        rw [if_neg (show ¬ x > z from h2)]
        split <;> decide
      rw [if_neg c2, show decide (y.toInt ≤ x.toInt ∧ x.toInt ≤ z.toInt) = true from decide_eq_true (by omega)]; rfl
theorem pu_i64 (x : Int32) : x.toInt64.toInt = x.toInt := Int32.toInt_toInt64 x
theorem pu_in32 (x : Int32) (y z : Int64) : f_X7_in x.toInt64 y z = some (bI (wn x y.toInt z.toInt)) := by rw [pu_in, pu_i64]; rfl
theorem pu_6cell (x : Int32) : f_X6_isCell x = some (bI (wn x 0 47)) := by unfold f_X6_isCell; rw [pu_within, pu_b1, pu_gz]; rfl
theorem pu_6kind (x : Int32) : f_X6_isKind x = some (bI (wn x 0 6)) := by unfold f_X6_isKind; rw [pu_within, pu_b1, pu_gz]; rfl
theorem pu_6candle (x : Int32) : f_X6_isCandle x = some (bI (wn x 0 5)) := by unfold f_X6_isCandle; rw [pu_within, pu_b1, pu_gz]; rfl
theorem pu_6tune (x : Int32) : f_X6_isTune x = some (bI (wn x 2 9)) := by unfold f_X6_isTune; rw [pu_within, pu_b1, pu_gz]; rfl
theorem pu_6spot (x : Int32) : f_X6_isSpot x = some (bI (wn x 0 9)) := by unfold f_X6_isSpot; rw [pu_within, pu_b1, pu_gz]; rfl
theorem pu_6sheet (x : Int32) : f_X6_isSheet x = some (bI (wn x 0 3)) := by unfold f_X6_isSheet; rw [pu_within, pu_b1, pu_gz]; rfl
theorem pu_7cell (x : Int32) : f_X7_isCell x = some (bI (wn x 0 47)) := by unfold f_X7_isCell; rw [pu_in32, pu_b1, pu_gz]; rfl
theorem pu_7kind (x : Int32) : f_X7_isKind x = some (bI (wn x 0 6)) := by unfold f_X7_isKind; rw [pu_in32, pu_b1, pu_gz]; rfl
theorem pu_7candle (x : Int32) : f_X7_isCandle x = some (bI (wn x 0 5)) := by unfold f_X7_isCandle; rw [pu_in32, pu_b1, pu_gz]; rfl
theorem pu_7some (x : Int32) : f_X7_isSome x = some (bI (wn x 1 99)) := by unfold f_X7_isSome; rw [pu_in32, pu_b1, pu_gz]; rfl
theorem pu_7tune (x : Int32) : f_X7_isTune x = some (bI (wn x 2 9)) := by unfold f_X7_isTune; rw [pu_in32, pu_b1, pu_gz]; rfl
theorem pu_7sheet (x : Int32) : f_X7_isSheet x = some (bI (wn x 0 3)) := by unfold f_X7_isSheet; rw [pu_in32, pu_b1, pu_gz]; rfl
/-- a number within is a small one -/
theorem wn_nI {x : Int32} {hi : Nat} (h : wn x 0 hi = true) : ∃ j : Nat, j ≤ hi ∧ x = nI j := by
  have h := of_decide_eq_true h
  obtain ⟨j, hj, e⟩ := nI_of (x := x) (fun q => by have := Int32.lt_iff_toInt_lt.mp q; have z : (0 : Int32).toInt = 0 := rfl; omega)
  refine ⟨j, ?_, e⟩
  rw [e, nI_toInt hj] at h
  omega
/-- the finding told: which is counted -/
theorem pu_tell (fnd : Nat → Int32) (j : Nat) (hj : j < 7) (x : Int32) (hx : (-1000001 : Int32) - x = nI j) : f_X6_tell fnd x = some (x, upd fnd j (fnd j + 1)) := by
  unfold f_X6_tell
  rw [hx, pu_within, pu_b1, pu_ifb, show wn (nI j) (0 : Int32).toInt (6 : Int32).toInt = true from decide_eq_true (by rw [nI_toInt (by omega)]; have a : (0 : Int32).toInt = 0 := rfl; have b : (6 : Int32).toInt = 6 := rfl; omega), if_pos rfl, pu_gdN hj (by omega), pu_gdN hj (by omega), nI_clamp (by omega)]
theorem pu_finds (fnd : Nat → Int32) (j : Nat) (hj : j < 7) (x : Int32) (hx : (-1000001 : Int32) - x = nI j) : f_X7_finds fnd x = some (x, upd fnd j (fnd j + 1)) := by
  unfold f_X7_finds
  rw [hx, pu_gdN hj (by omega), pu_gdN hj (by omega), nI_clamp (by omega)]
theorem pu_t1 (fnd : Nat → Int32) : f_X6_tell fnd (-1000001) = some (-1000001, upd fnd 0 (fnd 0 + 1)) := pu_tell fnd 0 (by decide) _ (by decide)
theorem pu_t2 (fnd : Nat → Int32) : f_X6_tell fnd (-1000002) = some (-1000002, upd fnd 1 (fnd 1 + 1)) := pu_tell fnd 1 (by decide) _ (by decide)
theorem pu_t3 (fnd : Nat → Int32) : f_X6_tell fnd (-1000003) = some (-1000003, upd fnd 2 (fnd 2 + 1)) := pu_tell fnd 2 (by decide) _ (by decide)
theorem pu_t4 (fnd : Nat → Int32) : f_X6_tell fnd (-1000004) = some (-1000004, upd fnd 3 (fnd 3 + 1)) := pu_tell fnd 3 (by decide) _ (by decide)
theorem pu_t5 (fnd : Nat → Int32) : f_X6_tell fnd (-1000005) = some (-1000005, upd fnd 4 (fnd 4 + 1)) := pu_tell fnd 4 (by decide) _ (by decide)
theorem pu_t6 (fnd : Nat → Int32) : f_X6_tell fnd (-1000006) = some (-1000006, upd fnd 5 (fnd 5 + 1)) := pu_tell fnd 5 (by decide) _ (by decide)
theorem pu_t7 (fnd : Nat → Int32) : f_X6_tell fnd (-1000007) = some (-1000007, upd fnd 6 (fnd 6 + 1)) := pu_tell fnd 6 (by decide) _ (by decide)
theorem pu_m1 (fnd : Nat → Int32) : f_X7_finds fnd (-1000001) = some (-1000001, upd fnd 0 (fnd 0 + 1)) := pu_finds fnd 0 (by decide) _ (by decide)
theorem pu_m2 (fnd : Nat → Int32) : f_X7_finds fnd (-1000002) = some (-1000002, upd fnd 1 (fnd 1 + 1)) := pu_finds fnd 1 (by decide) _ (by decide)
theorem pu_m3 (fnd : Nat → Int32) : f_X7_finds fnd (-1000003) = some (-1000003, upd fnd 2 (fnd 2 + 1)) := pu_finds fnd 2 (by decide) _ (by decide)
theorem pu_m4 (fnd : Nat → Int32) : f_X7_finds fnd (-1000004) = some (-1000004, upd fnd 3 (fnd 3 + 1)) := pu_finds fnd 3 (by decide) _ (by decide)
theorem pu_m5 (fnd : Nat → Int32) : f_X7_finds fnd (-1000005) = some (-1000005, upd fnd 4 (fnd 4 + 1)) := pu_finds fnd 4 (by decide) _ (by decide)
theorem pu_m6 (fnd : Nat → Int32) : f_X7_finds fnd (-1000006) = some (-1000006, upd fnd 5 (fnd 5 + 1)) := pu_finds fnd 5 (by decide) _ (by decide)
theorem pu_m7 (fnd : Nat → Int32) : f_X7_finds fnd (-1000007) = some (-1000007, upd fnd 6 (fnd 6 + 1)) := pu_finds fnd 6 (by decide) _ (by decide)
