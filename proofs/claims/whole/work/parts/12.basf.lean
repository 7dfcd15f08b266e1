/-! loops: two side by side, by a relation of their states -/
theorem lp_unc2 {α1 α2 ρ : Type} (f : (α1 → α2 → Option ρ) → α1 → α2 → Option ρ) : ∀ (n : Nat) (a1 : α1) (a2 : α2), ik_lp2 f n a1 a2 = ik_lp1 (fun rc p => f (fun a1 a2 => rc (a1, a2)) p.1 p.2) n (a1, a2) := by
  intro n
  induction n with
  | zero => intro a1 a2; rfl
  | succ n ih =>
    intro a1 a2
    have e : ik_lp2 f n = fun a1 a2 => ik_lp1 (fun rc p => f (fun a1 a2 => rc (a1, a2)) p.1 p.2) n (a1, a2) := by
      funext a1 a2
      exact ih a1 a2
    show f (ik_lp2 f n) a1 a2 = _
    rw [e]
    rfl
theorem lp_unc3 {α1 α2 α3 ρ : Type} (f : (α1 → α2 → α3 → Option ρ) → α1 → α2 → α3 → Option ρ) : ∀ (n : Nat) (a1 : α1) (a2 : α2) (a3 : α3), ik_lp3 f n a1 a2 a3 = ik_lp1 (fun rc p => f (fun a1 a2 a3 => rc (a1, a2, a3)) p.1 p.2.1 p.2.2) n (a1, a2, a3) := by
  intro n
  induction n with
  | zero => intro a1 a2 a3; rfl
  | succ n ih =>
    intro a1 a2 a3
    have e : ik_lp3 f n = fun a1 a2 a3 => ik_lp1 (fun rc p => f (fun a1 a2 a3 => rc (a1, a2, a3)) p.1 p.2.1 p.2.2) n (a1, a2, a3) := by
      funext a1 a2 a3
      exact ih a1 a2 a3
    show f (ik_lp3 f n) a1 a2 a3 = _
    rw [e]
    rfl
theorem lp_unc4 {α1 α2 α3 α4 ρ : Type} (f : (α1 → α2 → α3 → α4 → Option ρ) → α1 → α2 → α3 → α4 → Option ρ) : ∀ (n : Nat) (a1 : α1) (a2 : α2) (a3 : α3) (a4 : α4), ik_lp4 f n a1 a2 a3 a4 = ik_lp1 (fun rc p => f (fun a1 a2 a3 a4 => rc (a1, a2, a3, a4)) p.1 p.2.1 p.2.2.1 p.2.2.2) n (a1, a2, a3, a4) := by
  intro n
  induction n with
  | zero => intro a1 a2 a3 a4; rfl
  | succ n ih =>
    intro a1 a2 a3 a4
    have e : ik_lp4 f n = fun a1 a2 a3 a4 => ik_lp1 (fun rc p => f (fun a1 a2 a3 a4 => rc (a1, a2, a3, a4)) p.1 p.2.1 p.2.2.1 p.2.2.2) n (a1, a2, a3, a4) := by
      funext a1 a2 a3 a4
      exact ih a1 a2 a3 a4
    show f (ik_lp4 f n) a1 a2 a3 a4 = _
    rw [e]
    rfl
theorem lp_unc5 {α1 α2 α3 α4 α5 ρ : Type} (f : (α1 → α2 → α3 → α4 → α5 → Option ρ) → α1 → α2 → α3 → α4 → α5 → Option ρ) : ∀ (n : Nat) (a1 : α1) (a2 : α2) (a3 : α3) (a4 : α4) (a5 : α5), ik_lp5 f n a1 a2 a3 a4 a5 = ik_lp1 (fun rc p => f (fun a1 a2 a3 a4 a5 => rc (a1, a2, a3, a4, a5)) p.1 p.2.1 p.2.2.1 p.2.2.2.1 p.2.2.2.2) n (a1, a2, a3, a4, a5) := by
  intro n
  induction n with
  | zero => intro a1 a2 a3 a4 a5; rfl
  | succ n ih =>
    intro a1 a2 a3 a4 a5
    have e : ik_lp5 f n = fun a1 a2 a3 a4 a5 => ik_lp1 (fun rc p => f (fun a1 a2 a3 a4 a5 => rc (a1, a2, a3, a4, a5)) p.1 p.2.1 p.2.2.1 p.2.2.2.1 p.2.2.2.2) n (a1, a2, a3, a4, a5) := by
      funext a1 a2 a3 a4 a5
      exact ih a1 a2 a3 a4 a5
    show f (ik_lp5 f n) a1 a2 a3 a4 a5 = _
    rw [e]
    rfl
theorem lp_unc6 {α1 α2 α3 α4 α5 α6 ρ : Type} (f : (α1 → α2 → α3 → α4 → α5 → α6 → Option ρ) → α1 → α2 → α3 → α4 → α5 → α6 → Option ρ) : ∀ (n : Nat) (a1 : α1) (a2 : α2) (a3 : α3) (a4 : α4) (a5 : α5) (a6 : α6), ik_lp6 f n a1 a2 a3 a4 a5 a6 = ik_lp1 (fun rc p => f (fun a1 a2 a3 a4 a5 a6 => rc (a1, a2, a3, a4, a5, a6)) p.1 p.2.1 p.2.2.1 p.2.2.2.1 p.2.2.2.2.1 p.2.2.2.2.2) n (a1, a2, a3, a4, a5, a6) := by
  intro n
  induction n with
  | zero => intro a1 a2 a3 a4 a5 a6; rfl
  | succ n ih =>
    intro a1 a2 a3 a4 a5 a6
    have e : ik_lp6 f n = fun a1 a2 a3 a4 a5 a6 => ik_lp1 (fun rc p => f (fun a1 a2 a3 a4 a5 a6 => rc (a1, a2, a3, a4, a5, a6)) p.1 p.2.1 p.2.2.1 p.2.2.2.1 p.2.2.2.2.1 p.2.2.2.2.2) n (a1, a2, a3, a4, a5, a6) := by
      funext a1 a2 a3 a4 a5 a6
      exact ih a1 a2 a3 a4 a5 a6
    show f (ik_lp6 f n) a1 a2 a3 a4 a5 a6 = _
    rw [e]
    rfl
theorem lp_unc7 {α1 α2 α3 α4 α5 α6 α7 ρ : Type} (f : (α1 → α2 → α3 → α4 → α5 → α6 → α7 → Option ρ) → α1 → α2 → α3 → α4 → α5 → α6 → α7 → Option ρ) : ∀ (n : Nat) (a1 : α1) (a2 : α2) (a3 : α3) (a4 : α4) (a5 : α5) (a6 : α6) (a7 : α7), ik_lp7 f n a1 a2 a3 a4 a5 a6 a7 = ik_lp1 (fun rc p => f (fun a1 a2 a3 a4 a5 a6 a7 => rc (a1, a2, a3, a4, a5, a6, a7)) p.1 p.2.1 p.2.2.1 p.2.2.2.1 p.2.2.2.2.1 p.2.2.2.2.2.1 p.2.2.2.2.2.2) n (a1, a2, a3, a4, a5, a6, a7) := by
  intro n
  induction n with
  | zero => intro a1 a2 a3 a4 a5 a6 a7; rfl
  | succ n ih =>
    intro a1 a2 a3 a4 a5 a6 a7
    have e : ik_lp7 f n = fun a1 a2 a3 a4 a5 a6 a7 => ik_lp1 (fun rc p => f (fun a1 a2 a3 a4 a5 a6 a7 => rc (a1, a2, a3, a4, a5, a6, a7)) p.1 p.2.1 p.2.2.1 p.2.2.2.1 p.2.2.2.2.1 p.2.2.2.2.2.1 p.2.2.2.2.2.2) n (a1, a2, a3, a4, a5, a6, a7) := by
      funext a1 a2 a3 a4 a5 a6 a7
      exact ih a1 a2 a3 a4 a5 a6 a7
    show f (ik_lp7 f n) a1 a2 a3 a4 a5 a6 a7 = _
    rw [e]
    rfl
theorem lp_unc8 {α1 α2 α3 α4 α5 α6 α7 α8 ρ : Type} (f : (α1 → α2 → α3 → α4 → α5 → α6 → α7 → α8 → Option ρ) → α1 → α2 → α3 → α4 → α5 → α6 → α7 → α8 → Option ρ) : ∀ (n : Nat) (a1 : α1) (a2 : α2) (a3 : α3) (a4 : α4) (a5 : α5) (a6 : α6) (a7 : α7) (a8 : α8), ik_lp8 f n a1 a2 a3 a4 a5 a6 a7 a8 = ik_lp1 (fun rc p => f (fun a1 a2 a3 a4 a5 a6 a7 a8 => rc (a1, a2, a3, a4, a5, a6, a7, a8)) p.1 p.2.1 p.2.2.1 p.2.2.2.1 p.2.2.2.2.1 p.2.2.2.2.2.1 p.2.2.2.2.2.2.1 p.2.2.2.2.2.2.2) n (a1, a2, a3, a4, a5, a6, a7, a8) := by
  intro n
  induction n with
  | zero => intro a1 a2 a3 a4 a5 a6 a7 a8; rfl
  | succ n ih =>
    intro a1 a2 a3 a4 a5 a6 a7 a8
    have e : ik_lp8 f n = fun a1 a2 a3 a4 a5 a6 a7 a8 => ik_lp1 (fun rc p => f (fun a1 a2 a3 a4 a5 a6 a7 a8 => rc (a1, a2, a3, a4, a5, a6, a7, a8)) p.1 p.2.1 p.2.2.1 p.2.2.2.1 p.2.2.2.2.1 p.2.2.2.2.2.1 p.2.2.2.2.2.2.1 p.2.2.2.2.2.2.2) n (a1, a2, a3, a4, a5, a6, a7, a8) := by
      funext a1 a2 a3 a4 a5 a6 a7 a8
      exact ih a1 a2 a3 a4 a5 a6 a7 a8
    show f (ik_lp8 f n) a1 a2 a3 a4 a5 a6 a7 a8 = _
    rw [e]
    rfl
theorem lp_unc9 {α1 α2 α3 α4 α5 α6 α7 α8 α9 ρ : Type} (f : (α1 → α2 → α3 → α4 → α5 → α6 → α7 → α8 → α9 → Option ρ) → α1 → α2 → α3 → α4 → α5 → α6 → α7 → α8 → α9 → Option ρ) : ∀ (n : Nat) (a1 : α1) (a2 : α2) (a3 : α3) (a4 : α4) (a5 : α5) (a6 : α6) (a7 : α7) (a8 : α8) (a9 : α9), ik_lp9 f n a1 a2 a3 a4 a5 a6 a7 a8 a9 = ik_lp1 (fun rc p => f (fun a1 a2 a3 a4 a5 a6 a7 a8 a9 => rc (a1, a2, a3, a4, a5, a6, a7, a8, a9)) p.1 p.2.1 p.2.2.1 p.2.2.2.1 p.2.2.2.2.1 p.2.2.2.2.2.1 p.2.2.2.2.2.2.1 p.2.2.2.2.2.2.2.1 p.2.2.2.2.2.2.2.2) n (a1, a2, a3, a4, a5, a6, a7, a8, a9) := by
  intro n
  induction n with
  | zero => intro a1 a2 a3 a4 a5 a6 a7 a8 a9; rfl
  | succ n ih =>
    intro a1 a2 a3 a4 a5 a6 a7 a8 a9
    have e : ik_lp9 f n = fun a1 a2 a3 a4 a5 a6 a7 a8 a9 => ik_lp1 (fun rc p => f (fun a1 a2 a3 a4 a5 a6 a7 a8 a9 => rc (a1, a2, a3, a4, a5, a6, a7, a8, a9)) p.1 p.2.1 p.2.2.1 p.2.2.2.1 p.2.2.2.2.1 p.2.2.2.2.2.1 p.2.2.2.2.2.2.1 p.2.2.2.2.2.2.2.1 p.2.2.2.2.2.2.2.2) n (a1, a2, a3, a4, a5, a6, a7, a8, a9) := by
      funext a1 a2 a3 a4 a5 a6 a7 a8 a9
      exact ih a1 a2 a3 a4 a5 a6 a7 a8 a9
    show f (ik_lp9 f n) a1 a2 a3 a4 a5 a6 a7 a8 a9 = _
    rw [e]
    rfl
theorem lp_unc10 {α1 α2 α3 α4 α5 α6 α7 α8 α9 α10 ρ : Type} (f : (α1 → α2 → α3 → α4 → α5 → α6 → α7 → α8 → α9 → α10 → Option ρ) → α1 → α2 → α3 → α4 → α5 → α6 → α7 → α8 → α9 → α10 → Option ρ) : ∀ (n : Nat) (a1 : α1) (a2 : α2) (a3 : α3) (a4 : α4) (a5 : α5) (a6 : α6) (a7 : α7) (a8 : α8) (a9 : α9) (a10 : α10), ik_lp10 f n a1 a2 a3 a4 a5 a6 a7 a8 a9 a10 = ik_lp1 (fun rc p => f (fun a1 a2 a3 a4 a5 a6 a7 a8 a9 a10 => rc (a1, a2, a3, a4, a5, a6, a7, a8, a9, a10)) p.1 p.2.1 p.2.2.1 p.2.2.2.1 p.2.2.2.2.1 p.2.2.2.2.2.1 p.2.2.2.2.2.2.1 p.2.2.2.2.2.2.2.1 p.2.2.2.2.2.2.2.2.1 p.2.2.2.2.2.2.2.2.2) n (a1, a2, a3, a4, a5, a6, a7, a8, a9, a10) := by
  intro n
  induction n with
  | zero => intro a1 a2 a3 a4 a5 a6 a7 a8 a9 a10; rfl
  | succ n ih =>
    intro a1 a2 a3 a4 a5 a6 a7 a8 a9 a10
    have e : ik_lp10 f n = fun a1 a2 a3 a4 a5 a6 a7 a8 a9 a10 => ik_lp1 (fun rc p => f (fun a1 a2 a3 a4 a5 a6 a7 a8 a9 a10 => rc (a1, a2, a3, a4, a5, a6, a7, a8, a9, a10)) p.1 p.2.1 p.2.2.1 p.2.2.2.1 p.2.2.2.2.1 p.2.2.2.2.2.1 p.2.2.2.2.2.2.1 p.2.2.2.2.2.2.2.1 p.2.2.2.2.2.2.2.2.1 p.2.2.2.2.2.2.2.2.2) n (a1, a2, a3, a4, a5, a6, a7, a8, a9, a10) := by
      funext a1 a2 a3 a4 a5 a6 a7 a8 a9 a10
      exact ih a1 a2 a3 a4 a5 a6 a7 a8 a9 a10
    show f (ik_lp10 f n) a1 a2 a3 a4 a5 a6 a7 a8 a9 a10 = _
    rw [e]
    rfl
theorem lp_one {P α ρ : Type} (f : P → (α → Option ρ) → α → Option ρ) (X : P → α → Option ρ) (I : Nat → α → Prop) (N : Nat) (step : ∀ b a, b < N → I b a → ∃ a', (∀ p rc, f p rc a = rc a') ∧ I (b + 1) a') (fin : ∀ a, I N a → ∀ p rc, f p rc a = X p a) : ∀ a, I 0 a → ∃ a', I N a' ∧ ∀ p n, N < n → ik_lp1 (f p) n a = X p a' := by
  have key : ∀ (d j : Nat), j + d = N → ∀ a, I j a → ∃ a', I N a' ∧ ∀ p n, d < n → ik_lp1 (f p) n a = X p a' := by
    intro d
    induction d with
    | zero =>
      intro j hj a ha
      have : j = N := by omega
      subst this
      refine ⟨a, ha, fun p n hn => ?_⟩
      obtain ⟨n, rfl⟩ := Nat.exists_eq_succ_of_ne_zero (show n ≠ 0 by omega)
      exact fin a ha p _
    | succ d ih =>
      intro j hj a ha
      obtain ⟨a1, h1, h2⟩ := step j a (by omega) ha
      obtain ⟨a', h3, h4⟩ := ih (j + 1) (by omega) a1 h2
      refine ⟨a', h3, fun p n hn => ?_⟩
      obtain ⟨n, rfl⟩ := Nat.exists_eq_succ_of_ne_zero (show n ≠ 0 by omega)
      show f p (ik_lp1 (f p) n) a = _
      rw [h1]
      exact h4 p n (by omega)
  intro a ha
  obtain ⟨a', h1, h2⟩ := key N 0 (by omega) a ha
  exact ⟨a', h1, h2⟩
theorem lp_sim {P Q α β ρ σ : Type} (f : P → (α → Option ρ) → α → Option ρ) (g : Q → (β → Option σ) → β → Option σ) (X : P → α → Option ρ) (Y : Q → β → Option σ) (I : Nat → α → β → Prop) (N : Nat) (step : ∀ b a c, b < N → I b a c → ∃ a' c', (∀ p rc, f p rc a = rc a') ∧ (∀ q rc, g q rc c = rc c') ∧ I (b + 1) a' c') (fin : ∀ a c, I N a c → (∀ p rc, f p rc a = X p a) ∧ (∀ q rc, g q rc c = Y q c)) : ∀ a c, I 0 a c → ∃ a' c', I N a' c' ∧ (∀ p n, N < n → ik_lp1 (f p) n a = X p a') ∧ (∀ q n, N < n → ik_lp1 (g q) n c = Y q c') := by
  have key : ∀ (d j : Nat), j + d = N → ∀ a c, I j a c → ∃ a' c', I N a' c' ∧ (∀ p n, d < n → ik_lp1 (f p) n a = X p a') ∧ (∀ q n, d < n → ik_lp1 (g q) n c = Y q c') := by
    intro d
    induction d with
    | zero =>
      intro j hj a c ha
      have : j = N := by omega
      subst this
      refine ⟨a, c, ha, fun p n hn => ?_, fun q n hn => ?_⟩
      · obtain ⟨n, rfl⟩ := Nat.exists_eq_succ_of_ne_zero (show n ≠ 0 by omega)
        exact (fin a c ha).1 p _
      · obtain ⟨n, rfl⟩ := Nat.exists_eq_succ_of_ne_zero (show n ≠ 0 by omega)
        exact (fin a c ha).2 q _
    | succ d ih =>
      intro j hj a c ha
      obtain ⟨a1, c1, h1, h2, h3⟩ := step j a c (by omega) ha
      obtain ⟨a', c', h4, h5, h6⟩ := ih (j + 1) (by omega) a1 c1 h3
      refine ⟨a', c', h4, fun p n hn => ?_, fun q n hn => ?_⟩
      · obtain ⟨n, rfl⟩ := Nat.exists_eq_succ_of_ne_zero (show n ≠ 0 by omega)
        show f p (ik_lp1 (f p) n) a = _
        rw [h1]
        exact h5 p n (by omega)
      · obtain ⟨n, rfl⟩ := Nat.exists_eq_succ_of_ne_zero (show n ≠ 0 by omega)
        show g q (ik_lp1 (g q) n) c = _
        rw [h2]
        exact h6 q n (by omega)
  intro a c ha
  obtain ⟨a', c', h1, h2, h3⟩ := key N 0 (by omega) a c ha
  exact ⟨a', c', h1, h2, h3⟩
