/-! two loops side by side, whatever is asked of the two ends -/
theorem lp_relG {α β ρ σ : Type} {f : (α → Option ρ) → α → Option ρ} {g : (β → Option σ) → β → Option σ} {R : Option ρ → Option σ → Prop} (I : Nat → α → β → Prop) (N n0 m0 : Nat)
    (step : ∀ b a c, b < N → I b a c → ∀ rc rd, (∀ a, ∃ rc', rc a = f rc' a) → (∀ c, ∃ rd', rd c = g rd' c) → (∀ a' c', I (b + 1) a' c' → R (rc a') (rd c')) → R (f rc a) (g rd c))
    (fin : ∀ a c, I N a c → ∀ n m, n0 < n → m0 < m → R (ik_lp1 f n a) (ik_lp1 g m c)) :
    ∀ a c, I 0 a c → ∀ n m, N + n0 < n → N + m0 < m → R (ik_lp1 f n a) (ik_lp1 g m c) := by
  have key : ∀ (d j : Nat), j + d = N → ∀ a c, I j a c → ∀ n m, d + n0 < n → d + m0 < m → R (ik_lp1 f n a) (ik_lp1 g m c) := by
    intro d
    induction d with
    | zero =>
      intro j hj a c ha n m hn hm
      have : j = N := by omega
      subst this
      exact fin a c ha n m (by omega) (by omega)
    | succ d ih =>
      intro j hj a c ha n m hn hm
      obtain ⟨n, rfl⟩ := Nat.exists_eq_succ_of_ne_zero (show n ≠ 0 by omega)
      obtain ⟨m, rfl⟩ := Nat.exists_eq_succ_of_ne_zero (show m ≠ 0 by omega)
      refine step j a c (by omega) ha (ik_lp1 f n) (ik_lp1 g m) (fun a => ?_) (fun c => ?_) (fun a' c' h => ih (j + 1) (by omega) a' c' h n m (by omega) (by omega))
      · obtain ⟨n, rfl⟩ := Nat.exists_eq_succ_of_ne_zero (show n ≠ 0 by omega)
        exact ⟨_, rfl⟩
      · obtain ⟨m, rfl⟩ := Nat.exists_eq_succ_of_ne_zero (show m ≠ 0 by omega)
        exact ⟨_, rfl⟩
  intro a c ha n m hn hm
  exact key N 0 (by omega) a c ha n m hn hm
theorem lp_rel {α β ρ σ : Type} {f : (α → Option ρ) → α → Option ρ} {g : (β → Option σ) → β → Option σ} {R : Option ρ → Option σ → Prop} (I : Nat → α → β → Prop) (N : Nat)
    (step : ∀ b a c, b < N → I b a c → ∀ rc rd, (∀ a, ∃ rc', rc a = f rc' a) → (∀ c, ∃ rd', rd c = g rd' c) → (∀ a' c', I (b + 1) a' c' → R (rc a') (rd c')) → R (f rc a) (g rd c))
    (fin : ∀ a c, I N a c → ∀ rc rd, R (f rc a) (g rd c)) :
    ∀ a c, I 0 a c → ∀ n m, N < n → N < m → R (ik_lp1 f n a) (ik_lp1 g m c) := fun a c h n m hn hm =>
  lp_relG I N 0 0 step (fun a c ha n m hn hm => by
    obtain ⟨n, rfl⟩ := Nat.exists_eq_succ_of_ne_zero (show n ≠ 0 by omega)
    obtain ⟨m, rfl⟩ := Nat.exists_eq_succ_of_ne_zero (show m ≠ 0 by omega)
    exact fin a c ha _ _) a c h n m (by omega) (by omega)
/-! one loop alone -/
theorem lp_relR {β σ : Type} {g : (β → Option σ) → β → Option σ} {R : Option σ → Prop} (I : Nat → β → Prop) (N : Nat)
    (step : ∀ b c, b < N → I b c → ∀ rd, (∀ c, ∃ rd', rd c = g rd' c) → (∀ c', I (b + 1) c' → R (rd c')) → R (g rd c))
    (fin : ∀ c, I N c → ∀ rd, R (g rd c)) :
    ∀ c, I 0 c → ∀ m, N < m → R (ik_lp1 g m c) := by
  have key : ∀ (d j : Nat), j + d = N → ∀ c, I j c → ∀ m, d < m → R (ik_lp1 g m c) := by
    intro d
    induction d with
    | zero =>
      intro j hj c ha m hm
      have : j = N := by omega
      subst this
      obtain ⟨m, rfl⟩ := Nat.exists_eq_succ_of_ne_zero (show m ≠ 0 by omega)
      exact fin c ha _
    | succ d ih =>
      intro j hj c ha m hm
      obtain ⟨m, rfl⟩ := Nat.exists_eq_succ_of_ne_zero (show m ≠ 0 by omega)
      refine step j c (by omega) ha (ik_lp1 g m) (fun c => ?_) (fun c' h => ih (j + 1) (by omega) c' h m (by omega))
      obtain ⟨m, rfl⟩ := Nat.exists_eq_succ_of_ne_zero (show m ≠ 0 by omega)
      exact ⟨_, rfl⟩
  intro c ha m hm
  exact key N 0 (by omega) c ha m hm
