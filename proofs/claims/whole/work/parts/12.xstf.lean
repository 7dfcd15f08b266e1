/-! all that stands: class and reference go through the same rounds -/
def cnt (T : Nat → Bool) : Nat → Nat
  | 0 => 0
  | n + 1 => cnt T n + (if T n then 1 else 0)
theorem cnt_le (T : Nat → Bool) : ∀ n, cnt T n ≤ n
  | 0 => Nat.le_refl 0
  | n + 1 => by
    have := cnt_le T n
    unfold cnt
    split <;> omega
theorem cnt_mono {T S : Nat → Bool} : ∀ n, (∀ b, b < n → T b = true → S b = true) → cnt T n ≤ cnt S n
  | 0, _ => Nat.le_refl 0
  | n + 1, h => by
    have h1 := cnt_mono n (fun b hb => h b (by omega))
    have h2 := h n (by omega)
    unfold cnt
    cases hT : T n
    · simp; omega
    · rw [h2 hT]; simp; omega
theorem cnt_lt {T S : Nat → Bool} : ∀ n, (∀ b, b < n → T b = true → S b = true) → (∃ b, b < n ∧ S b = true ∧ T b = false) → cnt T n < cnt S n
  | 0, _, ⟨b, hb, _⟩ => absurd hb (by omega)
  | n + 1, h, ⟨b, hb, h1, h2⟩ => by
    have hm := cnt_mono n (fun b hb => h b (by omega))
    have hn := h n (by omega)
    unfold cnt
    by_cases e : b = n
    · subst e
      rw [h1, h2]; simp; omega
    · have := cnt_lt n (fun b hb => h b (by omega)) ⟨b, by omega, h1, h2⟩
      cases hT : T n
      · simp; omega
      · rw [hn hT]; simp; omega
/-- kinds and cells are what they may be -/
def WI (N : Nat) (kd cl : Nat → Int32) : Prop := N ≤ 16 ∧ ∀ b, b < N → (∃ k, k < 7 ∧ kd b = nI k) ∧ (cl b = -1 ∨ ∃ c, c < 48 ∧ cl b = nI c)
/-- the cells of a set as the bits of a long -/
def CB (N : Nat) (cl : Nat → Int32) (T : Nat → Bool) (x : Int64) : Prop := ∀ c, c < 64 → lb x c = (decide (c < 48) && onB N cl T (nI c))
theorem sbC_congr {on on' : Nat → Bool} {k c : Nat} (hc : c < 48) (h : ∀ c, c < 48 → on c = on' c) : sbC on k c = sbC on' k c := by
  unfold sbC
  by_cases h8 : c < 8
  · rw [if_pos h8, if_pos h8]
  · rw [if_neg h8, if_neg h8, h (c - 8) (by omega), h (c - 1) (by omega)]
    have e1 : (decide (c % 8 ≠ 7) && on (c + 1)) = (decide (c % 8 ≠ 7) && on' (c + 1)) := by
      by_cases g : c % 8 = 7
      · simp [g]
      · rw [h (c + 1) (by omega)]
    have e2 : (decide (c < 40) && on (c + 8)) = (decide (c < 40) && on' (c + 8)) := by
      by_cases g : c < 40
      · rw [h (c + 8) (by omega)]
      · simp [g]
    rw [e1, e2]
theorem or0 (x : Int32) : x ||| 0 = x := b_ext (fun i _ => by rw [b_or, b_0, Bool.or_false])
def add1 (T : Nat → Bool) (b : Nat) : Nat → Bool := fun j => T j || decide (j = b)
theorem onB_add {N : Nat} {cl : Nat → Int32} {T : Nat → Bool} {b : Nat} (hb : b < N) (x : Int32) : onB N cl (add1 T b) x = (onB N cl T x || decide (cl b = x)) := by
  rw [Bool.eq_iff_iff, onB_t, Bool.or_eq_true, onB_t, decide_eq_true_eq]
  unfold add1
  constructor
  · rintro ⟨a, h1, h2, h3⟩
    rw [Bool.or_eq_true, decide_eq_true_eq] at h2
    rcases h2 with h2 | h2
    · exact Or.inl ⟨a, h1, h2, h3⟩
    · subst h2; exact Or.inr h3
  · rintro (⟨a, h1, h2, h3⟩ | h)
    · exact ⟨a, h1, by rw [h2]; rfl, h3⟩
    · exact ⟨b, hb, by simp, h⟩
theorem CB_add {N : Nat} {cl : Nat → Int32} {T : Nat → Bool} {x : Int64} {b c : Nat} (h : CB N cl T x) (hb : b < N) (hc : c < 48) (e : cl b = nI c) : CB N cl (add1 T b) (x ||| ik_lsh 1 (nI c)) := by
  intro i hi
  rw [lb_or, lb_sh (by omega), h i hi, onB_add hb, e]
  by_cases g : i < 48
  · rw [decide_eq_true g, Bool.true_and, Bool.true_and]
    congr 1
    rw [decide_eq_decide]
    exact ⟨fun q => by rw [q], fun q => (nI_eq (by omega) (by omega)).mp q⟩
  · rw [decide_eq_false g, Bool.false_and, Bool.false_and, decide_eq_false (by omega)]; rfl
theorem MB_add {N : Nat} {T : Nat → Bool} {y : Int32} {b : Nat} (h : MB N T y) (hb : b < N) (hN : N ≤ 16) : MB N (add1 T b) (y ||| ((1 : Int32) <<< (nI b &&& 31))) := by
  intro i hi
  rw [b_or, bt_sl (by omega), h i hi]
  unfold add1
  by_cases g : i < N
  · rw [decide_eq_true g, Bool.true_and, Bool.true_and]
    congr 1
    rw [decide_eq_decide]
    exact ⟨fun q => q.symm, fun q => q.symm⟩
  · rw [decide_eq_false g, Bool.false_and, Bool.false_and, decide_eq_false (by omega)]; rfl
/-- the same set, told twice -/
theorem CB_eq {N : Nat} {cl : Nat → Int32} {T S : Nat → Bool} {x y : Int64} (hx : CB N cl T x) (hy : CB N cl S y) (h : ∀ b, b < N → T b = S b) : x = y := by
  refine lb_ext (fun i hi => ?_)
  rw [hx i hi, hy i hi]
  congr 1
  rw [Bool.eq_iff_iff, onB_t, onB_t]
  exact ⟨fun ⟨b, h1, h2, h3⟩ => ⟨b, h1, by rw [← h b h1]; exact h2, h3⟩, fun ⟨b, h1, h2, h3⟩ => ⟨b, h1, by rw [h b h1]; exact h2, h3⟩⟩
theorem MB_eq {N : Nat} {T S : Nat → Bool} {x y : Int32} (hx : MB N T x) (hy : MB N S y) (h : ∀ b, b < N → T b = S b) : x = y := by
  refine b_ext (fun i hi => ?_)
  rw [hx i hi, hy i hi]
  by_cases g : i < N
  · rw [h i g]
  · rw [decide_eq_false g]; rfl
theorem MB_inj {N : Nat} {T S : Nat → Bool} {x : Int32} (hN : N ≤ 16) (hx : MB N T x) (hy : MB N S x) : ∀ b, b < N → T b = S b := by
  intro b hb
  have h := (hx b (by omega)).symm.trans (hy b (by omega))
  rw [decide_eq_true hb] at h
  simpa using h
theorem CB_inj {N : Nat} {kd cl : Nat → Int32} {T S : Nat → Bool} {x : Int64} (hw : WI N kd cl) (hd : DC N cl) (gT : ∀ b, b < N → T b = true → ¬ cl b < 0) (gS : ∀ b, b < N → S b = true → ¬ cl b < 0) (hx : CB N cl T x) (hy : CB N cl S x) : ∀ b, b < N → T b = S b := by
  have one : ∀ (T S : Nat → Bool), (∀ b, b < N → T b = true → ¬ cl b < 0) → CB N cl T x → CB N cl S x → ∀ b, b < N → T b = true → S b = true := by
    intro T S gT hx hy b hb ht
    rcases (hw.2 b hb).2 with e | ⟨c, hc, e⟩
    · exact absurd (by rw [e]; decide) (gT b hb ht)
    · have h := (hx c (by omega)).symm.trans (hy c (by omega))
      rw [decide_eq_true hc, Bool.true_and, Bool.true_and, onB_t.mpr ⟨b, hb, ht, e⟩] at h
      obtain ⟨a, h1, h2, h3⟩ := onB_t.mp h.symm
      have := hd b a hb h1 (gT b hb ht) (by rw [e, h3])
      subst this
      exact h2
  intro b hb
  rw [Bool.eq_iff_iff]
  exact ⟨one T S gT hx hy b hb, one S T gS hy hx b hb⟩
theorem w_standsByG {kd cl : Nat → Int32} {b : Nat} {y : Int64} (hb : b < 16) (hc : cl b = -1) : f_X5_standsBy kd cl (nI b) y = some 0 := by
  unfold f_X5_standsBy
  simp only [pu_gdN hb (show 16 < 2 ^ 31 by omega), nI_clamp (show b < 2 ^ 31 by omega), hc]
  rw [if_neg (by decide), if_pos (by decide)]
theorem w_cellBit {cl : Nat → Int32} {b c : Nat} (hb : b < 16) (hc : c < 48) (e : cl b = nI c) : f_X5_cellBit cl (nI b) = some (ik_lsh 1 (nI c)) := by
  unfold f_X5_cellBit
  simp only [pu_gdN hb (show 16 < 2 ^ 31 by omega), nI_clamp (show b < 2 ^ 31 by omega), e]
  rw [if_pos (nI_pos' (by omega))]
theorem w_cellBitG {cl : Nat → Int32} {b : Nat} (hb : b < 16) (e : cl b = -1) : f_X5_cellBit cl (nI b) = some 0 := by
  unfold f_X5_cellBit
  simp only [pu_gdN hb (show 16 < 2 ^ 31 by omega), nI_clamp (show b < 2 ^ 31 by omega), e]
  rw [if_neg (by decide)]
/-- one round, on both sides -/
theorem st_round {mm kd cl gr : Nat → Int32} {N : Nat} (h : RM mm N kd cl gr) (hw : WI N kd cl) (hd : DC N cl) {T0 : Nat → Bool} {x0 : Int64} {y0 : Int32} (hx0 : CB N cl T0 x0) (hy0 : MB N T0 y0) (g0 : ∀ b, b < N → T0 b = true → ¬ cl b < 0) :
    ∃ (T : Nat → Bool) (x : Int64) (y : Int32), CB N cl T x ∧ MB N T y ∧ (∀ b, b < N → T b = true → ¬ cl b < 0) ∧ (∀ b, b < N → T0 b = true → T b = true) ∧
      (∀ (u : Int64) (v : Int32) (rc : Int64 → Int32 → Option Int64) (n : Nat), N < n → ik_lp2 (b_X5_standing_16 (nI N) kd cl u v rc) n x0 (nI 0) = (if (lg_cmp x u) = (0 : Int32) then some x else rc x (v + 1))) ∧
      (∀ (v : Int32) (rc : Int32 → Int32 → Option Int32) (n : Nat), N < n → ik_lp2 (b_X7_standing_13 mm v rc) n y0 (nI 0) = rc y v) := by
  have hN := h.1
  obtain ⟨⟨x, i⟩, ⟨y, j⟩, ⟨⟨-, -, T, a1, a2, a3, a4⟩, e1, e2⟩⟩ := lp_sim
    (P := Int64 × Int32 × (Int64 → Int32 → Option Int64)) (Q := Int32 × (Int32 → Int32 → Option Int32))
    (fun p rc q => b_X5_standing_16 (nI N) kd cl p.1 p.2.1 p.2.2 (fun a b => rc (a, b)) q.1 q.2)
    (fun p rc q => b_X7_standing_13 mm p.1 p.2 (fun a b => rc (a, b)) q.1 q.2)
    (fun p q => if (lg_cmp q.1 p.1) = (0 : Int32) then some q.1 else p.2.2 q.1 (p.2.1 + 1))
    (fun p q => p.2 q.1 p.1)
    (fun b q r => q.2 = nI b ∧ r.2 = nI b ∧ ∃ T, CB N cl T q.1 ∧ MB N T r.1 ∧ (∀ b, b < N → T b = true → ¬ cl b < 0) ∧ (∀ b, b < N → T0 b = true → T b = true))
    N
    (by
      rintro b ⟨x, i⟩ ⟨y, j⟩ hb ⟨hi, hj, T, t1, t2, t3, t4⟩
      dsimp only at hi hj t1 t2
      subst hi; subst hj
      obtain ⟨⟨k, hk7, hk⟩, hcl⟩ := hw.2 b hb
      rcases hcl with hg | ⟨c, hc, hcl⟩
      · refine ⟨(x, nI (b + 1)), (y, nI (b + 1)), fun p rc => ?_, fun q rc => ?_, rfl, rfl, T, t1, t2, t3, t4⟩
        · dsimp only
          unfold b_X5_standing_16
          rw [if_neg (nI_ge hb (by omega)), w_standsByG (by omega) hg, pu_b1, if_pos rfl, nI_1]
        · dsimp only
          unfold b_X7_standing_13
          rw [pu_c5, h.2.1, if_neg (nI_ge hb (by omega)), m_gone h (by omega), pu_b1, pu_ifb, hg, show decide ((-1 : Int32) < 0) = true by decide, if_pos rfl, or0, nI_1]
      · have hs : sbC (fun c => lb x c) k c = sbC (fun c => onB N cl T (nI c)) k c := sbC_congr hc (fun c' hc' => by show lb x c' = _; rw [t1 c' (by omega), decide_eq_true hc', Bool.true_and])
        have hng : ¬ cl b < 0 := by rw [hcl]; exact nI_pos (by omega)
        have hcls : ∀ (p : Int64 × Int32 × (Int64 → Int32 → Option Int64)) (rc : Int64 × Int32 → Option Int64), b_X5_standing_16 (nI N) kd cl p.1 p.2.1 p.2.2 (fun a b => rc (a, b)) x (nI b) = (if sbC (fun c => onB N cl T (nI c)) k c then rc (x ||| ik_lsh 1 (nI c), nI (b + 1)) else rc (x, nI (b + 1))) := by
          intro p rc
          unfold b_X5_standing_16
          rw [if_neg (nI_ge hb (by omega)), w_standsBy (by omega) hk hk7 hcl hc (fun i h1 h2 => by rw [t1 i h2, decide_eq_false (by omega), Bool.false_and]), pu_b1, pu_ifb, hs, w_cellBit (by omega) hc hcl, pu_b1, nI_1]
        have hmod : ∀ (p : Int32 × (Int32 → Int32 → Option Int32)) (rc : Int32 × Int32 → Option Int32), b_X7_standing_13 mm p.1 p.2 (fun a b => rc (a, b)) y (nI b) = (if sbC (fun c => onB N cl T (nI c)) k c then rc (y ||| ((1 : Int32) <<< (nI b &&& 31)), nI (b + 1)) else rc (y, nI (b + 1))) := by
          intro p rc
          unfold b_X7_standing_13
          rw [pu_c5, h.2.1, if_neg (nI_ge hb (by omega)), m_gone h (by omega), pu_b1, pu_ifb, decide_eq_false hng, m_standsBy h hd t2 hb hk hk7 hcl hc, pu_b1, pu_ifb, or0, nI_1]
          rfl
        cases hsb : sbC (fun c => onB N cl T (nI c)) k c
        · refine ⟨(x, nI (b + 1)), (y, nI (b + 1)), fun p rc => ?_, fun q rc => ?_, rfl, rfl, T, t1, t2, t3, t4⟩
          · have := hcls p rc; rw [hsb] at this; exact this
          · have := hmod q rc; rw [hsb] at this; exact this
        · refine ⟨(x ||| ik_lsh 1 (nI c), nI (b + 1)), (y ||| ((1 : Int32) <<< (nI b &&& 31)), nI (b + 1)), fun p rc => ?_, fun q rc => ?_, rfl, rfl, add1 T b, CB_add t1 hb hc hcl, MB_add t2 hb hN, ?_, ?_⟩
          · have := hcls p rc; rw [hsb] at this; exact this
          · have := hmod q rc; rw [hsb] at this; exact this
          · intro a ha hta
            unfold add1 at hta
            rw [Bool.or_eq_true, decide_eq_true_eq] at hta
            rcases hta with g | g
            · exact t3 a ha g
            · subst g; exact hng
          · intro a ha hta
            unfold add1
            rw [t4 a ha hta]; rfl)
    (by
      rintro ⟨x, i⟩ ⟨y, j⟩ ⟨hi, hj, -⟩
      dsimp only at hi hj
      subst hi; subst hj
      refine ⟨fun p rc => ?_, fun q rc => ?_⟩
      · dsimp only
        unfold b_X5_standing_16
        rw [if_pos (nI_le (Nat.le_refl _) (by omega))]
      · dsimp only
        unfold b_X7_standing_13
        rw [pu_c5, h.2.1, if_pos (nI_le (Nat.le_refl _) (by omega))])
    (x0, nI 0) (y0, nI 0) ⟨rfl, rfl, T0, hx0, hy0, g0, fun _ _ h => h⟩
  refine ⟨T, x, y, a1, a2, a3, a4, fun u v rc n hn => ?_, fun v rc n hn => ?_⟩
  · rw [lp_unc2]; exact e1 (u, v, rc) n hn
  · rw [lp_unc2]; exact e2 (v, rc) n hn
/-- all rounds -/
theorem st_all {mm kd cl gr : Nat → Int32} {N : Nat} (h : RM mm N kd cl gr) (hw : WI N kd cl) (hd : DC N cl) : ∀ (d r : Nat), r + d = 17 → ∀ (T0 : Nat → Bool) (x0 : Int64) (y0 : Int32), CB N cl T0 x0 → MB N T0 y0 → (∀ b, b < N → T0 b = true → ¬ cl b < 0) → r ≤ cnt T0 N →
    ∃ (T : Nat → Bool) (x : Int64) (y : Int32), CB N cl T x ∧ MB N T y ∧ (∀ b, b < N → T b = true → ¬ cl b < 0) ∧
      (∀ n, d < n → ik_lp2 (b_X5_standing_4 (nI N) kd cl) n x0 (nI r) = some x) ∧ (∀ (v : Int32) (n : Nat), y0 ≠ v → d + 1 < n → ik_lp2 (b_X7_standing_4 mm) n y0 v = some y) := by
  have hN := h.1
  intro d
  induction d with
  | zero =>
    intro r hr T0 x0 y0 _ _ _ hc
    have := cnt_le T0 N
    omega
  | succ d ih =>
    intro r hr T0 x0 y0 hx0 hy0 g0 hc
    obtain ⟨T1, x1, y1, a1, a2, a3, a4, e1, e2⟩ := st_round h hw hd hx0 hy0 g0
    have hcl : cnt T0 N ≤ N := cnt_le T0 N
    by_cases hsame : ∀ b, b < N → T0 b = T1 b
    · have ex : x1 = x0 := CB_eq a1 hx0 (fun b hb => (hsame b hb).symm)
      have ey : y1 = y0 := MB_eq a2 hy0 (fun b hb => (hsame b hb).symm)
      refine ⟨T1, x1, y1, a1, a2, a3, fun n hn => ?_, fun v n hv hn => ?_⟩
      · obtain ⟨n, rfl⟩ := Nat.exists_eq_succ_of_ne_zero (show n ≠ 0 by omega)
        show b_X5_standing_4 (nI N) kd cl (ik_lp2 (b_X5_standing_4 (nI N) kd cl) n) x0 (nI r) = _
        unfold b_X5_standing_4
        rw [if_neg (show ¬ (16 : Int32) < nI r from nI_nlt (a := 16) (by omega) (by omega))]
        refine (e1 x0 (nI r) _ ik_fu (pu_fu (by omega))).trans ?_
        rw [if_pos ((lg0 x1 x0).mpr ex)]
      · obtain ⟨n, rfl⟩ := Nat.exists_eq_succ_of_ne_zero (show n ≠ 0 by omega)
        show b_X7_standing_4 mm (ik_lp2 (b_X7_standing_4 mm) n) y0 v = _
        unfold b_X7_standing_4
        rw [if_neg hv]
        refine (e2 y0 _ ik_fu (pu_fu (by omega))).trans ?_
        obtain ⟨n, rfl⟩ := Nat.exists_eq_succ_of_ne_zero (show n ≠ 0 by omega)
        show b_X7_standing_4 mm (ik_lp2 (b_X7_standing_4 mm) n) y1 y0 = _
        unfold b_X7_standing_4
        rw [if_pos ey]
    · have hdiff : ∃ b, b < N ∧ T1 b = true ∧ T0 b = false := by
        apply Classical.byContradiction
        intro hn
        apply hsame
        intro b hb
        cases hT0 : T0 b
        · cases hT1 : T1 b
          · rfl
          · exact absurd ⟨b, hb, hT1, hT0⟩ hn
        · exact (a4 b hb hT0).symm
      have hlt := cnt_lt N a4 hdiff
      have hle1 := cnt_le T1 N
      have nx : ¬ x1 = x0 := fun q => hsame (by subst q; exact CB_inj hw hd g0 a3 hx0 a1)
      have ny : y1 ≠ y0 := fun q => hsame (by subst q; exact MB_inj hN hy0 a2)
      obtain ⟨T, x, y, b1, b2, b3, f1, f2⟩ := ih (r + 1) (by omega) T1 x1 y1 a1 a2 a3 (by omega)
      refine ⟨T, x, y, b1, b2, b3, fun n hn => ?_, fun v n hv hn => ?_⟩
      · obtain ⟨n, rfl⟩ := Nat.exists_eq_succ_of_ne_zero (show n ≠ 0 by omega)
        show b_X5_standing_4 (nI N) kd cl (ik_lp2 (b_X5_standing_4 (nI N) kd cl) n) x0 (nI r) = _
        unfold b_X5_standing_4
        rw [if_neg (show ¬ (16 : Int32) < nI r from nI_nlt (a := 16) (by omega) (by omega))]
        refine (e1 x0 (nI r) _ ik_fu (pu_fu (by omega))).trans ?_
        rw [if_neg (fun q => nx ((lg0 x1 x0).mp q)), nI_1]
        exact f1 n (by omega)
      · obtain ⟨n, rfl⟩ := Nat.exists_eq_succ_of_ne_zero (show n ≠ 0 by omega)
        show b_X7_standing_4 mm (ik_lp2 (b_X7_standing_4 mm) n) y0 v = _
        unfold b_X7_standing_4
        rw [if_neg hv]
        refine (e2 y0 _ ik_fu (pu_fu (by omega))).trans ?_
        exact f2 y0 n ny (by omega)
/-- what stands: one set, told by the class as cells, by the reference as blocks -/
theorem st_standing {mm kd cl gr : Nat → Int32} {N : Nat} (h : RM mm N kd cl gr) (hw : WI N kd cl) (hd : DC N cl) : ∃ (T : Nat → Bool) (x : Int64) (y : Int32), CB N cl T x ∧ MB N T y ∧ (∀ b, b < N → T b = true → ¬ cl b < 0) ∧ f_X5_standing (nI N) kd cl = some x ∧ f_X7_standing mm = some y := by
  have c0 : CB N cl (fun _ => false) 0 := fun c hc => by
    rw [lb_0]
    have : onB N cl (fun _ => false) (nI c) = false := by
      cases ho : onB N cl (fun _ => false) (nI c)
      · rfl
      · obtain ⟨b, h1, h2, h3⟩ := onB_t.mp ho
        exact absurd h2 (by decide)
    rw [this, Bool.and_false]
  have m0 : MB N (fun _ => false) 0 := fun b hb => by rw [b_0, Bool.and_false]
  obtain ⟨T, x, y, a1, a2, a3, e1, e2⟩ := st_all h hw hd 17 0 rfl (fun _ => false) 0 0 c0 m0 (fun _ _ q => absurd q (by decide)) (Nat.zero_le _)
  exact ⟨T, x, y, a1, a2, a3, e1 ik_fu (pu_fu (by omega)), e2 (-1) ik_fu (by decide) (pu_fu (by omega))⟩
