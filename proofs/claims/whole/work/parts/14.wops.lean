/-! the sheets -/
theorem wi_sheet (x : Int32) : f_X6_isSheet x = some (bI (wn x 0 3)) := by unfold f_X6_isSheet; rw [pu_within, pu_b1, pu_gz]; rfl
theorem in_0_3 (x : Int32) : f_X7_in x.toInt64 0 3 = some (bI (wn x 0 3)) := pu_in32 x 0 3
theorem in_sheet (x : Int32) : f_X7_isSheet x = some (bI (wn x 0 3)) := by unfold f_X7_isSheet; rw [in_0_3, pu_b1, pu_gz]
theorem sel4 {α : Type} {a b c d : α} (G : Nat → α) {s : Nat} (hs : s < 4) (h0 : a = G 0) (h1 : b = G 1) (h2 : c = G 2) (h3 : d = G 3) : (if nI s = (0 : Int32) then a else if nI s = (1 : Int32) then b else if nI s = (2 : Int32) then c else d) = G s := by
  rcases (show s = 0 ∨ s = 1 ∨ s = 2 ∨ s = 3 by omega) with rfl | rfl | rfl | rfl
  · rw [if_pos (by decide), h0]
  · rw [if_neg (by decide), if_pos (by decide), h1]
  · rw [if_neg (by decide), if_neg (by decide), if_pos (by decide), h2]
  · rw [if_neg (by decide), if_neg (by decide), if_neg (by decide), h3]
def mz (s : Nat) (f : Nat → Int32) : Nat → Nat → Int32
  | 0 => f
  | i + 1 => upd (mz s f i) (40 * s + i) 0
theorem mz_ne {s : Nat} {f : Nat → Int32} {x : Nat} : ∀ n, (∀ j, j < n → x ≠ 40 * s + j) → mz s f n x = f x
  | 0, _ => rfl
  | n + 1, h => by
    unfold mz
    rw [upd_ne (h n (by omega))]
    exact mz_ne n (fun j hj => h j (by omega))
theorem mz_at {s : Nat} {f : Nat → Int32} : ∀ n j, j < n → mz s f n (40 * s + j) = 0
  | 0, j, h => absurd h (by omega)
  | n + 1, j, h => by
    unfold mz
    by_cases e : j = n
    · rw [e, upd_eq]
    · rw [upd_ne (by omega)]; exact mz_at n j (by omega)
theorem sh_ix (s i : Nat) : (40 : Int32) * nI s + nI i = nI (40 * s + i) := by
  rw [show (40 : Int32) * nI s = nI (40 * s) from pk_mul 40 s, nI_add]
theorem sh_loop (mfound mbits msize mnumber : Nat → Int32) {s : Nat} (hs : s < 4) (x2 v : Int32) : ik_lp2 (b_X7_sheet_86 mfound mbits msize (nI s) x2 v) ik_fu mnumber 0 = some (v, mfound, upd mbits s x2, upd msize s v, mz s mnumber 40) := by
  refine lp_for2 (mz s mnumber) nI (some (v, mfound, upd mbits s x2, upd msize s v, mz s mnumber 40)) 40 (fun rc j hj => ?_) (fun rc => ?_) (pu_fu (by omega))
  · unfold b_X7_sheet_86
    rw [if_neg (show ¬ (40 : Int32) ≤ nI j from nI_ge (b := 40) hj (by omega)), sh_ix, pu_gdN (show 40 * s + j < 160 by omega) (by omega), nI_clamp (by omega), nI_1]
    rfl
  · unfold b_X7_sheet_86
    rw [if_pos (show (40 : Int32) ≤ nI 40 from nI_le (a := 40) (by omega) (by omega)), pu_gdN hs (by omega), nI_clamp (by omega), upd_eq]
section
variable {sbits ssize mbits msize mnumber : Nat → Int32} {snum : Nat → Nat → Int32}
theorem SH.lay (h : SH sbits ssize snum mbits msize mnumber) {s n : Nat} (hs : s < 4) {x : Int32} (hx : x = 0 ∨ x = 8 ∨ x = 16 ∨ x = 32) (hn : n ≤ 40) : SH (upd sbits s x) (upd ssize s (nI n)) (va_up snum s (fw (fun _ => 0) (snum s) 40)) (upd mbits s x) (upd msize s (nI n)) (mz s mnumber 40) := by
  intro t ht
  by_cases e : t = s
  · subst e
    rw [upd_eq, upd_eq, upd_eq, upd_eq, va_up_self]
    exact ⟨rfl, rfl, hx, ⟨n, hn, rfl⟩, fun i hi => by rw [fw_at 40 i hi, mz_at 40 i hi]⟩
  · rw [upd_ne e, upd_ne e, upd_ne e, upd_ne e, va_up_ne _ _ e]
    obtain ⟨h1, h2, h3, h4, h5⟩ := h t ht
    exact ⟨h1, h2, h3, h4, fun i hi => by rw [mz_ne 40 (fun j hj => by omega)]; exact h5 i hi⟩
theorem SH.put (h : SH sbits ssize snum mbits msize mnumber) {s i : Nat} (hi : i < 40) (v : Int32) : SH sbits ssize (va_up snum s (upd (snum s) i v)) mbits msize (upd mnumber (40 * s + i) v) := by
  intro t ht
  obtain ⟨h1, h2, h3, h4, h5⟩ := h t ht
  refine ⟨h1, h2, h3, h4, fun j hj => ?_⟩
  by_cases e : t = s
  · subst e
    rw [va_up_self]
    exact upd_at (h5 j hj) (by omega)
  · rw [va_up_ne _ _ e, upd_ne (by omega)]
    exact h5 j hj
theorem SH.cpy (h : SH sbits ssize snum mbits msize mnumber) {a b p q l : Nat} (ha : a < 4) (hb : b < 4) (hp : p + l ≤ 40) (hq : q + l ≤ 40) : SH sbits ssize (va_up snum b (va_cpy (snum a) (snum b) p q l)) mbits msize (va_cpy mnumber mnumber (40 * a + p) (40 * b + q) l) := by
  intro t ht
  obtain ⟨h1, h2, h3, h4, h5⟩ := h t ht
  refine ⟨h1, h2, h3, h4, fun j hj => ?_⟩
  unfold va_cpy
  by_cases e : t = b
  · subst e
    rw [va_up_self]
    by_cases g : q ≤ j ∧ j < q + l
    · rw [if_pos g, if_pos (by omega), (h a ha).2.2.2.2 _ (by omega)]
      congr 1
      omega
    · rw [if_neg g, if_neg (by omega)]
      exact h5 j hj
  · rw [va_up_ne _ _ e, if_neg (by omega)]
    exact h5 j hj
end
theorem g_sheet : hy_sheet Gd := by
  intro k isk fnd nhour nair nrub nz nnb nkd ncl ngr noc nlit ncold nccell ncpow nsp nwm ndr khour kair krub kz knb kkd kcl kgr koc klit kcold kccell kcpow ksp kwm kdr thour tair trub tz tnb tkd tcl tgr toc tlit tcold tccell tcpow tsp twm tdr tok sta en val tsize tby sbits ssize snum misKept mtaped msort mfrom mto mvalue mbad mm mkept mwas mother mfound mwarm mdrip mtape mbits msize mnumber x1 x2 x3 hk hG
  obtain ⟨⟨N, A, rfl, rfl, hA, hM, hV, hS, hC⟩, hK, hF, hT, hSh⟩ := hG
  have hN := hM.hN
  have hk1 := gd_k k
  unfold f_X6_sheet f_X7_sheet
  rw [wi_sheet, in_sheet, pu_b1, pu_b1]
  cases hw : wn x1 0 3
  · rw [if_pos bI_f, if_pos bI_f]
    obtain ⟨f', g', t1, t2, t3⟩ := fe1 hF
    rw [t1, t2, pu_b2, pu_b2]
    exact ⟨_, _, _, _, _, _, _, _, _, rfl, rfl, ⟨N, A, rfl, rfl, by omega, hM, hV, hS, hC⟩, hK.mono hk1, t3, hT, hSh⟩
  · obtain ⟨s, s1, s2, s3, rfl⟩ := wn_n hw (by decide)
    have hs : s < 4 := by omega
    have key : (x2 = 0 ∨ x2 = 8 ∨ x2 = 16 ∨ x2 = 32) → (fun p q => ∃ (R : Int32) (fnd_r : Nat → Int32) (sbits_r : Nat → Int32) (ssize_r : Nat → Int32) (snum_r : Nat → Nat → Int32) (mfound_r : Nat → Int32) (mbits_r : Nat → Int32) (msize_r : Nat → Int32) (mnumber_r : Nat → Int32), p = some (R, fnd_r, sbits_r, ssize_r, snum_r) ∧ q = some (R, mfound_r, mbits_r, msize_r, mnumber_r) ∧ Gd (k + 1) isk fnd_r nhour (nI A) nrub nz (nI N) nkd ncl ngr noc nlit ncold nccell ncpow nsp nwm ndr khour kair krub kz knb kkd kcl kgr koc klit kcold kccell kcpow ksp kwm kdr thour tair trub tz tnb tkd tcl tgr toc tlit tcold tccell tcpow tsp twm tdr tok sta en val tsize tby sbits_r ssize_r snum_r misKept mtaped msort mfrom mto mvalue mbad mm mkept mwas mother mfound_r mwarm mdrip mtape mbits_r msize_r mnumber_r) (if (0 : Int32) ≤ x3 then (if x3 ≤ (40 : Int32) then (ik_gd (nI s) 4 (if (nI s) = (0 : Int32) then (ik_b4 (f_X2_lay (sbits 0) (ssize 0) (snum 0) x2 x3) (fun r2 g3 g4 g5 => (some (r2, fnd, (upd sbits 0 g3), (upd ssize 0 g4), (va_up snum 0 g5))))) else if (nI s) = (1 : Int32) then (ik_b4 (f_X2_lay (sbits 1) (ssize 1) (snum 1) x2 x3) (fun r2 g3 g4 g5 => (some (r2, fnd, (upd sbits 1 g3), (upd ssize 1 g4), (va_up snum 1 g5))))) else if (nI s) = (2 : Int32) then (ik_b4 (f_X2_lay (sbits 2) (ssize 2) (snum 2) x2 x3) (fun r2 g3 g4 g5 => (some (r2, fnd, (upd sbits 2 g3), (upd ssize 2 g4), (va_up snum 2 g5))))) else (ik_b4 (f_X2_lay (sbits 3) (ssize 3) (snum 3) x2 x3) (fun r2 g3 g4 g5 => (some (r2, fnd, (upd sbits 3 g3), (upd ssize 3 g4), (va_up snum 3 g5))))))) else (ik_b2 (f_X6_tell fnd (-1000001 : Int32)) (fun r2 g3 => (some (r2, g3, sbits, ssize, snum))))) else (ik_b2 (f_X6_tell fnd (-1000007 : Int32)) (fun r2 g3 => (some (r2, g3, sbits, ssize, snum))))) (j_X7_sheet_36 mfound mbits msize mnumber (nI s) x2 x3) := by
      intro hx
      unfold j_X7_sheet_36
      by_cases g0 : (0 : Int32) ≤ x3
      · rw [if_pos g0, if_pos g0]
        by_cases g1 : x3 ≤ (40 : Int32)
        · obtain ⟨n, hn, rfl⟩ := nI_of2 (x := x3) (M := 40) (n := 40) rfl (Int32.not_lt.mpr g0) g1
          rw [if_pos g1, if_pos g1, pu_gdN hs (by omega), pu_gdN hs (by omega), sel4 (fun s => (ik_b4 (f_X2_lay (sbits s) (ssize s) (snum s) x2 (nI n)) (fun r2 g3 g4 g5 => (some (r2, fnd, (upd sbits s g3), (upd ssize s g4), (va_up snum s g5)))))) hs rfl rfl rfl rfl]
          unfold f_X2_lay j_X7_sheet_82
          rw [fill_fw (by omega), pu_b1, pu_b1, pu_gdN hs (by omega), pu_gdN hs (by omega), sh_loop _ _ _ _ hs, sh_loop _ _ _ _ hs]
          by_cases c : x2 = 0
          · rw [if_pos c, if_pos c, pu_b4]
            exact ⟨_, _, _, _, _, _, _, _, _, rfl, rfl, ⟨N, A, rfl, rfl, by omega, hM, hV, hS, hC⟩, hK.mono hk1, hF, hT, hSh.1.lay (n := 0) hs hx (by omega), hSh.2⟩
          · rw [if_neg c, if_neg c, pu_b4]
            exact ⟨_, _, _, _, _, _, _, _, _, rfl, rfl, ⟨N, A, rfl, rfl, by omega, hM, hV, hS, hC⟩, hK.mono hk1, hF, hT, hSh.1.lay hs hx hn, hSh.2⟩
        · rw [if_neg g1, if_neg g1]
          obtain ⟨f', g', t1, t2, t3⟩ := fe1 hF
          rw [t1, t2, pu_b2, pu_b2]
          exact ⟨_, _, _, _, _, _, _, _, _, rfl, rfl, ⟨N, A, rfl, rfl, by omega, hM, hV, hS, hC⟩, hK.mono hk1, t3, hT, hSh⟩
      · rw [if_neg g0, if_neg g0]
        obtain ⟨f', g', t1, t2, t3⟩ := fe7 hF
        rw [t1, t2, pu_b2, pu_b2]
        exact ⟨_, _, _, _, _, _, _, _, _, rfl, rfl, ⟨N, A, rfl, rfl, by omega, hM, hV, hS, hC⟩, hK.mono hk1, t3, hT, hSh⟩
    rw [if_neg (show ¬ bI true = 0 by decide), if_neg (show ¬ bI true = 0 by decide)]
    by_cases c0 : x2 = 0
    · rw [if_pos c0, if_pos c0]; exact key (Or.inl c0)
    · rw [if_neg c0, if_neg c0]
      by_cases c1 : x2 = 8
      · rw [if_pos c1, if_pos c1]; exact key (Or.inr (Or.inl c1))
      · rw [if_neg c1, if_neg c1]
        by_cases c2 : x2 = 16
        · rw [if_pos c2, if_pos c2]; exact key (Or.inr (Or.inr (Or.inl c2)))
        · rw [if_neg c2, if_neg c2]
          by_cases c3 : x2 = 32
          · rw [if_pos c3, if_pos c3]; exact key (Or.inr (Or.inr (Or.inr c3)))
          · rw [if_neg c3, if_neg c3]
            obtain ⟨f', g', t1, t2, t3⟩ := fe1 hF
            rw [t1, t2, pu_b2, pu_b2]
            exact ⟨_, _, _, _, _, _, _, _, _, rfl, rfl, ⟨N, A, rfl, rfl, by omega, hM, hV, hS, hC⟩, hK.mono hk1, t3, hT, hSh⟩
theorem w_missing (x : Int32) : f_X2_isMissing x = some (bI (decide (x = 0))) := by
  unfold f_X2_isMissing
  by_cases q : x = 0
  · rw [if_pos q, decide_eq_true q]; rfl
  · rw [if_neg q, decide_eq_false q]; rfl
theorem g_write : hy_write Gd := by
  intro k isk fnd nhour nair nrub nz nnb nkd ncl ngr noc nlit ncold nccell ncpow nsp nwm ndr khour kair krub kz knb kkd kcl kgr koc klit kcold kccell kcpow ksp kwm kdr thour tair trub tz tnb tkd tcl tgr toc tlit tcold tccell tcpow tsp twm tdr tok sta en val tsize tby sbits ssize snum misKept mtaped msort mfrom mto mvalue mbad mm mkept mwas mother mfound mwarm mdrip mtape mbits msize mnumber x1 x2 x3 hk hG
  obtain ⟨⟨N, A, rfl, rfl, hA, hM, hV, hS, hC⟩, hK, hF, hT, hSh⟩ := hG
  have hN := hM.hN
  have hk1 := gd_k k
  unfold f_X6_write f_X7_write
  rw [wi_sheet, in_sheet, pu_b1, pu_b1]
  cases hw : wn x1 0 3
  · rw [if_pos bI_f, if_pos bI_f]
    obtain ⟨f', g', t1, t2, t3⟩ := fe1 hF
    rw [t1, t2, pu_b2, pu_b2]
    exact ⟨_, _, _, _, _, rfl, rfl, ⟨N, A, rfl, rfl, by omega, hM, hV, hS, hC⟩, hK.mono hk1, t3, hT, hSh⟩
  · obtain ⟨s, s1, s2, s3, rfl⟩ := wn_n hw (by decide)
    have hs : s < 4 := by omega
    obtain ⟨e1, e2, e3, ⟨n, hn, e4⟩, e5⟩ := hSh.1 s hs
    rw [if_neg (show ¬ bI true = 0 by decide), if_neg (show ¬ bI true = 0 by decide), nI_clamp (show s < 2 ^ 31 by omega), ← e1, ← e2, sel4 (fun s => (ik_b1 (f_X2_isMissing (sbits s)) (fun r2 => (if r2 = (0 : Int32) then (ik_b1 (f_X6_isWithin x2 (0 : Int32) ((ssize s) - (1 : Int32))) (fun r3 => (if r3 = (0 : Int32) then (ik_b2 (f_X6_tell fnd (-1000001 : Int32)) (fun r4 g5 => (some (r4, g5, snum)))) else (ik_b1 (f_X2_put (sbits s) (snum s) x2 x3) (fun g4 => (some ((1 : Int32), fnd, (va_up snum s g4)))))))) else (ik_b2 (f_X6_tell fnd (-1000006 : Int32)) (fun r3 g4 => (some (r3, g4, snum)))))))) hs rfl rfl rfl rfl, w_missing, pu_b1]
    simp only [pu_gdN hs (show 4 < 2 ^ 31 by omega)]
    by_cases c : sbits s = 0
    · rw [if_pos c, decide_eq_true c, if_neg (show ¬ bI true = 0 by decide)]
      obtain ⟨f', g', t1, t2, t3⟩ := fe6 hF
      rw [t1, t2, pu_b2, pu_b2]
      exact ⟨_, _, _, _, _, rfl, rfl, ⟨N, A, rfl, rfl, by omega, hM, hV, hS, hC⟩, hK.mono hk1, t3, hT, hSh⟩
    · rw [if_neg c, decide_eq_false c, if_pos bI_f, pu_within, pu_in32, pu_b1, pu_b1, pu_i64, show (0 : Int64).toInt = (0 : Int32).toInt from rfl]
      cases hw2 : wn x2 (0 : Int32).toInt (ssize s - 1).toInt
      · rw [if_pos bI_f, if_pos bI_f]
        obtain ⟨f', g', t1, t2, t3⟩ := fe1 hF
        rw [t1, t2, pu_b2, pu_b2]
        exact ⟨_, _, _, _, _, rfl, rfl, ⟨N, A, rfl, rfl, by omega, hM, hV, hS, hC⟩, hK.mono hk1, t3, hT, hSh⟩
      · have hw3 := of_decide_eq_true hw2
        obtain ⟨i, hi, rfl⟩ := nI_of (x := x2) (fun q => by have := Int32.lt_iff_toInt_lt.mp q; have z : (0 : Int32).toInt = 0 := rfl; omega)
        have hin : i < n := by
          rcases Nat.eq_zero_or_pos n with q | q
          · subst q
            rw [e4, show (nI 0 - 1).toInt = -1 from rfl, nI_toInt hi] at hw3
            omega
          · rw [e4, show nI n - 1 = nI (n - 1) from pk_sub (b := 1) q, nI_toInt hi, nI_toInt (by omega)] at hw3
            omega
        unfold f_X2_put
        rw [if_neg (show ¬ bI true = 0 by decide), if_neg (show ¬ bI true = 0 by decide), sh_ix, nI_clamp (show i < 2 ^ 31 by omega), nI_clamp (show 40 * s + i < 2 ^ 31 by omega)]
        simp only [pu_gdN (show 40 * s + i < 160 by omega) (show 160 < 2 ^ 31 by omega), pu_gdN (show i < 40 by omega) (show 40 < 2 ^ 31 by omega)]
        by_cases c1 : sbits s = 8
        · rw [if_pos c1, if_pos c1, pu_b1]
          exact ⟨_, _, _, _, _, rfl, rfl, ⟨N, A, rfl, rfl, by omega, hM, hV, hS, hC⟩, hK.mono hk1, hF, hT, hSh.1.put (by omega) _, hSh.2⟩
        · rw [if_neg c1, if_neg c1]
          by_cases c2 : sbits s = 16
          · rw [if_pos c2, if_pos c2, pu_b1]
            exact ⟨_, _, _, _, _, rfl, rfl, ⟨N, A, rfl, rfl, by omega, hM, hV, hS, hC⟩, hK.mono hk1, hF, hT, hSh.1.put (by omega) _, hSh.2⟩
          · rw [if_neg c2, if_neg c2, pu_b1]
            exact ⟨_, _, _, _, _, rfl, rfl, ⟨N, A, rfl, rfl, by omega, hM, hV, hS, hC⟩, hK.mono hk1, hF, hT, hSh.1.put (by omega) _, hSh.2⟩
def bl_load (s : Nat) (fnd : Nat → Int32) (nnb : Int32) (ncl : Nat → Int32) (ssize : Nat → Int32) (snum : Nat → Nat → Int32) (rc_56 : (Nat → Int32) → Int32 → Option (Int32 × (Nat → Int32) × (Nat → Int32))) (ngr_56 : Nat → Int32) (x4_56 : Int32) : Option (Int32 × (Nat → Int32) × (Nat → Int32)) := (if (ik_min (ssize s) nnb) ≤ x4_56 then (some (x4_56, fnd, ngr_56)) else (ik_gd x4_56 40 (ik_b1 (f_X6_isWithin ((snum s) (x4_56).toNatClampNeg) (1 : Int32) (99 : Int32)) (fun r3 => (if r3 = (0 : Int32) then (some (x4_56, fnd, ngr_56)) else (ik_b1 (f_X5_isGone ncl x4_56) (fun r4 => (if r4 = (0 : Int32) then (ik_gd x4_56 40 (ik_gd x4_56 16 (rc_56 (upd ngr_56 (x4_56).toNatClampNeg ((snum s) (x4_56).toNatClampNeg)) (x4_56 + (1 : Int32))))) else (rc_56 ngr_56 (x4_56 + (1 : Int32)))))))))))
theorem in_some (x : Int32) : f_X7_isSome x = some (bI (wn x 1 99)) := by unfold f_X7_isSome; rw [pu_in32, pu_b1, pu_gz]; rfl
theorem g_load : hy_load Gd := by
  intro k isk fnd nhour nair nrub nz nnb nkd ncl ngr noc nlit ncold nccell ncpow nsp nwm ndr khour kair krub kz knb kkd kcl kgr koc klit kcold kccell kcpow ksp kwm kdr thour tair trub tz tnb tkd tcl tgr toc tlit tcold tccell tcpow tsp twm tdr tok sta en val tsize tby sbits ssize snum misKept mtaped msort mfrom mto mvalue mbad mm mkept mwas mother mfound mwarm mdrip mtape mbits msize mnumber x1 hk hG
  obtain ⟨⟨N, A, rfl, rfl, hA, hM, hV, hS, hC⟩, hK, hF, hT, hSh⟩ := hG
  have hN := hM.hN
  have hk1 := gd_k k
  unfold f_X6_load f_X7_load
  rw [wi_sheet, in_sheet, pu_b1, pu_b1]
  cases hw : wn x1 0 3
  · rw [if_pos bI_f, if_pos bI_f]
    obtain ⟨f', g', t1, t2, t3⟩ := fe1 hF
    rw [t1, t2, pu_b2, pu_b2]
    exact ⟨_, _, _, _, _, rfl, rfl, ⟨N, A, rfl, rfl, by omega, hM, hV, hS, hC⟩, hK.mono hk1, t3, hT, hSh⟩
  · obtain ⟨s, s1, s2, s3, rfl⟩ := wn_n hw (by decide)
    have hs : s < 4 := by omega
    obtain ⟨e1, e2, e3, ⟨n, hn, e4⟩, e5⟩ := hSh.1 s hs
    rw [if_neg (show ¬ bI true = 0 by decide), if_neg (show ¬ bI true = 0 by decide), nI_clamp (show s < 2 ^ 31 by omega), ← e1, show b_X6_load_56 = bl_load 0 from rfl, show b_X6_load_56s1 = bl_load 1 from rfl, show b_X6_load_56s2 = bl_load 2 from rfl, show b_X6_load_56s3 = bl_load 3 from rfl, sel4 (fun s => (ik_b1 (f_X2_isMissing (sbits s)) (fun r2 => (if r2 = (0 : Int32) then (ik_lp2 (bl_load s fnd (nI N) ncl ssize snum) ik_fu ngr (0 : Int32)) else (ik_b2 (f_X6_tell fnd (-1000006 : Int32)) (fun r3 g4 => (some (r3, g4, ngr)))))))) hs rfl rfl rfl rfl, w_missing, pu_b1, pu_gdN hs (by omega), pu_gdN hs (by omega)]
    by_cases c : sbits s = 0
    · rw [if_pos c, decide_eq_true c, if_neg (show ¬ bI true = 0 by decide)]
      obtain ⟨f', g', t1, t2, t3⟩ := fe6 hF
      rw [t1, t2, pu_b2, pu_b2]
      exact ⟨_, _, _, _, _, rfl, rfl, ⟨N, A, rfl, rfl, by omega, hM, hV, hS, hC⟩, hK.mono hk1, t3, hT, hSh⟩
    · rw [if_neg c, decide_eq_false c, if_pos bI_f, lp_unc2, lp_unc2]
      have em : ik_min (ssize s) (nI N) = nI (min n N) := by rw [e4]; exact ik_minN (by omega) (by omega)
      refine lp_rel (R := (fun p q => ∃ (R : Int32) (fnd_r : Nat → Int32) (ngr_r : Nat → Int32) (mm_r : Nat → Int32) (mfound_r : Nat → Int32), p = some (R, fnd_r, ngr_r) ∧ q = some (R, mm_r, mfound_r) ∧ Gd (k + 1) isk fnd_r nhour (nI A) nrub nz (nI N) nkd ncl ngr_r noc nlit ncold nccell ncpow nsp nwm ndr khour kair krub kz knb kkd kcl kgr koc klit kcold kccell kcpow ksp kwm kdr thour tair trub tz tnb tkd tcl tgr toc tlit tcold tccell tcpow tsp twm tdr tok sta en val tsize tby sbits ssize snum misKept mtaped msort mfrom mto mvalue mbad mm_r mkept mwas mother mfound_r mwarm mdrip mtape mbits msize mnumber)) (fun i q r => ∃ g m, q = (g, nI i) ∧ r = (m, nI i) ∧ MS m nhour ncold (nI A) nrub nz N nkd ncl g nlit nccell ncpow nsp ∧ GS N ncl g) (min n N) ?_ ?_ _ _ ⟨ngr, mm, rfl, rfl, hM, hS⟩ _ _ (pu_fu (by omega)) (pu_fu (by omega))
      · rintro i q r hi ⟨g, m, rfl, rfl, i1, i2⟩ rc rd - - hc
        dsimp only
        unfold bl_load b_X7_load_33
        rw [em, if_neg (nI_ge hi (by omega)), pu_gdN hs (by omega), nI_clamp (show s < 2 ^ 31 by omega), ← e2, e4, if_neg (nI_ge (show i < n by omega) (by omega)), m_isBlock i1.rm, pu_b1, show wn (nI i) 0 (N - 1 : Int) = true from decide_eq_true (by rw [nI_toInt (by omega)]; omega), if_neg (show ¬ bI true = 0 by decide), sh_ix, pu_gdN (show 40 * s + i < 160 by omega) (by omega), nI_clamp (show 40 * s + i < 2 ^ 31 by omega), in_some, pu_b1, nI_clamp (show i < 2 ^ 31 by omega), pu_gdN (show i < 40 by omega) (by omega), wi_1_99, pu_b1, ← e5 i (by omega)]
        cases hw2 : wn (snum s i) 1 99
        · rw [if_pos bI_f, if_pos bI_f]
          exact ⟨_, _, _, _, _, rfl, rfl, ⟨N, A, rfl, rfl, by omega, i1, hV, i2, hC⟩, hK.mono hk1, hF, hT, hSh⟩
        · obtain ⟨v, v1, v2, v3, ev⟩ := wn_n hw2 (by decide)
          rw [if_neg (show ¬ bI true = 0 by decide), if_neg (show ¬ bI true = 0 by decide), w_gone (by omega), m_gone i1.rm (by omega), pu_b1, pu_b1, nI_1]
          by_cases hl : ncl i < 0
          · rw [decide_eq_true hl, if_neg (show ¬ bI true = 0 by decide), if_neg (show ¬ bI true = 0 by decide)]
            exact hc _ _ ⟨_, _, rfl, rfl, i1, i2⟩
          · rw [decide_eq_false hl, if_pos bI_f, if_pos bI_f, pu_gdN (show i < 40 by omega) (by omega), pu_gdN (show i < 16 by omega) (by omega), pu_gdN (show 40 * s + i < 160 by omega) (by omega), m_makes (by omega), pu_b1, ev]
            exact hc _ _ ⟨_, _, rfl, rfl, i1.u_gr (by omega) _, i2.up hl (by omega) (by omega)⟩
      · rintro q r ⟨g, m, rfl, rfl, i1, i2⟩ rc rd
        dsimp only
        unfold bl_load b_X7_load_33
        rw [em, if_pos (nI_le (Nat.le_refl _) (by omega)), pu_gdN hs (by omega), nI_clamp (show s < 2 ^ 31 by omega), ← e2, e4]
        by_cases g1 : n ≤ min n N
        · rw [if_pos (nI_le g1 (by omega))]
          exact ⟨_, _, _, _, _, rfl, rfl, ⟨N, A, rfl, rfl, by omega, i1, hV, i2, hC⟩, hK.mono hk1, hF, hT, hSh⟩
        · rw [if_neg (nI_ge (by omega) (by omega)), m_isBlock i1.rm, pu_b1, show wn (nI (min n N)) 0 (N - 1 : Int) = false from decide_eq_false (by rw [nI_toInt (by omega)]; omega), if_pos bI_f]
          exact ⟨_, _, _, _, _, rfl, rfl, ⟨N, A, rfl, rfl, by omega, i1, hV, i2, hC⟩, hK.mono hk1, hF, hT, hSh⟩
