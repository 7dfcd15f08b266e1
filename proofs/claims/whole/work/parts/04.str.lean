/-! texts that are constants, and two statics: what the start gives of them, as far as the world leaves it alone -/
def st_tab : List (String × Nat × String × List Int32) := [("IcePalace$TextReader", 49, "candle", [99, 97, 110, 100, 108, 101]), ("IcePalace$TextReader", 63, "cold", [99, 111, 108, 100]), ("IcePalace$TextReader", 85, "grains", [103, 114, 97, 105, 110, 115]), ("IcePalace$TextReader", 91, "at", [97, 116]), ("IcePalace$TextReader", 99, "power", [112, 111, 119, 101, 114]), ("IcePalace$TextReader", 104, "lit", [108, 105, 116]), ("IcePalace$TextReader", 112, "block", [98, 108, 111, 99, 107]), ("IcePalace$TextReader", 114, "arch", [97, 114, 99, 104]), ("IcePalace$TextReader", 116, "beam", [98, 101, 97, 109]), ("IcePalace$TextReader", 118, "throne", [116, 104, 114, 111, 110, 101]), ("IcePalace$TextReader", 120, "pillar", [112, 105, 108, 108, 97, 114]), ("IcePalace$TextReader", 122, "lintel", [108, 105, 110, 116, 101, 108]), ("IcePalace$TextReader", 124, "icicle", [105, 99, 105, 99, 108, 101]), ("IcePalaceModel", 290, "block", [98, 108, 111, 99, 107]), ("IcePalaceModel", 292, "arch", [97, 114, 99, 104]), ("IcePalaceModel", 294, "beam", [98, 101, 97, 109]), ("IcePalaceModel", 296, "throne", [116, 104, 114, 111, 110, 101]), ("IcePalaceModel", 298, "pillar", [112, 105, 108, 108, 97, 114]), ("IcePalaceModel", 300, "lintel", [108, 105, 110, 116, 101, 108]), ("IcePalaceModel", 302, "icicle", [105, 99, 105, 99, 108, 101]), ("IcePalaceModel", 306, "at", [97, 116]), ("IcePalaceModel", 314, "power", [112, 111, 119, 101, 114]), ("IcePalaceModel", 316, "lit", [108, 105, 116]), ("IcePalaceModel", 321, "grains", [103, 114, 97, 105, 110, 115]), ("IcePalaceModel", 322, "candle", [99, 97, 110, 100, 108, 101]), ("IcePalaceModel", 327, "cold", [99, 111, 108, 100])]
def st_cls (i : Nat) : String := (st_tab.getD i ("", 0, "", [])).1
def st_idx (i : Nat) : Nat := (st_tab.getD i ("", 0, "", [])).2.1
def st_tx (i : Nat) : String := (st_tab.getD i ("", 0, "", [])).2.2.1
def st_by (i : Nat) : List Int32 := (st_tab.getD i ("", 0, "", [])).2.2.2
def st_len (i : Nat) : Nat := (st_by i).length
def st_ch (i j : Nat) : Int32 := (st_by i).getD j 0
def st_ka (j : Nat) : Int32 := ([-1, 0, 0, 1, 0, 2, 0] : List Int32).getD j 0
def ik_Zs (aK aV : Nat → Nat) (ka : Nat) (A : Nat → Prop) (U : State) (H : Heap) : Prop :=
  (∀ i : Nat, i < 26 → va_O "java/lang/String" (aK i) A U H ∧ va_OF "java/lang/String" "coder" "B" (.int 0) (aK i) A U H ∧ va_OF "java/lang/String" "value" "[B" (.ref (aV i)) (aK i) A U H ∧ va_T .byte (aV i) (st_len i) (fun j => .int (st_ch i j)) A U H ∧ vk_R (st_cls i) (st_idx i) (st_tx i) (aK i) U) ∧
  va_Z "java/lang/String" "COMPACT_STRINGS" "Z" (.int 1) A U H ∧ va_Zq "jdk/internal/util/Preconditions" "SIOOBE_FORMATTER" "Ljava/util/function/BiFunction;" A U H ∧ va_Z "IcePalace" "KIND_ABOVE" "[I" (.ref ka) A U H ∧ va_T .int ka 7 (fun j => .int (st_ka j)) A U H
theorem ik_Zs.warm {aK aV : Nat → Nat} {ka : Nat} {A : Nat → Prop} {s U : State} {H : Heap} (hW : s.WarmedH U.vm) (h : ik_Zs aK aV ka A s H) : ik_Zs aK aV ka A U H :=
  ⟨fun i hi => ⟨va_O.moved hW.alike (h.1 i hi).1, va_OF.moved hW.alike (h.1 i hi).2.1, va_OF.moved hW.alike (h.1 i hi).2.2.1, va_T.moved hW.alike (h.1 i hi).2.2.2.1, vk_R.warm hW (h.1 i hi).2.2.2.2⟩, va_Z.moved hW.alike h.2.1, va_Zq.moved hW.alike h.2.2.1, va_Z.moved hW.alike h.2.2.2.1, va_T.moved hW.alike h.2.2.2.2⟩
theorem ik_Zs.same {aK aV : Nat → Nat} {ka : Nat} {A : Nat → Prop} {u U : State} {H : Heap} (hv : U.vm = u.vm) (h : ik_Zs aK aV ka A u H) : ik_Zs aK aV ka A U H := by
  have ha : u.vm.Alike U.vm := by rw [hv]; exact Vm.Alike.refl u.vm
  exact ⟨fun i hi => ⟨va_O.moved ha (h.1 i hi).1, va_OF.moved ha (h.1 i hi).2.1, va_OF.moved ha (h.1 i hi).2.2.1, va_T.moved ha (h.1 i hi).2.2.2.1, vk_R.same hv (h.1 i hi).2.2.2.2⟩, va_Z.moved ha h.2.1, va_Zq.moved ha h.2.2.1, va_Z.moved ha h.2.2.2.1, va_T.moved ha h.2.2.2.2⟩
theorem ik_Zs.kept {aK aV : Nat → Nat} {ka : Nat} {A : Nat → Prop} {U : State} {H H1 : Heap} (h : ik_Zs aK aV ka A U H) (hq : ∀ a : Nat, a < H.size → ¬ A a → H1[a]? = H[a]?) : ik_Zs aK aV ka A U H1 :=
  ⟨fun i hi => ⟨(h.1 i hi).1.kept hq, (h.1 i hi).2.1.kept hq, (h.1 i hi).2.2.1.kept hq, (h.1 i hi).2.2.2.1.kept hq, (h.1 i hi).2.2.2.2⟩, h.2.1.kept hq, h.2.2.1.kept hq, h.2.2.2.1.kept hq, h.2.2.2.2.kept hq⟩
theorem ik_Zs.narrow {aK aV : Nat → Nat} {ka : Nat} {A B : Nat → Prop} {U : State} {H : Heap} (h : ik_Zs aK aV ka A U H) (hAB : ∀ q, B q → A q) : ik_Zs aK aV ka B U H :=
  ⟨fun i hi => ⟨(h.1 i hi).1.narrow hAB, (h.1 i hi).2.1.narrow hAB, (h.1 i hi).2.2.1.narrow hAB, (h.1 i hi).2.2.2.1.narrow hAB, (h.1 i hi).2.2.2.2⟩, h.2.1.narrow hAB, h.2.2.1.narrow hAB, h.2.2.2.1.narrow hAB, h.2.2.2.2.narrow hAB⟩
def ik_PZ (D : va_G) (cI cS : ClassId) (aK aV : Nat → Nat) (ka : Nat) (av : List Value) (w : va_W) : Array Value → State → Prop := va_Pc av (fun U => va_P D vwCl w U.heap ∧ va_D (fun _ => True) w ∧ ik_K D cI cS U ∧ ik_Zs aK aV ka (ik_in w) U U.heap)
theorem ik_blindZ {D : va_G} {cI cS : ClassId} {aK aV : Nat → Nat} {ka : Nat} {av : List Value} {w : va_W} : FrameBlind (ik_PZ D cI cS aK aV ka av w) := by
  intro a U g mk h
  obtain ⟨h1, h2, h3, ⟨h4, h5, h6⟩, h7⟩ := h
  exact ⟨h1, h2, h3, ⟨va_K.moved (u := U) (U := U.calling g mk a) (Vm.Alike.refl U.vm) h4, va_Nw.same rfl (u := U) (U := U.calling g mk a) rfl h5, va_Nw.same rfl (u := U) (U := U.calling g mk a) rfl h6⟩, ik_Zs.same (u := U) (U := U.calling g mk a) rfl h7⟩
section IKZ
variable {p : Program} {l : Launch} {e : Env} {R : Room} {s : State} {m : MethodId} {args : Array Value} {below : List Frame} {meth : Method} {c : Code} {Q : State → Prop} {D : va_G} {cI cS : ClassId} {A A1 B : Nat → Prop} {nL kc ks : Nat} {cc : ByteArray} {own : String} {pc : Nat} {lv : List (Nat × Value)} {st : List Value} {ws : va_W}
theorem ik_gets (C : ik_C p m c cc nL s args own D cI cS) (hA : ∀ q, A q → A1 q) {cN n d ref : String} {v : Value} {index : Nat} (hZ : va_Z cN n d v A1 s s.heap) (hlink : Cond.fieldLink own index ref n d ∈ wsL_law) (hsame : cN = ref) (hdg : decode cc pc = .ok (.getstatic index, 3)) (kk : ik_G p l e R s m args below meth c D A B nL kc ks Q (pc + 3) lv (v :: st) ws) : ik_G p l e R s m args below meth c D A B nL kc ks Q pc lv st ws :=
  fun H locs ls hP hD hS h => va_gets C.1.1 C.1.2.1 (hZ.narrow hA) hS C.1.2.2.2.1 (C.1.2.2.2.2 _ hlink) (fun _ h9 => by rw [← hsame]; exact h9) hdg (kk H locs ls hP hD hS h)
theorem ik_sget (C : ik_C p m c cc nL s args own D cI cS) (hA : ∀ q, A q → A1 q) {o n d ref : String} {v : Value} {q index : Nat} (hE : va_OF o n d v q A1 s s.heap) (hlink : Cond.fieldLink own index ref n d ∈ wsL_law) (hsame : o = ref) (hdg : decode cc pc = .ok (.getfield index, 3)) (kk : ik_G p l e R s m args below meth c D A B nL kc ks Q (pc + 3) lv (v :: st) ws) : ik_G p l e R s m args below meth c D A B nL kc ks Q pc lv (.ref q :: st) ws :=
  fun H locs ls hP hD hS h => vk_getf C.1.1 C.1.2.1 (hE.narrow hA) hS C.1.2.2.2.1 (C.1.2.2.2.2 _ hlink) (fun _ h9 => by rw [← hsame]; exact h9) hdg (kk H locs ls hP hD hS h)
theorem ik_tb (C : ik_C p m c cc nL s args own D cI cS) (hA : ∀ q, A q → A1 q) {t N : Nat} {f : Nat → Value} (hT : va_T .byte t N f A1 s s.heap) {i : Int32} (hin : vp_in i N) {v : Value} (hv : f i.toNatClampNeg = v) (hdg : decode cc pc = .ok (.baload, 1)) (kk : ik_G p l e R s m args below meth c D A B nL kc ks Q (pc + 1) lv (v :: st) ws) : ik_G p l e R s m args below meth c D A B nL kc ks Q pc lv (.int i :: .ref t :: st) ws :=
  fun H locs ls hP hD hS h => va_tb C.1.1 C.1.2.1 (hT.narrow hA) hS hin hv hdg (kk H locs ls hP hD hS h)
theorem ik_ti (C : ik_C p m c cc nL s args own D cI cS) (hA : ∀ q, A q → A1 q) {t N : Nat} {f : Nat → Value} (hT : va_T .int t N f A1 s s.heap) {i : Int32} (hin : vp_in i N) {v : Value} (hv : f i.toNatClampNeg = v) (hdg : decode cc pc = .ok (.iaload, 1)) (kk : ik_G p l e R s m args below meth c D A B nL kc ks Q (pc + 1) lv (v :: st) ws) : ik_G p l e R s m args below meth c D A B nL kc ks Q pc lv (.int i :: .ref t :: st) ws :=
  fun H locs ls hP hD hS h => va_ti C.1.1 C.1.2.1 (hT.narrow hA) hS hin hv hdg (kk H locs ls hP hD hS h)
theorem ik_tlen (C : ik_C p m c cc nL s args own D cI cS) (hA : ∀ q, A q → A1 q) {t N : Nat} {f : Nat → Value} {ty : FieldType} (hT : va_T ty t N f A1 s s.heap) {v : Int32} (hv : Int32.ofNat N = v) (hdg : decode cc pc = .ok (.arraylength, 1)) (kk : ik_G p l e R s m args below meth c D A B nL kc ks Q (pc + 1) lv (.int v :: st) ws) : ik_G p l e R s m args below meth c D A B nL kc ks Q pc lv (.ref t :: st) ws :=
  fun H locs ls hP hD hS h => va_tlen C.1.1 C.1.2.1 (hT.narrow hA) hS hv hdg (kk H locs ls hP hD hS h)
theorem ik_ldcS (C : ik_C p m c cc nL s args own D cI cS) {tx : String} {index q : Nat} (hZ : vk_R own index tx q s) (hdg : decode cc pc = .ok (.ldc index, 2)) (kk : ik_G p l e R s m args below meth c D A B nL kc ks Q (pc + 2) lv (.ref q :: st) ws) : ik_G p l e R s m args below meth c D A B nL kc ks Q pc lv st ws :=
  fun H locs ls hP hD hS h => va_ldcS C.1.1 C.1.2.1 C.1.2.2.2.1 hZ hdg (kk H locs ls hP hD hS h)
theorem ik_ldcSw (C : ik_C p m c cc nL s args own D cI cS) {tx : String} {index q : Nat} (hZ : vk_R own index tx q s) (hdg : decode cc pc = .ok (.ldc_w index, 3)) (kk : ik_G p l e R s m args below meth c D A B nL kc ks Q (pc + 3) lv (.ref q :: st) ws) : ik_G p l e R s m args below meth c D A B nL kc ks Q pc lv st ws :=
  fun H locs ls hP hD hS h => by
    intro T hT X
    obtain ⟨t, a1, b1⟩ := kk H locs ls hP hD hS h T hT X
    exact ⟨t, X.ldcStringW C.1.1 C.1.2.2.2.1 (text := tx) (a := q) hZ.1 hZ.2 (g := F0 m pc ls st) rfl (by rw [C.1.2.1]; exact hdg) t a1, b1⟩
theorem ik_i2c (C : ik_C p m c cc nL s args own D cI cS) {x v : Int32} (hv : (x.toUInt32 % 65536).toInt32 = v) (hdg : decode cc pc = .ok (.i2c, 1)) (kk : ik_G p l e R s m args below meth c D A B nL kc ks Q (pc + 1) lv (.int v :: st) ws) : ik_G p l e R s m args below meth c D A B nL kc ks Q pc lv (.int x :: st) ws :=
  fun H locs ls hP hD hS h => lv_i2c C.1.1 C.1.2.1 hdg hv (kk H locs ls hP hD hS h)
section IKZC
variable {y : MethodName} {CC : String} {b : ByteArray} {maxL index n : Nat} {ret : Option FieldType} {rm : Room} {a : Nat} {As st0 : List Value} {wc w1 : va_W} {v : Value} {Qc : Array Value → State → Outcome → State → Prop} {free : Nat → Prop} {aK aV : Nat → Nat} {ka : Nat}
/-- what is known of the texts at a call -/
theorem ik_Zcall {H : Heap} {locs : List Loc} {isC : List Nat} (hZ : ik_Zs aK aV ka A1 s s.heap) (hA : ∀ q, A q → A1 q) (hws : ∀ (k : Nat) (q : Nat × va_E), ws[k]? = some q → A1 q.1) (hC : isC.map (fun i => ws[i]?) = wc.map some) (hS : va_S A s.heap H locs) (U : State) (hU : U.heap = H) (hW : s.WarmedH U.vm) : ik_Zs aK aV ka (ik_in wc) U U.heap := by
  rw [hU]
  refine ik_Zs.narrow (ik_Zs.warm hW (hZ.kept (fun q h1 h2 => hS.2.1 q h1 (fun h => h2 (hA q h))))) (fun q hq => ?_)
  obtain ⟨k, e', hk⟩ := hq
  obtain ⟨i, -, h2⟩ := ik_at hC k _ hk
  exact hws i _ h2
theorem ik_runVZ (C : ik_C p m c cc nL s args own D cI cS) (hZ : ik_Zs aK aV ka A1 s s.heap) (hA : ∀ q, A q → A1 q) (hB : ∀ (k : Nat) (q : Nat × va_E), va_D B ws → ws[k]? = some q → A1 q.1) (hM : Met l y (ik_ws y b maxL ret) rm (ik_PZ D cI cS aK aV ka (.ref a :: As) wc) Qc 0 0 free) (hV : ik_V y CC b maxL ret n) (hl1 : Cond.methodLink own index y ∈ wsL_law) (hR : rm.cells = 0 ∧ rm.slots = 0 ∧ rm.frames + 1 ≤ R.frames ∧ 8 + (maxL + 11) + rm.locals ≤ R.locals) (isC : List Nat) (hC : isC.map (fun i => ws[i]?) = wc.map some) (hnd : va_nd isC = true) (q0 : Nat) {ci : Nat} {fs : List Value} {T : u_T} {N : Nat} (hq : ws[q0]? = some (a, .inr (ci, fs))) (hcl : vwCl[ci]? = some (CC, T, N)) (hn : As.length = n) (hst : st0 = As.reverse ++ .ref a :: st) (hroom : (st.map fun v => v.category).sum ≤ 8) (hdg : decode cc pc = .ok (.invokevirtual index, 3)) (hkc : kc ≤ R.cells ∧ ks ≤ R.slots) : ∀ (H : Heap) (locs : List Loc) (ls : Array Slot), va_P D vwCl ws H → va_D B ws → va_S A s.heap H locs → lv_has ls nL lv → va_Run p l e R s m args below meth c H locs kc ks 0 0 (F0 m pc ls st0) st (Qc (.ref a :: As).toArray) free := by
  intro H locs ls hP hD hS hl
  obtain ⟨v1, v2, v3, v4, v5, v6⟩ := hV
  refine va_runV (C := CC) (bytes := b) (maxL := maxL) (ret := ret) (n := n) C.1 hM ⟨callB_of n C.1.2.2.2.2 (ik_goodIn v4) rfl hR.1 hR.2.1 (by rw [v5]; exact C.1.2.2.2.2 _ v3) (C.1.2.2.2.2 _ hl1) v6 hR.2.2, C.1.2.2.2.2 _ v1, C.1.2.2.2.2 _ v2⟩ ⟨ik_blindZ, va_recv C.2.1 hP hcl hq, fun U hU hW => ⟨rfl, by rw [hU]; exact ik_subP hC hP, (hD.sub isC hnd hC).weaken (fun _ _ _ _ => trivial), ik_K.warm hW C.2, ik_Zcall hZ hA (fun k q h => hB k q hD h) hC hS U hU hW⟩⟩ rfl hn hl.1 hst (lv_room hroom) hdg hkc
theorem ik_runSZ (C : ik_C p m c cc nL s args own D cI cS) (hZ : ik_Zs aK aV ka A1 s s.heap) (hA : ∀ q, A q → A1 q) (hB : ∀ (k : Nat) (q : Nat × va_E), va_D B ws → ws[k]? = some q → A1 q.1) (hM : Met l y (ik_ws y b maxL ret) rm (ik_PZ D cI cS aK aV ka As wc) Qc 0 0 free) (hV : ik_S y CC b maxL ret n) (hl1 : Cond.methodLink own index y ∈ wsL_law) (hR : rm.cells = 0 ∧ rm.slots = 0 ∧ rm.frames + 1 ≤ R.frames ∧ 8 + (maxL + 11) + rm.locals ≤ R.locals) (isC : List Nat) (hC : isC.map (fun i => ws[i]?) = wc.map some) (hnd : va_nd isC = true) (hn : As.length = n) (hst : st0 = As.reverse ++ st) (hroom : (st.map fun v => v.category).sum ≤ 8) (hdg : decode cc pc = .ok (.invokestatic index, 3)) (hkc : kc ≤ R.cells ∧ ks ≤ R.slots) : ∀ (H : Heap) (locs : List Loc) (ls : Array Slot), va_P D vwCl ws H → va_D B ws → va_S A s.heap H locs → lv_has ls nL lv → va_Run p l e R s m args below meth c H locs kc ks 0 0 (F0 m pc ls st0) st (Qc As.toArray) free := by
  intro H locs ls hP hD hS hl
  obtain ⟨v1, v3, v4, v5, v6⟩ := hV
  exact va_runS (bytes := b) (maxL := maxL) (ret := ret) (n := n) C.1 hM ⟨callB_of n C.1.2.2.2.2 (ik_goodIn v4) rfl hR.1 hR.2.1 (by rw [v5]; exact C.1.2.2.2.2 _ v3) (C.1.2.2.2.2 _ hl1) v6 hR.2.2, C.1.2.2.2.2 _ v1⟩ ⟨ik_blindZ, fun U hU hW => ⟨rfl, by rw [hU]; exact ik_subP hC hP, (hD.sub isC hnd hC).weaken (fun _ _ _ _ => trivial), ik_K.warm hW C.2, ik_Zcall hZ hA (fun k q h => hB k q hD h) hC hS U hU hW⟩⟩ rfl hn hl.1 hst (lv_room hroom) hdg hkc
/-- a method of a text -/
theorem ik_runT (C : ik_C p m c cc nL s args own D cI cS) (hZ : ik_Zs aK aV ka A1 s s.heap) (hA : ∀ q, A q → A1 q) (i : Nat) (hi : i < 26) (hM : Met l y (ik_ws y b maxL ret) rm (ik_PZ D cI cS aK aV ka (.ref (aK i) :: As) []) Qc 0 0 free) (hV : ik_V y "java/lang/String" b maxL ret n) (hl1 : Cond.methodLink own index y ∈ wsL_law) (hR : rm.cells = 0 ∧ rm.slots = 0 ∧ rm.frames + 1 ≤ R.frames ∧ 8 + (maxL + 11) + rm.locals ≤ R.locals) (hn : As.length = n) (hst : st0 = As.reverse ++ .ref (aK i) :: st) (hroom : (st.map fun v => v.category).sum ≤ 8) (hdg : decode cc pc = .ok (.invokevirtual index, 3)) (hkc : kc ≤ R.cells ∧ ks ≤ R.slots) : ∀ (H : Heap) (locs : List Loc) (ls : Array Slot), va_P D vwCl ws H → va_D B ws → va_S A s.heap H locs → lv_has ls nL lv → va_Run p l e R s m args below meth c H locs kc ks 0 0 (F0 m pc ls st0) st (Qc (.ref (aK i) :: As).toArray) free := by
  intro H locs ls hP hD hS hl
  obtain ⟨v1, v2, v3, v4, v5, v6⟩ := hV
  have hk : ∀ q : Nat, q < s.heap.size → ¬ A1 q → H[q]? = s.heap[q]? := fun q h1 h2 => hS.2.1 q h1 (fun h => h2 (hA q h))
  refine va_runV (C := "java/lang/String") (bytes := b) (maxL := maxL) (ret := ret) (n := n) C.1 hM ⟨callB_of n C.1.2.2.2.2 (ik_goodIn v4) rfl hR.1 hR.2.1 (by rw [v5]; exact C.1.2.2.2.2 _ v3) (C.1.2.2.2.2 _ hl1) v6 hR.2.2, C.1.2.2.2.2 _ v1, C.1.2.2.2.2 _ v2⟩ ⟨ik_blindZ, ?_, fun U hU hW => ⟨rfl, fun k q h => by simp at h, ⟨fun i j p q h => by simp at h, fun k q h => by simp at h⟩, ik_K.warm hW C.2, ?_⟩⟩ rfl hn hl.1 hst (lv_room hroom) hdg hkc
  · obtain ⟨cell, h1, h2, h3, -⟩ := (hZ.1 i hi).1.kept hk
    exact ⟨cell, h1, h2, h3⟩
  · rw [hU]
    exact ik_Zs.narrow (ik_Zs.warm hW (hZ.kept hk)) (fun q hq => by obtain ⟨k, e', h⟩ := hq; simp at h)
end IKZC
end IKZ
theorem ik_metRZ {l : Launch} {D : va_G} {cI cS : ClassId} {aK aV : Nat → Nat} {ka : Nat} {y : MethodName} {b : ByteArray} {maxL : Nat} {ret : Option FieldType} {rm : Room} {av : List Value} {w : va_W} {v : Option Value} (own : String) (ho : y.cls = own) (hy : plainName y.cls = true) (hlen : (lg_sl av).length ≤ maxL) (lv : List (Nat × Value)) (hlv : lv_args 0 av = lv)
    (body : ∀ (p : Program) (e : Env) (s : State) (m : MethodId) (below : List Frame) (meth : Method) (c : Code), ik_C p m c b maxL s av.toArray own D cI cS → meth.sig.returnType = ret → meth.locks = false → ik_Zs aK aV ka (ik_in w) s s.heap → ik_G p l e rm s m av.toArray below meth c D ik_no (fun _ => True) maxL 0 0 (MQ below (ik_R v) av.toArray s 0 0 ik_no) 0 lv [] w) : Met l y (ik_ws y b maxL ret) rm (ik_PZ D cI cS aK aV ka av w) (ik_R v) 0 0 ik_no := by
  refine Met.ofW (cc := b) (maxL := maxL) (ret := ret) hy rfl ?_
  intro p e s m args below meth c s₁ B hml hv
  obtain ⟨rfl, hP, hD, hK, hZ⟩ := hv
  have hts := atoms_spec (ws := ik_ws y b maxL ret) B.pre
  have hown : s.vm.findClass own = some m.cls := by rw [← ho]; exact findClass_of_methodNamed B.named
  have hl := lv_entry av (n := maxL) hlen
  rw [lg_entry_eq]
  subst hlv
  exact body p e s m below meth c ⟨⟨B.exec, B.bytes, hml, hown, fun w hw => hts w (List.mem_cons_of_mem _ hw)⟩, hK⟩ B.returns B.notSynchronized hZ s.heap [] _ hP hD va_S.rf hl
theorem ik_metWZ {l : Launch} {D : va_G} {cI cS : ClassId} {aK aV : Nat → Nat} {ka : Nat} {y : MethodName} {b : ByteArray} {maxL : Nat} {ret : Option FieldType} {rm : Room} {av : List Value} {w w1 : va_W} {v : Option Value} (own : String) (ho : y.cls = own) (hy : plainName y.cls = true) (hlen : (lg_sl av).length ≤ maxL) (lv : List (Nat × Value)) (hlv : lv_args 0 av = lv)
    (body : ∀ (p : Program) (e : Env) (s : State) (m : MethodId) (below : List Frame) (meth : Method) (c : Code), ik_C p m c b maxL s av.toArray own D cI cS → meth.sig.returnType = ret → meth.locks = false → ik_Zs aK aV ka (ik_in w) s s.heap → ik_G p l e rm s m av.toArray below meth c D (ik_in w) (ik_in w) maxL 0 0 (MQ below (ik_Q v D w1 w) av.toArray s 0 0 (ik_in w)) 0 lv [] w) : Met l y (ik_ws y b maxL ret) rm (ik_PZ D cI cS aK aV ka av w) (ik_Q v D w1 w) 0 0 (ik_in w) := by
  refine Met.ofW (cc := b) (maxL := maxL) (ret := ret) hy rfl ?_
  intro p e s m args below meth c s₁ B hml hv
  obtain ⟨rfl, hP, hD, hK, hZ⟩ := hv
  have hts := atoms_spec (ws := ik_ws y b maxL ret) B.pre
  have hown : s.vm.findClass own = some m.cls := by rw [← ho]; exact findClass_of_methodNamed B.named
  have hl := lv_entry av (n := maxL) hlen
  rw [lg_entry_eq]
  subst hlv
  exact body p e s m below meth c ⟨⟨B.exec, B.bytes, hml, hown, fun w hw => hts w (List.mem_cons_of_mem _ hw)⟩, hK⟩ B.returns B.notSynchronized hZ s.heap [] _ hP ⟨hD.1, fun k q hq => ⟨k, q.2, hq⟩⟩ va_S.rf hl
theorem ik_noA {A : Nat → Prop} : ∀ q, ik_no q → A q := fun _ h => h.elim
theorem ik_hBr {ws : va_W} {B : Nat → Prop} : ∀ (k : Nat) (q : Nat × va_E), va_D B ws → ws[k]? = some q → ik_in ws q.1 := fun k q _ h => ⟨k, q.2, h⟩
theorem ik_hBw {ws : va_W} {A : Nat → Prop} : ∀ (k : Nat) (q : Nat × va_E), va_D A ws → ws[k]? = some q → A q.1 := fun k q hD h => hD.2 k q h

theorem mv_J0_coder_7d493 : ik_V yJ0_coder_7d493 "java/lang/String" cJ0_coder_7d493 1 (some .byte) 0 := ⟨wl_37_17, wl_37_18, wl_37_13, wl_37_19, by decide +kernel⟩
theorem mv_J0_length_8abf5 : ik_V yJ0_length_8abf5 "java/lang/String" cJ0_length_8abf5 1 (some .int) 0 := ⟨wl_37_11, wl_37_12, wl_37_13, wl_37_14, by decide +kernel⟩
theorem mv_J0_isLatin1_aae02 : ik_V yJ0_isLatin1_aae02 "java/lang/String" cJ0_isLatin1_aae02 1 (some .boolean) 0 := ⟨wl_38_3, wl_38_4, wl_37_13, wl_38_5, by decide +kernel⟩
theorem mv_J0_charAt_5068e : ik_V yJ0_charAt_5068e "java/lang/String" cJ0_charAt_5068e 2 (some .char) 1 := ⟨wl_37_23, wl_38_0, wl_37_13, wl_38_1, by decide +kernel⟩
theorem ms_J3_checkIndex_8e157 : ik_S yJ3_checkIndex_8e157 RJ3 cJ3_checkIndex_8e157 3 (some .int) 3 := ⟨wl_38_15, wl_38_16, wl_38_17, by decide +kernel⟩
theorem ms_J0_checkIndex_df160 : ik_S yJ0_checkIndex_df160 RJ0 cJ0_checkIndex_df160 2 none 2 := ⟨wl_38_11, wl_37_13, wl_38_12, by decide +kernel⟩
theorem ms_J1_charAt_3b067 : ik_S yJ1_charAt_3b067 RJ1 cJ1_charAt_3b067 2 (some .char) 2 := ⟨wl_38_7, wl_38_8, wl_38_9, by decide +kernel⟩
set_option maxHeartbeats 4000000 in
set_option maxRecDepth 100000 in
theorem c_J0_coder_7d493 (l : Launch) (D : va_G) (cI cS : ClassId) (aK aV : Nat → Nat) (ka : Nat) (i : Nat) (hi : i < 26) : Met l yJ0_coder_7d493 (ik_ws yJ0_coder_7d493 cJ0_coder_7d493 1 (some .byte)) ({ frames := 0, cells := 0, slots := 0, locals := 0 } : Room) (ik_PZ D cI cS aK aV ka [.ref (aK i)] []) (ik_R (some (.int 0))) 0 0 ik_no := by
  refine ik_metRZ RJ0 rfl (by decide) (Nat.le_of_ble_eq_true rfl) [(0, .ref (aK i))] rfl ?_
  intro p e s m below meth c C hr hlk hZ
  refine ik_gets C ik_noA hZ.2.1 wl_37_20 rfl dJ0_coder_7d493_0 ?_
  refine ik_if_eq C 13 dJ0_coder_7d493_3 (by decide) (fun hc => absurd hc (by decide)) (fun _ => ?_)
  refine ik_aload_n C 0 rfl rfl dJ0_coder_7d493_6 ?_
  refine ik_sget C ik_noA (hZ.1 i hi).2.1 wl_37_21 rfl dJ0_coder_7d493_7 ?_
  refine ik_goto C 14 dJ0_coder_7d493_10 (by decide) ?_
  exact ik_zretR C hr (by decide) hlk dJ0_coder_7d493_14
set_option maxHeartbeats 4000000 in
set_option maxRecDepth 100000 in
theorem c_J0_isLatin1_aae02 (l : Launch) (D : va_G) (cI cS : ClassId) (aK aV : Nat → Nat) (ka : Nat) (i : Nat) (hi : i < 26) : Met l yJ0_isLatin1_aae02 (ik_ws yJ0_isLatin1_aae02 cJ0_isLatin1_aae02 1 (some .boolean)) ({ frames := 0, cells := 0, slots := 0, locals := 0 } : Room) (ik_PZ D cI cS aK aV ka [.ref (aK i)] []) (ik_R (some (.int 1))) 0 0 ik_no := by
  refine ik_metRZ RJ0 rfl (by decide) (Nat.le_of_ble_eq_true rfl) [(0, .ref (aK i))] rfl ?_
  intro p e s m below meth c C hr hlk hZ
  refine ik_gets C ik_noA hZ.2.1 wl_37_20 rfl dJ0_isLatin1_aae02_0 ?_
  refine ik_if_eq C 17 dJ0_isLatin1_aae02_3 (by decide) (fun hc => absurd hc (by decide)) (fun _ => ?_)
  refine ik_aload_n C 0 rfl rfl dJ0_isLatin1_aae02_6 ?_
  refine ik_sget C ik_noA (hZ.1 i hi).2.1 wl_37_21 rfl dJ0_isLatin1_aae02_7 ?_
  refine ik_if_ne C 17 dJ0_isLatin1_aae02_10 (by decide) (fun hc => absurd rfl hc) (fun _ => ?_)
  refine ik_iconst (v := (1 : Int32)) C (by decide) dJ0_isLatin1_aae02_13 ?_
  refine ik_goto C 18 dJ0_isLatin1_aae02_14 (by decide) ?_
  exact ik_zretR C hr (by decide) hlk dJ0_isLatin1_aae02_18
set_option maxHeartbeats 4000000 in
set_option maxRecDepth 100000 in
theorem c_J0_length_8abf5 (l : Launch) (D : va_G) (cI cS : ClassId) (aK aV : Nat → Nat) (ka : Nat) (i : Nat) (hi : i < 26) : Met l yJ0_length_8abf5 (ik_ws yJ0_length_8abf5 cJ0_length_8abf5 1 (some .int)) ({ frames := 1, cells := 0, slots := 0, locals := 20 } : Room) (ik_PZ D cI cS aK aV ka [.ref (aK i)] []) (ik_R (some (.int (Int32.ofNat (st_len i) >>> ((0 : Int32) &&& 31))))) 0 0 ik_no := by
  refine ik_metRZ RJ0 rfl (by decide) (Nat.le_of_ble_eq_true rfl) [(0, .ref (aK i))] rfl ?_
  intro p e s m below meth c C hr hlk hZ
  refine ik_aload_n C 0 rfl rfl dJ0_length_8abf5_0 ?_
  refine ik_sget C ik_noA (hZ.1 i hi).2.2.1 wl_37_15 rfl dJ0_length_8abf5_1 ?_
  refine ik_tlen C ik_noA (hZ.1 i hi).2.2.2.1 rfl dJ0_length_8abf5_4 ?_
  refine ik_aload_n C 0 rfl rfl dJ0_length_8abf5_5 ?_
  have hM := c_J0_coder_7d493 l D cI cS aK aV ka i hi
  refine ik_goR (ik_runT (st := [.int (Int32.ofNat (st_len i))]) (As := []) C hZ ik_noA i hi hM mv_J0_coder_7d493 wl_37_16 ⟨rfl, rfl, Nat.le_of_ble_eq_true rfl, Nat.le_of_ble_eq_true rfl⟩ rfl rfl (Nat.le_of_ble_eq_true rfl) dJ0_length_8abf5_6 ⟨Nat.zero_le _, Nat.zero_le _⟩) rfl ?_
  refine ik_ishr C dJ0_length_8abf5_9 ?_
  exact ik_iretR C hr hlk dJ0_length_8abf5_10
set_option maxHeartbeats 4000000 in
set_option maxRecDepth 100000 in
theorem c_J3_checkIndex_8e157n (l : Launch) (D : va_G) (cI cS : ClassId) (aK aV : Nat → Nat) (ka : Nat) (x0 x1 : Int32) (h0 : ¬ x0 < 0) (h1 : x0 < x1) : Met l yJ3_checkIndex_8e157 (ik_ws yJ3_checkIndex_8e157 cJ3_checkIndex_8e157 3 (some .int)) ({ frames := 0, cells := 0, slots := 0, locals := 0 } : Room) (ik_PZ D cI cS aK aV ka [.int x0, .int x1, .null] []) (ik_R (some (.int x0))) 0 0 ik_no := by
  refine ik_metRZ RJ3 rfl (by decide) (Nat.le_of_ble_eq_true rfl) [(0, .int x0), (1, .int x1), (2, .null)] rfl ?_
  intro p e s m below meth c C hr hlk hZ
  refine ik_iload_n C 0 rfl rfl dJ3_checkIndex_8e157_0 ?_
  refine ik_if_lt C 9 dJ3_checkIndex_8e157_1 (by decide) (fun hc => absurd hc h0) (fun _ => ?_)
  refine ik_iload_n C 0 rfl rfl dJ3_checkIndex_8e157_4 ?_
  refine ik_iload_n C 1 rfl rfl dJ3_checkIndex_8e157_5 ?_
  refine ik_icmp_lt C 16 dJ3_checkIndex_8e157_6 (by decide) (fun _ => ?_) (fun hc => absurd h1 hc)
  refine ik_iload_n C 0 rfl rfl dJ3_checkIndex_8e157_16 ?_
  exact ik_iretR C hr hlk dJ3_checkIndex_8e157_17
set_option maxHeartbeats 4000000 in
set_option maxRecDepth 100000 in
theorem c_J3_checkIndex_8e157r (l : Launch) (D : va_G) (cI cS : ClassId) (aK aV : Nat → Nat) (ka : Nat) (t : Nat) (x0 x1 : Int32) (h0 : ¬ x0 < 0) (h1 : x0 < x1) : Met l yJ3_checkIndex_8e157 (ik_ws yJ3_checkIndex_8e157 cJ3_checkIndex_8e157 3 (some .int)) ({ frames := 0, cells := 0, slots := 0, locals := 0 } : Room) (ik_PZ D cI cS aK aV ka [.int x0, .int x1, .ref t] []) (ik_R (some (.int x0))) 0 0 ik_no := by
  refine ik_metRZ RJ3 rfl (by decide) (Nat.le_of_ble_eq_true rfl) [(0, .int x0), (1, .int x1), (2, .ref t)] rfl ?_
  intro p e s m below meth c C hr hlk hZ
  refine ik_iload_n C 0 rfl rfl dJ3_checkIndex_8e157_0 ?_
  refine ik_if_lt C 9 dJ3_checkIndex_8e157_1 (by decide) (fun hc => absurd hc h0) (fun _ => ?_)
  refine ik_iload_n C 0 rfl rfl dJ3_checkIndex_8e157_4 ?_
  refine ik_iload_n C 1 rfl rfl dJ3_checkIndex_8e157_5 ?_
  refine ik_icmp_lt C 16 dJ3_checkIndex_8e157_6 (by decide) (fun _ => ?_) (fun hc => absurd h1 hc)
  refine ik_iload_n C 0 rfl rfl dJ3_checkIndex_8e157_16 ?_
  exact ik_iretR C hr hlk dJ3_checkIndex_8e157_17
set_option maxHeartbeats 4000000 in
set_option maxRecDepth 100000 in
theorem c_J0_checkIndex_df160 (l : Launch) (D : va_G) (cI cS : ClassId) (aK aV : Nat → Nat) (ka : Nat) (x0 x1 : Int32) (h0 : ¬ x0 < 0) (h1 : x0 < x1) : Met l yJ0_checkIndex_df160 (ik_ws yJ0_checkIndex_df160 cJ0_checkIndex_df160 2 none) ({ frames := 1, cells := 0, slots := 0, locals := 30 } : Room) (ik_PZ D cI cS aK aV ka [.int x0, .int x1] []) (ik_R none) 0 0 ik_no := by
  refine ik_metRZ RJ0 rfl (by decide) (Nat.le_of_ble_eq_true rfl) [(0, .int x0), (1, .int x1)] rfl ?_
  intro p e s m below meth c C hr hlk hZ
  refine ik_iload_n C 0 rfl rfl dJ0_checkIndex_df160_0 ?_
  refine ik_iload_n C 1 rfl rfl dJ0_checkIndex_df160_1 ?_
  rcases hZ.2.2.1 with hQ | ⟨t, hQ⟩
  · refine ik_gets C ik_noA hQ wl_38_13 rfl dJ0_checkIndex_df160_2 ?_
    have hM := c_J3_checkIndex_8e157n l D cI cS aK aV ka x0 x1 h0 h1
    refine ik_goR (ik_runSZ (st := []) (As := [.int x0, .int x1, .null]) C hZ ik_noA ik_hBr hM ms_J3_checkIndex_8e157 wl_38_14 ⟨rfl, rfl, Nat.le_of_ble_eq_true rfl, Nat.le_of_ble_eq_true rfl⟩ [] rfl rfl rfl rfl (Nat.le_of_ble_eq_true rfl) dJ0_checkIndex_df160_5 ⟨Nat.zero_le _, Nat.zero_le _⟩) rfl ?_
    refine ik_pop C rfl dJ0_checkIndex_df160_8 ?_
    exact ik_vretR C hr hlk dJ0_checkIndex_df160_9
  · refine ik_gets C ik_noA hQ wl_38_13 rfl dJ0_checkIndex_df160_2 ?_
    have hM := c_J3_checkIndex_8e157r l D cI cS aK aV ka t x0 x1 h0 h1
    refine ik_goR (ik_runSZ (st := []) (As := [.int x0, .int x1, .ref t]) C hZ ik_noA ik_hBr hM ms_J3_checkIndex_8e157 wl_38_14 ⟨rfl, rfl, Nat.le_of_ble_eq_true rfl, Nat.le_of_ble_eq_true rfl⟩ [] rfl rfl rfl rfl (Nat.le_of_ble_eq_true rfl) dJ0_checkIndex_df160_5 ⟨Nat.zero_le _, Nat.zero_le _⟩) rfl ?_
    refine ik_pop C rfl dJ0_checkIndex_df160_8 ?_
    exact ik_vretR C hr hlk dJ0_checkIndex_df160_9
set_option maxHeartbeats 4000000 in
set_option maxRecDepth 100000 in
theorem c_J1_charAt_3b067 (l : Launch) (D : va_G) (cI cS : ClassId) (aK aV : Nat → Nat) (ka : Nat) (i : Nat) (hi : i < 26) (x1 : Int32) (h0 : vp_in x1 (st_len i)) (h1 : x1 < Int32.ofNat (st_len i)) : Met l yJ1_charAt_3b067 (ik_ws yJ1_charAt_3b067 cJ1_charAt_3b067 2 (some .char)) ({ frames := 2, cells := 0, slots := 0, locals := 60 } : Room) (ik_PZ D cI cS aK aV ka [.ref (aV i), .int x1] []) (ik_R (some (.int (st_ch i x1.toNatClampNeg &&& 255)))) 0 0 ik_no := by
  refine ik_metRZ RJ1 rfl (by decide) (Nat.le_of_ble_eq_true rfl) [(0, .ref (aV i)), (1, .int x1)] rfl ?_
  intro p e s m below meth c C hr hlk hZ
  have h00 : ¬ x1 < 0 := fun h => h0 (Or.inl h)
  refine ik_iload_n C 1 rfl rfl dJ1_charAt_3b067_0 ?_
  refine ik_aload_n C 0 rfl rfl dJ1_charAt_3b067_1 ?_
  refine ik_tlen C ik_noA (hZ.1 i hi).2.2.2.1 rfl dJ1_charAt_3b067_2 ?_
  have hM := c_J0_checkIndex_df160 l D cI cS aK aV ka x1 (Int32.ofNat (st_len i)) h00 h1
  refine ik_goR (ik_runSZ (st := []) (As := [.int x1, .int (Int32.ofNat (st_len i))]) C hZ ik_noA ik_hBr hM ms_J0_checkIndex_df160 wl_38_10 ⟨rfl, rfl, Nat.le_of_ble_eq_true rfl, Nat.le_of_ble_eq_true rfl⟩ [] rfl rfl rfl rfl (Nat.le_of_ble_eq_true rfl) dJ1_charAt_3b067_3 ⟨Nat.zero_le _, Nat.zero_le _⟩) rfl ?_
  refine ik_aload_n C 0 rfl rfl dJ1_charAt_3b067_6 ?_
  refine ik_iload_n C 1 rfl rfl dJ1_charAt_3b067_7 ?_
  refine ik_tb C ik_noA (hZ.1 i hi).2.2.2.1 h0 rfl dJ1_charAt_3b067_8 ?_
  refine ik_sipush (v := (255 : Int32)) C (by decide) dJ1_charAt_3b067_9 ?_
  refine ik_iand C dJ1_charAt_3b067_12 ?_
  refine ik_i2c C (sc_c2 _) dJ1_charAt_3b067_13 ?_
  exact ik_zretR C hr (sc_nar _) hlk dJ1_charAt_3b067_14
set_option maxHeartbeats 4000000 in
set_option maxRecDepth 100000 in
theorem c_J0_charAt_5068e (l : Launch) (D : va_G) (cI cS : ClassId) (aK aV : Nat → Nat) (ka : Nat) (i : Nat) (hi : i < 26) (x1 : Int32) (h0 : vp_in x1 (st_len i)) (h1 : x1 < Int32.ofNat (st_len i)) : Met l yJ0_charAt_5068e (ik_ws yJ0_charAt_5068e cJ0_charAt_5068e 2 (some .char)) ({ frames := 3, cells := 0, slots := 0, locals := 90 } : Room) (ik_PZ D cI cS aK aV ka [.ref (aK i), .int x1] []) (ik_R (some (.int (st_ch i x1.toNatClampNeg &&& 255)))) 0 0 ik_no := by
  refine ik_metRZ RJ0 rfl (by decide) (Nat.le_of_ble_eq_true rfl) [(0, .ref (aK i)), (1, .int x1)] rfl ?_
  intro p e s m below meth c C hr hlk hZ
  refine ik_aload_n C 0 rfl rfl dJ0_charAt_5068e_0 ?_
  have hM := c_J0_isLatin1_aae02 l D cI cS aK aV ka i hi
  refine ik_goR (ik_runT (st := []) (As := []) C hZ ik_noA i hi hM mv_J0_isLatin1_aae02 wl_38_2 ⟨rfl, rfl, Nat.le_of_ble_eq_true rfl, Nat.le_of_ble_eq_true rfl⟩ rfl rfl (Nat.le_of_ble_eq_true rfl) dJ0_charAt_5068e_1 ⟨Nat.zero_le _, Nat.zero_le _⟩) rfl ?_
  refine ik_if_eq C 16 dJ0_charAt_5068e_4 (by decide) (fun hc => absurd hc (by decide)) (fun _ => ?_)
  refine ik_aload_n C 0 rfl rfl dJ0_charAt_5068e_7 ?_
  refine ik_sget C ik_noA (hZ.1 i hi).2.2.1 wl_37_15 rfl dJ0_charAt_5068e_8 ?_
  refine ik_iload_n C 1 rfl rfl dJ0_charAt_5068e_11 ?_
  have hM := c_J1_charAt_3b067 l D cI cS aK aV ka i hi x1 h0 h1
  refine ik_goR (ik_runSZ (st := []) (As := [.ref (aV i), .int x1]) C hZ ik_noA ik_hBr hM ms_J1_charAt_3b067 wl_38_6 ⟨rfl, rfl, Nat.le_of_ble_eq_true rfl, Nat.le_of_ble_eq_true rfl⟩ [] rfl rfl rfl rfl (Nat.le_of_ble_eq_true rfl) dJ0_charAt_5068e_12 ⟨Nat.zero_le _, Nat.zero_le _⟩) rfl ?_
  exact ik_zretR C hr (sc_nar _) hlk dJ0_charAt_5068e_15
def ik_gs {α : Type} (x : Int32) (n : Nat) (k : Option α) : Option α := if (0 ≤ x.toInt ∧ x.toInt < n) ∧ x < Int32.ofNat n then k else none
theorem ik_gsi {α : Type} {x : Int32} {n : Nat} {k : Option α} {r : α} (h : ik_gs x n k = some r) : vp_in x n ∧ x < Int32.ofNat n := by
  unfold ik_gs at h
  split at h
  · rename_i hx; exact ⟨vp_in_iff.mpr hx.1, hx.2⟩
  · cases h
theorem ik_gsk {α : Type} {x : Int32} {n : Nat} {k : Option α} {r : α} (h : ik_gs x n k = some r) : k = some r := by
  unfold ik_gs at h
  split at h
  · exact h
  · cases h
