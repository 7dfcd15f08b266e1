/-! making objects: rows, and what a constructor's contract is -/
/-- what the tables say of nest mates' constructors and of rows of Sheets -/
def ik_E (U : State) : Prop := va_Nw (.methodLinkNest RX6 24 yX4_init RX6) U ∧ va_Nw (.methodLinkNest RX6 44 yX2_init RX6) U ∧ va_Nw (.methodLinkNest RX1 20 yX0_init RX6) U ∧ va_Nw (.methodLinkNest RX4 11 yX3_init RX6) U ∧ va_AO RX2 U
theorem ik_E.warm {s U : State} (hW : s.WarmedH U.vm) (h : ik_E s) : ik_E U := ⟨va_Nw.warmM hW h.1, va_Nw.warmM hW h.2.1, va_Nw.warmM hW h.2.2.1, va_Nw.warmM hW h.2.2.2.1, va_AO.moved hW.alike h.2.2.2.2⟩
/-- a constructor's start: the new object alone, the heap's size, the tables -/
def ik_PN (D : va_G) (cI cS : ClassId) (h0 : Nat) (w : va_W) (sz : Nat) : Array Value → State → Prop := va_Pc [.ref h0] (fun U => U.heap.size = sz ∧ va_P D vwCl w U.heap ∧ va_D (fun _ => True) w ∧ ik_K D cI cS U ∧ ik_E U)
theorem ik_blindN {D : va_G} {cI cS : ClassId} {h0 sz : Nat} {w : va_W} : FrameBlind (ik_PN D cI cS h0 w sz) := by
  intro a U g mk h
  obtain ⟨h1, h2, h3, h4, ⟨k1, k2, k3⟩, e1, e2, e3, e4, e5⟩ := h
  exact ⟨h1, h2, h3, h4, ⟨va_K.moved (u := U) (U := U.calling g mk a) (Vm.Alike.refl U.vm) k1, va_Nw.same rfl (u := U) (U := U.calling g mk a) rfl k2, va_Nw.same rfl (u := U) (U := U.calling g mk a) rfl k3⟩, va_Nw.same rfl (u := U) (U := U.calling g mk a) rfl e1, va_Nw.same rfl (u := U) (U := U.calling g mk a) rfl e2, va_Nw.same rfl (u := U) (U := U.calling g mk a) rfl e3, va_Nw.same rfl (u := U) (U := U.calling g mk a) rfl e4, va_AO.moved (u := U) (U := U.calling g mk a) (Vm.Alike.refl U.vm) e5⟩
/-- a constructor's end: the world that it made, by the addresses of the new cells -/
def ik_QN {S : Type} (D : va_G) (w : va_W) (sz : Nat) (w1 : S → va_W) : Array Value → State → Outcome → State → Prop := fun _ st oc t => oc = .returned none ∧ (∃ u : S, va_P D vwCl (w1 u) t.heap ∧ va_D (va_A w sz) (w1 u)) ∧ va_F (va_A w sz) st t
section IKN
variable {p : Program} {l : Launch} {e : Env} {R : Room} {s : State} {m : MethodId} {args : Array Value} {below : List Frame} {meth : Method} {c : Code} {Q : State → Prop} {D : va_G} {cI cS : ClassId} {A B : Nat → Prop} {nL kc ks : Nat} {cc : ByteArray} {own : String} {pc : Nat} {lv : List (Nat × Value)} {st : List Value} {ws : va_W}
theorem ik_cI (hK : ik_K D cI cS s) {tys : List (ClassId × FieldType)} {cA : ClassId} (h : va_K D vwCl (tys ++ [(cA, .int)]) s) : cA = cI := by
  have h1 : s.vm.findClass ("[" ++ FieldType.int.toString) = some cA := (h.2 tys.length (cA, .int) (by simp)).2
  have h2 : s.vm.findClass ("[" ++ FieldType.int.toString) = some cI := (hK.1.2 0 (cI, .int) rfl).2
  rw [h1] at h2
  exact Option.some.inj h2
theorem ik_cS (hK : ik_K D cI cS s) {tys : List (ClassId × FieldType)} {cA : ClassId} (h : va_K D vwCl (tys ++ [(cA, .object RX2)]) s) : cA = cS := by
  obtain ⟨kA, comp, g1, g2, g3, h1⟩ := (h.2 tys.length (cA, .object RX2) (by simp)).2
  obtain ⟨kA', comp', g1', g2', g3', h2⟩ := (hK.1.2 1 (cS, .object RX2) rfl).2
  rw [h1] at h2
  exact Option.some.inj h2
theorem ik_newI (C : ik_C p m c cc nL s args own D cI cS) (hA : ∀ q, s.heap.size ≤ q → A q) (harr : Cond.arrayClass .int ∈ wsL_law) {x : Int32} (N : Nat) (hn : ¬ x < 0) (hN : x.toNatClampNeg = N) (hb : N * componentBytes .int ≤ 536870912) (hcells : kc + 1 ≤ R.cells) (hslots : ks + N ≤ R.slots) (ws' : Nat → va_W) (hw : ∀ q, ws ++ [(q, .inl (cI, N, .inl (fun _ => 0)))] = ws' q) (hdg : decode cc pc = .ok (.newarray .int, 2)) (kk : ∀ q, ik_G p l e R s m args below meth c D A A nL (kc + 1) (ks + N) Q (pc + 2) lv (.ref q :: st) (ws' q)) : ik_G p l e R s m args below meth c D A A nL kc ks Q pc lv (.int x :: st) ws := by
  intro H locs ls hP hD hS h
  refine va_newa (atype := .int) (ty := .int) (a0 := (N, .inl (fun _ => 0))) C.1.1 C.1.2.1 (C.1.2.2.2.2 _ harr) rfl C.2.1 hP hD hS hA (fun cA => rfl) hn hN hb hcells hslots hdg (fun q cA H1 hK1 hP1 hD1 hS1 => ?_)
  have e1 : cA = cI := ik_cI C.2 hK1
  subst e1
  rw [hw q] at hP1 hD1
  exact kk q H1 locs ls hP1 hD1 hS1 h
theorem ik_newQ (C : ik_C p m c cc nL s args own D cI cS) (hE : ik_E s) (hA : ∀ q, s.heap.size ≤ q → A q) {index : Nat} (hcl : Cond.classLink own index RX2 ∈ wsL_law) {x : Int32} (N : Nat) (hn : ¬ x < 0) (hN : x.toNatClampNeg = N) (hb : N * 4 ≤ 536870912) (hcells : kc + 1 ≤ R.cells) (hslots : ks + N ≤ R.slots) (ws' : Nat → va_W) (hw : ∀ q, ws ++ [(q, .inl (cS, N, .inr (.inr (.inr (.inr (fun _ => none))))))] = ws' q) (hdg : decode cc pc = .ok (.anewarray index, 3)) (kk : ∀ q, ik_G p l e R s m args below meth c D A A nL (kc + 1) (ks + N) Q (pc + 3) lv (.ref q :: st) (ws' q)) : ik_G p l e R s m args below meth c D A A nL kc ks Q pc lv (.int x :: st) ws := by
  intro H locs ls hP hD hS h
  refine va_newq C.1.1 C.1.2.1 C.1.2.2.2.1 (C.1.2.2.2.2 _ hcl) hE.2.2.2.2 C.2.1 hP hD hS hA hn hN hb hcells hslots hdg (fun q cA H1 hK1 hP1 hD1 hS1 => ?_)
  have e1 : cA = cS := ik_cS C.2 hK1
  subst e1
  rw [hw q] at hP1 hD1
  exact kk q H1 locs ls hP1 hD1 hS1 h
theorem ik_newO (C : ik_C p m c cc nL s args own D cI cS) (hA : ∀ q, s.heap.size ≤ q → A q) {CC : String} {T : u_T} {N : Nat} (ci : Nat) {index : Nat} (hin : ∀ w ∈ u_ws CC T N, w ∈ wsL_law) (ty : Nat → FieldType) (hty : ∀ k, k < N → parseFieldDescriptor (T k).2.2.1 = some (ty k)) (hcl : Cond.classLink own index CC ∈ wsL_law) (hinst : Cond.instantiable CC N ∈ wsL_law) (hini : Cond.initialized CC ∈ wsL_law) (hc : vwCl[ci]? = some (CC, T, N)) (fs : List Value) (hfs : ∀ j, j < N → defaultValue (ty j) = vp_V fs j) (hcells : kc + 1 ≤ R.cells) (hslots : ks + N ≤ R.slots) (ws' : Nat → va_W) (hw : ∀ q, ws ++ [(q, .inr (ci, fs))] = ws' q) (hdg : decode cc pc = .ok (.new index, 3)) (kk : ∀ q, ik_G p l e R s m args below meth c D A A nL (kc + 1) (ks + N) Q (pc + 3) lv (.ref q :: st) (ws' q)) : ik_G p l e R s m args below meth c D A A nL kc ks Q pc lv st ws := by
  intro H locs ls hP hD hS h
  refine va_new (ci := ci) (fs := fs) (C := CC) (T := T) (N := N) C.1.1 C.1.2.1 C.1.2.2.2.2 hin ty hty C.1.2.2.2.1 (C.1.2.2.2.2 _ hcl) (C.1.2.2.2.2 _ hinst) (C.1.2.2.2.2 _ hini) C.2.1 hP hD hS hA hc hfs hcells hslots hdg (fun q H1 hP1 hD1 hS1 => ?_)
  rw [hw q] at hP1 hD1
  exact kk q H1 locs ls hP1 hD1 hS1 h
theorem ik_putF (C : ik_C p m c cc nL s args own D cI cS) (hin2 : meth.name = "<init>") {ref CC : String} {T : u_T} {N ci index : Nat} (hin : ∀ w ∈ u_ws CC T N, w ∈ wsL_law) (ty0 : Nat → FieldType) (hty : ∀ k, k < N → parseFieldDescriptor (T k).2.2.1 = some (ty0 k)) (hnm : ∀ a, a < N → ∀ b, b < N → a ≠ b → (T a).2.1 ≠ (T b).2.1) (q0 : Nat) {a : Nat} {fs : List Value} (he : ws[q0]? = some (a, .inr (ci, fs))) (hc : vwCl[ci]? = some (CC, T, N)) (k : Nat) (hk : k < N) (hlink : Cond.fieldLink own index ref (T k).2.1 (T k).2.2.1 ∈ wsL_law) (hsame : (T k).1 = ref) (hfin : (T k).2.2.2 = true) (hdecl : (T k).1 = own) {v : Value} (hn : narrow (ty0 k) v = v) (hfit : fits (ty0 k) v = true) (hl : k < fs.length) (ws' : va_W) (hw : ws.set q0 (a, .inr (ci, fs.set k v)) = ws')
    (hdg : decode cc pc = .ok (.putfield index, 3)) (kk : ik_G p l e R s m args below meth c D A A nL kc ks Q (pc + 3) lv st ws') : ik_G p l e R s m args below meth c D A A nL kc ks Q pc lv (v :: .ref a :: st) ws :=
  fun H locs ls hP hD hS h => va_putF (D := D) (ci := ci) (v := v) (ty := ty0 k) (C := CC) (T := T) (N := N) C.1.1 C.1.2.1 C.1.2.2.2.2 hin ty0 hty hnm C.1.2.2.2.1 C.2.1 hP hD hS q0 he hc k hk (C.1.2.2.2.2 _ hlink) (fun _ h9 => by rw [← hsame]; exact h9) hfin hin2 hdecl (hty k hk) hn hfit hl hdg (fun H1 locs1 hP1 hD1 hS1 => by subst hw; exact kk H1 locs1 ls hP1 hD1 hS1 h)
theorem ik_astQ (C : ik_C p m c cc nL s args own D cI cS) (q0 qk ci : Nat) {a n v : Nat} {vs : List Value} {f : Nat → Option Nat} {T : u_T} {N : Nat} (ha : ws[q0]? = some (a, .inl (cS, n, .inr (.inr (.inr (.inr f)))))) (hv : ws[qk]? = some (v, .inr (ci, vs))) (hc : vwCl[ci]? = some (RX2, T, N)) {i : Int32} (hin : vp_in i n) (ws' : va_W) (hw : ws.set q0 (a, .inl (cS, n, .inr (.inr (.inr (.inr (va_up f i.toNatClampNeg (some v))))))) = ws') (hdg : decode cc pc = .ok (.aastore, 1)) (kk : ik_G p l e R s m args below meth c D A A nL kc ks Q (pc + 1) lv st ws') : ik_G p l e R s m args below meth c D A A nL kc ks Q pc lv (.ref v :: .int i :: .ref a :: st) ws :=
  fun H locs ls hP hD hS h => va_astq (r := (RX2, T, N)) C.1.1 C.1.2.1 C.2.1 hP hD hS q0 1 qk ci ha rfl hv hc hin hdg (fun H1 locs1 hP1 hD1 hS1 => by subst hw; exact kk H1 locs1 ls hP1 hD1 hS1 h)
theorem ik_objI (C : ik_C p m c cc nL s args own D cI cS) {index a : Nat} (hl : Cond.methodLink own index objectInit ∈ wsL_law) (hi : Cond.instanceMethod objectInit ∈ wsL_law) (hco : Cond.code objectInit ⟨#[0xb1]⟩ 1 none ∈ wsL_law) (hframes : 1 ≤ R.frames) (hlocals : (st.map fun v => v.category).sum + 12 ≤ R.locals) (hdg : decode cc pc = .ok (.invokespecial index, 3)) (kk : ik_G p l e R s m args below meth c D A B nL kc ks Q (pc + 3) lv st ws) : ik_G p l e R s m args below meth c D A B nL kc ks Q pc lv (.ref a :: st) ws :=
  fun H locs ls hP hD hS h => W.objInit C.1.1 C.1.2.1 C.1.2.2.2.1 (C.1.2.2.2.2 _ hl) (C.1.2.2.2.2 _ hi) (C.1.2.2.2.2 _ hco) rfl (h.1.trans C.1.2.2.1.symm) rfl hdg hframes (by simpa using hlocals) (kk H locs ls hP hD hS h)
theorem ik_wsE {ws2 : va_W} (h : ws = ws2) (kk : ik_G p l e R s m args below meth c D A B nL kc ks Q pc lv st ws2) : ik_G p l e R s m args below meth c D A B nL kc ks Q pc lv st ws := h ▸ kk
/-- the cells in another order -/
theorem ik_perm (zs : List Nat) (ws2 : va_W) (hz : zs.map (fun i => ws[i]?) = ws2.map some) (hnd : va_nd zs = true) (kk : ik_G p l e R s m args below meth c D A B nL kc ks Q pc lv st ws2) : ik_G p l e R s m args below meth c D A B nL kc ks Q pc lv st ws :=
  fun H locs ls hP hD hS h => kk H locs ls (ik_subP hz hP) (hD.sub zs hnd hz) hS h
section IKNC
variable {y : MethodName} {CC : String} {b : ByteArray} {maxL index mc ms : Nat} {rm : Room} {S : Type} {h0 : Nat}
/-- behind a constructor -/
theorem ik_goN {st0 : List Value} {wc : va_W} {w1 : S → va_W} (i0 : Nat) (isR : List Nat) (wr : va_W) (hA : ∀ q, s.heap.size ≤ q → A q) (hC : [i0].map (fun i => ws[i]?) = wc.map some) (hRr : isR.map (fun i => ws[i]?) = wr.map some) (hnd : va_nd isR = true) (hdis : ∀ i ∈ isR, i ∉ [i0]) (ws' : S → va_W) (hw : ∀ u, wr ++ w1 u = ws' u) (hr : ∀ (H : Heap) (locs : List Loc) (ls : Array Slot), va_P D vwCl ws H → va_D A ws → va_S A s.heap H locs → lv_has ls nL lv → va_Run p l e R s m args below meth c H locs kc ks mc ms (F0 m pc ls st0) st (ik_QN D wc H.size w1 [.ref h0].toArray) (va_A wc H.size)) (kk : ∀ u, ik_G p l e R s m args below meth c D A A nL (kc + mc) (ks + ms) Q (pc + 3) lv st (ws' u)) : ik_G p l e R s m args below meth c D A A nL kc ks Q pc lv st0 ws := by
  intro H locs ls hP hD hS hl T hT X
  obtain ⟨v', st₀, t, T', L, h0', X', hL, e1, e2, ⟨hv, ⟨u, hP1, hD1⟩, hz, hk⟩, stp⟩ := hr H locs ls hP hD hS hl T hT X
  cases hv
  rw [h0'] at hz hk
  have hF := va_free (wc := wc) hD hS hA [i0] hC
  obtain ⟨hP2, hD2⟩ := va_join (wr := wr) (w1 := w1 u) (wc := wc) (H1 := t.heap) hP hD [i0] isR hC hRr hnd hdis hk hF hP1 hD1
  rw [hw u] at hP2 hD2
  obtain ⟨t2, a1, b1⟩ := kk u T'.heap (locs ++ L) ls (by rw [e1]; exact hP2) hD2
    ⟨Nat.le_trans hS.1 (by rw [e1]; exact hz), fun q h1 h2 => by rw [e1, hk q (Nat.lt_of_lt_of_le h1 hS.1) (fun h => h2 (hF q h))]; exact hS.2.1 q h1 h2, fun q hq => (List.mem_append.mp hq).elim (hS.2.2 q) (fun h => hF _ (hL q h))⟩ hl T' rfl X'
  exact ⟨t2, stp t2 a1, b1⟩
theorem ik_runI (C : ik_C p m c cc nL s args own D cI cS) (hE : ik_E s) {st0 : List Value} {wc : va_W} {w1 : S → va_W} (hM : ∀ sz, Met l y (ik_ws y b maxL none) rm (ik_PN D cI cS h0 wc sz) (ik_QN D wc sz w1) mc ms (va_A wc sz)) (hV : Cond.instanceMethod y ∈ wsL_law ∧ Cond.initialized CC ∈ wsL_law ∧ Cond.code y b maxL none ∈ wsL_law ∧ y.cls = CC ∧ y.name = "<init>" ∧ (y.cls ≠ "java/lang/invoke/MethodHandle" ∧ y.cls ≠ "java/lang/invoke/VarHandle" ∧ (parseMethodDescriptor y.desc).map (fun d => d.parameters.length) = some 0)) (hl1 : Cond.methodLink own index y ∈ wsL_law) (hR : rm.cells = mc ∧ rm.slots = ms ∧ rm.frames + 1 ≤ R.frames ∧ 8 + (maxL + 11) + rm.locals ≤ R.locals) (i0 : Nat) (hC : [i0].map (fun i => ws[i]?) = wc.map some) (hst : st0 = .ref h0 :: st) (hroom : (st.map fun v => v.category).sum ≤ 8) (hdg : decode cc pc = .ok (.invokespecial index, 3)) (hkc : kc + mc ≤ R.cells ∧ ks + ms ≤ R.slots) : ∀ (H : Heap) (locs : List Loc) (ls : Array Slot), va_P D vwCl ws H → va_D A ws → va_S A s.heap H locs → lv_has ls nL lv → va_Run p l e R s m args below meth c H locs kc ks mc ms (F0 m pc ls st0) st (ik_QN D wc H.size w1 [.ref h0].toArray) (va_A wc H.size) := by
  intro H locs ls hP hD hS hl
  obtain ⟨v1, v3, v4, v5, vn, v6⟩ := hV
  exact va_runI (As := []) (bytes := b) (maxL := maxL) (n := 0) C.1 (hM H.size) ⟨callB_of 0 C.1.2.2.2.2 (ik_goodIn v4) rfl hR.1 hR.2.1 (by rw [v5]; exact C.1.2.2.2.2 _ v3) (C.1.2.2.2.2 _ hl1) v6 hR.2.2, vn, C.1.2.2.2.2 _ v1⟩ ⟨ik_blindN, fun U hU hW => ⟨rfl, by rw [hU], by rw [hU]; exact ik_subP hC hP, (hD.sub [i0] (by simp [va_nd]) hC).weaken (fun _ _ _ _ => trivial), ik_K.warm hW C.2, ik_E.warm hW hE⟩⟩ rfl rfl hl.1 hst (lv_room hroom) hdg hkc
theorem ik_runIN (C : ik_C p m c cc nL s args own D cI cS) (hE : ik_E s) {host : String} {st0 : List Value} {wc : va_W} {w1 : S → va_W} (hM : ∀ sz, Met l y (ik_ws y b maxL none) rm (ik_PN D cI cS h0 wc sz) (ik_QN D wc sz w1) mc ms (va_A wc sz)) (hV : Cond.instanceMethod y ∈ wsL_law ∧ Cond.initialized CC ∈ wsL_law ∧ Cond.code y b maxL none ∈ wsL_law ∧ y.cls = CC ∧ y.name = "<init>" ∧ (y.cls ≠ "java/lang/invoke/MethodHandle" ∧ y.cls ≠ "java/lang/invoke/VarHandle" ∧ (parseMethodDescriptor y.desc).map (fun d => d.parameters.length) = some 0)) (hl1 : va_Nw (.methodLinkNest own index y host) s) (hR : rm.cells = mc ∧ rm.slots = ms ∧ rm.frames + 1 ≤ R.frames ∧ 8 + (maxL + 11) + rm.locals ≤ R.locals) (i0 : Nat) (hC : [i0].map (fun i => ws[i]?) = wc.map some) (hst : st0 = .ref h0 :: st) (hroom : (st.map fun v => v.category).sum ≤ 8) (hdg : decode cc pc = .ok (.invokespecial index, 3)) (hkc : kc + mc ≤ R.cells ∧ ks + ms ≤ R.slots) : ∀ (H : Heap) (locs : List Loc) (ls : Array Slot), va_P D vwCl ws H → va_D A ws → va_S A s.heap H locs → lv_has ls nL lv → va_Run p l e R s m args below meth c H locs kc ks mc ms (F0 m pc ls st0) st (ik_QN D wc H.size w1 [.ref h0].toArray) (va_A wc H.size) := by
  intro H locs ls hP hD hS hl
  obtain ⟨v1, v3, v4, v5, vn, v6⟩ := hV
  exact va_runIN (As := []) (bytes := b) (maxL := maxL) (n := 0) C.1 (hM H.size) ⟨va_cnB 0 C.1.2.2.2.2 (ik_goodIn v4) rfl hR.1 hR.2.1 hl1 (by rw [v5]; exact C.1.2.2.2.2 _ v3) v6 hR.2.2, vn, C.1.2.2.2.2 _ v1⟩ ⟨ik_blindN, fun U hU hW => ⟨rfl, by rw [hU], by rw [hU]; exact ik_subP hC hP, (hD.sub [i0] (by simp [va_nd]) hC).weaken (fun _ _ _ _ => trivial), ik_K.warm hW C.2, ik_E.warm hW hE⟩⟩ rfl rfl hl.1 hst (lv_room hroom) hdg hkc
theorem ik_vretN {w : va_W} {w1 : S → va_W} (u : S) (zs : List Nat) (C : ik_C p m c cc nL s args own D cI cS) (hr : meth.sig.returnType = none) (hlk : meth.locks = false) (hz : zs.map (fun i => ws[i]?) = (w1 u).map some) (hnd : va_nd zs = true) (hdg : decode cc pc = .ok (.return_, 1)) : ik_G p l e R s m args below meth c D (va_A w s.heap.size) (va_A w s.heap.size) nL kc ks (MQ below (ik_QN D w s.heap.size w1) args s kc ks (va_A w s.heap.size)) pc lv [] ws :=
  fun H locs ls hP hD hS h => W.vret C.1.1 C.1.2.1 hr (fun t ht hW => ⟨rfl, ⟨u, by rw [ht]; exact ik_subP hz hP, hD.sub zs hnd hz⟩, hS.F ht⟩) hS.2.2 hdg hlk
end IKNC
end IKN
theorem ik_metN {l : Launch} {D : va_G} {cI cS : ClassId} {y : MethodName} {b : ByteArray} {maxL mc ms : Nat} {rm : Room} {h0 : Nat} {w : va_W} {S : Type} {w1 : S → va_W} (own : String) (ho : y.cls = own) (hn : y.name = "<init>") (hy : plainName y.cls = true) (hlen : (lg_sl [Value.ref h0]).length ≤ maxL)
    (body : ∀ (p : Program) (e : Env) (s : State) (m : MethodId) (below : List Frame) (meth : Method) (c : Code), ik_C p m c b maxL s [Value.ref h0].toArray own D cI cS → meth.sig.returnType = none → meth.locks = false → meth.name = "<init>" → ik_E s → (∀ q, s.heap.size ≤ q → va_A w s.heap.size q) → ik_G p l e rm s m [Value.ref h0].toArray below meth c D (va_A w s.heap.size) (va_A w s.heap.size) maxL 0 0 (MQ below (ik_QN D w s.heap.size w1) [Value.ref h0].toArray s mc ms (va_A w s.heap.size)) 0 [(0, .ref h0)] [] w) : ∀ sz, Met l y (ik_ws y b maxL none) rm (ik_PN D cI cS h0 w sz) (ik_QN D w sz w1) mc ms (va_A w sz) := by
  intro sz
  refine Met.ofW (cc := b) (maxL := maxL) (ret := none) hy rfl ?_
  intro p e s m args below meth c s₁ B hml hv
  obtain ⟨rfl, hsz, hP, hD, hK, hE⟩ := hv
  subst hsz
  have hts := atoms_spec (ws := ik_ws y b maxL none) B.pre
  have hown : s.vm.findClass own = some m.cls := by rw [← ho]; exact findClass_of_methodNamed B.named
  have hin : meth.name = "<init>" := by rw [← hn]; exact (name_of_methodNamed B.named B.method).1
  have hl := lv_entry [Value.ref h0] (n := maxL) hlen
  rw [lg_entry_eq]
  exact body p e s m below meth c ⟨⟨B.exec, B.bytes, hml, hown, fun w hw => hts w (List.mem_cons_of_mem _ hw)⟩, hK⟩ B.returns B.notSynchronized hin hE (fun q h => Or.inr h) s.heap [] _ hP hD.self va_S.rf hl
theorem ik_up4 (a b c d : Nat) : va_up (va_up (va_up (va_up (fun _ => none) 0 (some a)) 1 (some b)) 2 (some c)) 3 (some d) = ik_ref4 a b c d := by
  funext j
  unfold va_up ik_ref4
  match j with
  | 0 => rfl
  | 1 => rfl
  | 2 => rfl
  | 3 => rfl
  | n + 4 => simp
