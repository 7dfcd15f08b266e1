/-! my own layer over the kit's rows: ik_G is W under the facts that every row needs; rows are stated over it -/
/-- the addresses of a world -/
def ik_in (w : va_W) (q : Nat) : Prop := ∃ (k : Nat) (e : va_E), w[k]? = some (q, e)
/-- what the tables say, for class and reference -/
def ik_K (D : va_G) (cI cS : ClassId) (U : State) : Prop := va_K D vwCl [(cI, .int), (cS, .object RX2)] U ∧ va_Nw (.methodLinkNest RX5 40 yX6_isCell RX6) U ∧ va_Nw (.methodLinkNest RX4 126 yX6_isWithin RX6) U
theorem ik_K.warm {D : va_G} {cI cS : ClassId} {s U : State} (hW : s.WarmedH U.vm) (h : ik_K D cI cS s) : ik_K D cI cS U := ⟨va_K.moved hW.alike h.1, va_Nw.warmM hW h.2.1, va_Nw.warmM hW h.2.2⟩
/-- a contract's start: the world, apart, and the tables -/
def ik_P (D : va_G) (cI cS : ClassId) (av : List Value) (w : va_W) : Array Value → State → Prop := va_Pc av (fun U => va_P D vwCl w U.heap ∧ va_D (fun _ => True) w ∧ ik_K D cI cS U)
theorem ik_blind {D : va_G} {cI cS : ClassId} {av : List Value} {w : va_W} : FrameBlind (ik_P D cI cS av w) := by
  intro a U g mk h
  obtain ⟨h1, h2, h3, h4, h5, h6⟩ := h
  exact ⟨h1, h2, h3, va_K.moved (u := U) (U := U.calling g mk a) (Vm.Alike.refl U.vm) h4, va_Nw.same rfl (u := U) (U := U.calling g mk a) rfl h5, va_Nw.same rfl (u := U) (U := U.calling g mk a) rfl h6⟩
/-- the end of a method that writes nothing -/
def ik_R (v : Option Value) : Array Value → State → Outcome → State → Prop := fun _ st oc t => oc = .returned v ∧ va_F (fun _ => False) st t
/-- the end of a method that writes in its world: the world behind it -/
def ik_Q (v : Option Value) (D : va_G) (w1 w : va_W) : Array Value → State → Outcome → State → Prop := fun _ st oc t => oc = .returned v ∧ va_P D vwCl w1 t.heap ∧ va_F (ik_in w) st t
def ik_no : Nat → Prop := fun _ => False
/-- W, under the world, its being apart, the frame and the locals -/
def ik_G (p : Program) (l : Launch) (e : Env) (R : Room) (s : State) (m : MethodId) (args : Array Value) (below : List Frame) (meth : Method) (c : Code) (D : va_G) (A B : Nat → Prop) (nL kc ks : Nat) (Q : State → Prop) (pc : Nat) (lv : List (Nat × Value)) (st : List Value) (ws : va_W) : Prop :=
  ∀ (H : Heap) (locs : List Loc) (ls : Array Slot), va_P D vwCl ws H → va_D B ws → va_S A s.heap H locs → lv_has ls nL lv → W p l e R s m args below meth c H locs kc ks Q (F0 m pc ls st)
abbrev ik_C (p : Program) (m : MethodId) (c : Code) (cc : ByteArray) (nL : Nat) (s : State) (args : Array Value) (own : String) (D : va_G) (cI cS : ClassId) : Prop := CallFix p m c cc nL s args wsL_law own ∧ ik_K D cI cS s
section IK
variable {p : Program} {l : Launch} {e : Env} {R : Room} {s : State} {m : MethodId} {args : Array Value} {below : List Frame} {meth : Method} {c : Code} {Q : State → Prop} {D : va_G} {cI cS : ClassId} {A B : Nat → Prop} {nL kc ks : Nat} {cc : ByteArray} {own : String} {pc : Nat} {lv : List (Nat × Value)} {st : List Value} {ws : va_W}
theorem ik_iload_n (C : ik_C p m c cc nL s args own D cI cS) {k : Fin 4} {i : Nat} {x : Int32} (j : Nat) (hl : lv[j]? = some (i, .int x)) (hi : (k : Nat) = i) (hdg : decode cc pc = .ok (.iload_n k, 1)) (kk : ik_G p l e R s m args below meth c D A B nL kc ks Q (pc + 1) lv (.int x :: st) ws) : ik_G p l e R s m args below meth c D A B nL kc ks Q pc lv st ws :=
  fun H locs ls hP hD hS h => lv_iload_n C.1.1 C.1.2.1 hdg hi (lv_at h j hl) (kk H locs ls hP hD hS h)
theorem ik_iload (C : ik_C p m c cc nL s args own D cI cS) {i : Nat} {x : Int32} (j : Nat) (hl : lv[j]? = some (i, .int x)) (hdg : decode cc pc = .ok (.iload i, 2)) (kk : ik_G p l e R s m args below meth c D A B nL kc ks Q (pc + 2) lv (.int x :: st) ws) : ik_G p l e R s m args below meth c D A B nL kc ks Q pc lv st ws :=
  fun H locs ls hP hD hS h => lv_iload C.1.1 C.1.2.1 hdg (lv_at h j hl) (kk H locs ls hP hD hS h)
theorem ik_lload_n (C : ik_C p m c cc nL s args own D cI cS) {k : Fin 4} {i : Nat} {x : Int64} (j : Nat) (hl : lv[j]? = some (i, .long x)) (hi : (k : Nat) = i) (hdg : decode cc pc = .ok (.lload_n k, 1)) (kk : ik_G p l e R s m args below meth c D A B nL kc ks Q (pc + 1) lv (.long x :: st) ws) : ik_G p l e R s m args below meth c D A B nL kc ks Q pc lv st ws :=
  fun H locs ls hP hD hS h => lv_lload_n C.1.1 C.1.2.1 hdg hi (lv_at h j hl) (kk H locs ls hP hD hS h)
theorem ik_lload (C : ik_C p m c cc nL s args own D cI cS) {i : Nat} {x : Int64} (j : Nat) (hl : lv[j]? = some (i, .long x)) (hdg : decode cc pc = .ok (.lload i, 2)) (kk : ik_G p l e R s m args below meth c D A B nL kc ks Q (pc + 2) lv (.long x :: st) ws) : ik_G p l e R s m args below meth c D A B nL kc ks Q pc lv st ws :=
  fun H locs ls hP hD hS h => lv_lload C.1.1 C.1.2.1 hdg (lv_at h j hl) (kk H locs ls hP hD hS h)
theorem ik_aload_n (C : ik_C p m c cc nL s args own D cI cS) {k : Fin 4} {i : Nat} {x : Nat} (j : Nat) (hl : lv[j]? = some (i, .ref x)) (hi : (k : Nat) = i) (hdg : decode cc pc = .ok (.aload_n k, 1)) (kk : ik_G p l e R s m args below meth c D A B nL kc ks Q (pc + 1) lv (.ref x :: st) ws) : ik_G p l e R s m args below meth c D A B nL kc ks Q pc lv st ws :=
  fun H locs ls hP hD hS h => lv_aload_n C.1.1 C.1.2.1 hdg hi (lv_at h j hl) (kk H locs ls hP hD hS h)
theorem ik_aload (C : ik_C p m c cc nL s args own D cI cS) {i : Nat} {x : Nat} (j : Nat) (hl : lv[j]? = some (i, .ref x)) (hdg : decode cc pc = .ok (.aload i, 2)) (kk : ik_G p l e R s m args below meth c D A B nL kc ks Q (pc + 2) lv (.ref x :: st) ws) : ik_G p l e R s m args below meth c D A B nL kc ks Q pc lv st ws :=
  fun H locs ls hP hD hS h => lv_aload C.1.1 C.1.2.1 hdg (lv_at h j hl) (kk H locs ls hP hD hS h)
theorem ik_istore_n (C : ik_C p m c cc nL s args own D cI cS) {k : Fin 4} {i : Nat} {x : Int32} (lv' : List (Nat × Value)) (hi : (k : Nat) = i) (hn : i < nL) (hl : (i, Value.int x) :: lv.filter (fun q => !(q.1 == i) && !(q.1 + 1 == i && q.2.category == 2)) = lv') (hdg : decode cc pc = .ok (.istore_n k, 1)) (kk : ik_G p l e R s m args below meth c D A B nL kc ks Q (pc + 1) lv' st ws) : ik_G p l e R s m args below meth c D A B nL kc ks Q pc lv (.int x :: st) ws :=
  fun H locs ls hP hD hS h => lv_istore_n C.1.1 C.1.2.1 hdg hi h hn hl (fun ls h => kk H locs ls hP hD hS h)
theorem ik_istore (C : ik_C p m c cc nL s args own D cI cS) {i : Nat} {x : Int32} (lv' : List (Nat × Value)) (hn : i < nL) (hl : (i, Value.int x) :: lv.filter (fun q => !(q.1 == i) && !(q.1 + 1 == i && q.2.category == 2)) = lv') (hdg : decode cc pc = .ok (.istore i, 2)) (kk : ik_G p l e R s m args below meth c D A B nL kc ks Q (pc + 2) lv' st ws) : ik_G p l e R s m args below meth c D A B nL kc ks Q pc lv (.int x :: st) ws :=
  fun H locs ls hP hD hS h => lv_istore C.1.1 C.1.2.1 hdg h hn hl (fun ls h => kk H locs ls hP hD hS h)
theorem ik_astore_n (C : ik_C p m c cc nL s args own D cI cS) {k : Fin 4} {i : Nat} {x : Nat} (lv' : List (Nat × Value)) (hi : (k : Nat) = i) (hn : i < nL) (hl : (i, Value.ref x) :: lv.filter (fun q => !(q.1 == i) && !(q.1 + 1 == i && q.2.category == 2)) = lv') (hdg : decode cc pc = .ok (.astore_n k, 1)) (kk : ik_G p l e R s m args below meth c D A B nL kc ks Q (pc + 1) lv' st ws) : ik_G p l e R s m args below meth c D A B nL kc ks Q pc lv (.ref x :: st) ws :=
  fun H locs ls hP hD hS h => lv_astore_n C.1.1 C.1.2.1 hdg hi h hn hl (fun ls h => kk H locs ls hP hD hS h)
theorem ik_astore (C : ik_C p m c cc nL s args own D cI cS) {i : Nat} {x : Nat} (lv' : List (Nat × Value)) (hn : i < nL) (hl : (i, Value.ref x) :: lv.filter (fun q => !(q.1 == i) && !(q.1 + 1 == i && q.2.category == 2)) = lv') (hdg : decode cc pc = .ok (.astore i, 2)) (kk : ik_G p l e R s m args below meth c D A B nL kc ks Q (pc + 2) lv' st ws) : ik_G p l e R s m args below meth c D A B nL kc ks Q pc lv (.ref x :: st) ws :=
  fun H locs ls hP hD hS h => lv_astore C.1.1 C.1.2.1 hdg h hn hl (fun ls h => kk H locs ls hP hD hS h)
theorem ik_lstore_n (C : ik_C p m c cc nL s args own D cI cS) {k : Fin 4} {i : Nat} {x : Int64} (lv' : List (Nat × Value)) (hi : (k : Nat) = i) (hn : i + 1 < nL) (hl : (i, Value.long x) :: lv.filter (fun q => !(q.1 == i) && (!(q.1 == i + 1) && !(q.1 + 1 == i && q.2.category == 2))) = lv') (hdg : decode cc pc = .ok (.lstore_n k, 1)) (kk : ik_G p l e R s m args below meth c D A B nL kc ks Q (pc + 1) lv' st ws) : ik_G p l e R s m args below meth c D A B nL kc ks Q pc lv (.long x :: st) ws :=
  fun H locs ls hP hD hS h => lv_lstore_n C.1.1 C.1.2.1 hdg hi h hn hl (fun ls h => kk H locs ls hP hD hS h)
theorem ik_lstore (C : ik_C p m c cc nL s args own D cI cS) {i : Nat} {x : Int64} (lv' : List (Nat × Value)) (hn : i + 1 < nL) (hl : (i, Value.long x) :: lv.filter (fun q => !(q.1 == i) && (!(q.1 == i + 1) && !(q.1 + 1 == i && q.2.category == 2))) = lv') (hdg : decode cc pc = .ok (.lstore i, 2)) (kk : ik_G p l e R s m args below meth c D A B nL kc ks Q (pc + 2) lv' st ws) : ik_G p l e R s m args below meth c D A B nL kc ks Q pc lv (.long x :: st) ws :=
  fun H locs ls hP hD hS h => lv_lstore C.1.1 C.1.2.1 hdg h hn hl (fun ls h => kk H locs ls hP hD hS h)
theorem ik_iinc (C : ik_C p m c cc nL s args own D cI cS) {i : Nat} {n : Int} {x v : Int32} (lv' : List (Nat × Value)) (k : Nat) (hk : lv[k]? = some (i, .int x)) (hv : x + Int32.ofInt n = v) (hn : i < nL) (hl : (i, Value.int v) :: lv.filter (fun q => !(q.1 == i) && !(q.1 + 1 == i && q.2.category == 2)) = lv') (hdg : decode cc pc = .ok (.iinc i n, 3)) (kk : ik_G p l e R s m args below meth c D A B nL kc ks Q (pc + 3) lv' st ws) : ik_G p l e R s m args below meth c D A B nL kc ks Q pc lv st ws :=
  fun H locs ls hP hD hS h => lv_iinc C.1.1 C.1.2.1 hdg h hk hv hn hl (fun ls h => kk H locs ls hP hD hS h)
theorem ik_iconst (C : ik_C p m c cc nL s args own D cI cS) {n : Int} {v : Int32} (hv : Int32.ofInt n = v) (hdg : decode cc pc = .ok (.iconst n, 1)) (kk : ik_G p l e R s m args below meth c D A B nL kc ks Q (pc + 1) lv (.int v :: st) ws) : ik_G p l e R s m args below meth c D A B nL kc ks Q pc lv st ws :=
  fun H locs ls hP hD hS h => lv_iconst C.1.1 C.1.2.1 hdg hv (kk H locs ls hP hD hS h)
theorem ik_bipush (C : ik_C p m c cc nL s args own D cI cS) {n : Int} {v : Int32} (hv : (Int8.ofInt n).toInt32 = v) (hdg : decode cc pc = .ok (.bipush n, 2)) (kk : ik_G p l e R s m args below meth c D A B nL kc ks Q (pc + 2) lv (.int v :: st) ws) : ik_G p l e R s m args below meth c D A B nL kc ks Q pc lv st ws :=
  fun H locs ls hP hD hS h => lv_bipush C.1.1 C.1.2.1 hdg hv (kk H locs ls hP hD hS h)
theorem ik_sipush (C : ik_C p m c cc nL s args own D cI cS) {n : Int} {v : Int32} (hv : (Int16.ofInt n).toInt32 = v) (hdg : decode cc pc = .ok (.sipush n, 3)) (kk : ik_G p l e R s m args below meth c D A B nL kc ks Q (pc + 3) lv (.int v :: st) ws) : ik_G p l e R s m args below meth c D A B nL kc ks Q pc lv st ws :=
  fun H locs ls hP hD hS h => lv_sipush C.1.1 C.1.2.1 hdg hv (kk H locs ls hP hD hS h)
theorem ik_ldc (C : ik_C p m c cc nL s args own D cI cS) {index : Nat} {v : Int32} (hc : Jvm.Cond.constant own index v ∈ wsL_law) (hdg : decode cc pc = .ok (.ldc index, 2)) (kk : ik_G p l e R s m args below meth c D A B nL kc ks Q (pc + 2) lv (.int v :: st) ws) : ik_G p l e R s m args below meth c D A B nL kc ks Q pc lv st ws :=
  fun H locs ls hP hD hS h => lv_ldc C.1.1 C.1.2.1 C.1.2.2.2.1 (C.1.2.2.2.2 _ hc) hdg (kk H locs ls hP hD hS h)
theorem ik_ldcw (C : ik_C p m c cc nL s args own D cI cS) {index : Nat} {v : Int32} (hc : Jvm.Cond.constant own index v ∈ wsL_law) (hdg : decode cc pc = .ok (.ldc_w index, 3)) (kk : ik_G p l e R s m args below meth c D A B nL kc ks Q (pc + 3) lv (.int v :: st) ws) : ik_G p l e R s m args below meth c D A B nL kc ks Q pc lv st ws :=
  fun H locs ls hP hD hS h => lv_ldcw C.1.1 C.1.2.1 C.1.2.2.2.1 (C.1.2.2.2.2 _ hc) hdg (kk H locs ls hP hD hS h)
theorem ik_ldc2 (C : ik_C p m c cc nL s args own D cI cS) {index : Nat} {v : Int64} (hc : Jvm.Cond.constantLong own index v ∈ wsL_law) (hdg : decode cc pc = .ok (.ldc2_w index, 3)) (kk : ik_G p l e R s m args below meth c D A B nL kc ks Q (pc + 3) lv (.long v :: st) ws) : ik_G p l e R s m args below meth c D A B nL kc ks Q pc lv st ws :=
  fun H locs ls hP hD hS h => lv_ldc2 C.1.1 C.1.2.1 C.1.2.2.2.1 (C.1.2.2.2.2 _ hc) hdg (kk H locs ls hP hD hS h)
theorem ik_lconst (C : ik_C p m c cc nL s args own D cI cS) {n : Fin 2} {v : Int64} (hv : Int64.ofNat (n : Nat) = v) (hdg : decode cc pc = .ok (.lconst n, 1)) (kk : ik_G p l e R s m args below meth c D A B nL kc ks Q (pc + 1) lv (.long v :: st) ws) : ik_G p l e R s m args below meth c D A B nL kc ks Q pc lv st ws :=
  fun H locs ls hP hD hS h => lv_lconst C.1.1 C.1.2.1 hdg hv (kk H locs ls hP hD hS h)
theorem ik_goto (C : ik_C p m c cc nL s args own D cI cS) {off : Int} (tgt : Nat) (hdg : decode cc pc = .ok (.goto off, 3)) (ht : (pc : Int) + off = (tgt : Int)) (kk : ik_G p l e R s m args below meth c D A B nL kc ks Q tgt lv st ws) : ik_G p l e R s m args below meth c D A B nL kc ks Q pc lv st ws :=
  fun H locs ls hP hD hS h => lv_goto C.1.1 C.1.2.1 hdg ht (kk H locs ls hP hD hS h)
theorem ik_iadd (C : ik_C p m c cc nL s args own D cI cS) {x y : Int32} (hdg : decode cc pc = .ok (.iadd, 1)) (kk : ik_G p l e R s m args below meth c D A B nL kc ks Q (pc + 1) lv (.int (x + y) :: st) ws) : ik_G p l e R s m args below meth c D A B nL kc ks Q pc lv (.int y :: .int x :: st) ws :=
  fun H locs ls hP hD hS h => lv_iadd C.1.1 C.1.2.1 hdg (kk H locs ls hP hD hS h)
theorem ik_isub (C : ik_C p m c cc nL s args own D cI cS) {x y : Int32} (hdg : decode cc pc = .ok (.isub, 1)) (kk : ik_G p l e R s m args below meth c D A B nL kc ks Q (pc + 1) lv (.int (x - y) :: st) ws) : ik_G p l e R s m args below meth c D A B nL kc ks Q pc lv (.int y :: .int x :: st) ws :=
  fun H locs ls hP hD hS h => lv_isub C.1.1 C.1.2.1 hdg (kk H locs ls hP hD hS h)
theorem ik_imul (C : ik_C p m c cc nL s args own D cI cS) {x y : Int32} (hdg : decode cc pc = .ok (.imul, 1)) (kk : ik_G p l e R s m args below meth c D A B nL kc ks Q (pc + 1) lv (.int (x * y) :: st) ws) : ik_G p l e R s m args below meth c D A B nL kc ks Q pc lv (.int y :: .int x :: st) ws :=
  fun H locs ls hP hD hS h => lv_imul C.1.1 C.1.2.1 hdg (kk H locs ls hP hD hS h)
theorem ik_idiv (C : ik_C p m c cc nL s args own D cI cS) {x y : Int32} (hne : ¬ y = 0) (hdg : decode cc pc = .ok (.idiv, 1)) (kk : ik_G p l e R s m args below meth c D A B nL kc ks Q (pc + 1) lv (.int (x / y) :: st) ws) : ik_G p l e R s m args below meth c D A B nL kc ks Q pc lv (.int y :: .int x :: st) ws :=
  fun H locs ls hP hD hS h => lv_idiv C.1.1 C.1.2.1 hdg hne (kk H locs ls hP hD hS h)
theorem ik_irem (C : ik_C p m c cc nL s args own D cI cS) {x y : Int32} (hne : ¬ y = 0) (hdg : decode cc pc = .ok (.irem, 1)) (kk : ik_G p l e R s m args below meth c D A B nL kc ks Q (pc + 1) lv (.int (x - x / y * y) :: st) ws) : ik_G p l e R s m args below meth c D A B nL kc ks Q pc lv (.int y :: .int x :: st) ws :=
  fun H locs ls hP hD hS h => lv_irem C.1.1 C.1.2.1 hdg hne (kk H locs ls hP hD hS h)
theorem ik_ineg (C : ik_C p m c cc nL s args own D cI cS) {x : Int32} (hdg : decode cc pc = .ok (.ineg, 1)) (kk : ik_G p l e R s m args below meth c D A B nL kc ks Q (pc + 1) lv (.int (-x) :: st) ws) : ik_G p l e R s m args below meth c D A B nL kc ks Q pc lv (.int x :: st) ws :=
  fun H locs ls hP hD hS h => lv_ineg C.1.1 C.1.2.1 hdg (kk H locs ls hP hD hS h)
theorem ik_iand (C : ik_C p m c cc nL s args own D cI cS) {x y : Int32} (hdg : decode cc pc = .ok (.iand, 1)) (kk : ik_G p l e R s m args below meth c D A B nL kc ks Q (pc + 1) lv (.int (x &&& y) :: st) ws) : ik_G p l e R s m args below meth c D A B nL kc ks Q pc lv (.int y :: .int x :: st) ws :=
  fun H locs ls hP hD hS h => lv_iand C.1.1 C.1.2.1 hdg (kk H locs ls hP hD hS h)
theorem ik_ior (C : ik_C p m c cc nL s args own D cI cS) {x y : Int32} (hdg : decode cc pc = .ok (.ior, 1)) (kk : ik_G p l e R s m args below meth c D A B nL kc ks Q (pc + 1) lv (.int (x ||| y) :: st) ws) : ik_G p l e R s m args below meth c D A B nL kc ks Q pc lv (.int y :: .int x :: st) ws :=
  fun H locs ls hP hD hS h => lv_ior C.1.1 C.1.2.1 hdg (kk H locs ls hP hD hS h)
theorem ik_ixor (C : ik_C p m c cc nL s args own D cI cS) {x y : Int32} (hdg : decode cc pc = .ok (.ixor, 1)) (kk : ik_G p l e R s m args below meth c D A B nL kc ks Q (pc + 1) lv (.int (x ^^^ y) :: st) ws) : ik_G p l e R s m args below meth c D A B nL kc ks Q pc lv (.int y :: .int x :: st) ws :=
  fun H locs ls hP hD hS h => lv_ixor C.1.1 C.1.2.1 hdg (kk H locs ls hP hD hS h)
theorem ik_ishl (C : ik_C p m c cc nL s args own D cI cS) {x y : Int32} (hdg : decode cc pc = .ok (.ishl, 1)) (kk : ik_G p l e R s m args below meth c D A B nL kc ks Q (pc + 1) lv (.int (x <<< (y &&& 31)) :: st) ws) : ik_G p l e R s m args below meth c D A B nL kc ks Q pc lv (.int y :: .int x :: st) ws :=
  fun H locs ls hP hD hS h => lv_ishl C.1.1 C.1.2.1 hdg (kk H locs ls hP hD hS h)
theorem ik_ishr (C : ik_C p m c cc nL s args own D cI cS) {x y : Int32} (hdg : decode cc pc = .ok (.ishr, 1)) (kk : ik_G p l e R s m args below meth c D A B nL kc ks Q (pc + 1) lv (.int (x >>> (y &&& 31)) :: st) ws) : ik_G p l e R s m args below meth c D A B nL kc ks Q pc lv (.int y :: .int x :: st) ws :=
  fun H locs ls hP hD hS h => lv_ishr C.1.1 C.1.2.1 hdg (kk H locs ls hP hD hS h)
/-- >>> of ints, of longs; << of longs, by names -/
def ik_us (x y : Int32) : Int32 := (x.toUInt32 >>> (y.toUInt32 &&& Int32.toUInt32 31)).toInt32
def ik_lus (x : Int64) (y : Int32) : Int64 := (x.toUInt64 >>> (y.toInt64.toUInt64 &&& Int64.toUInt64 63)).toInt64
def ik_lsh (x : Int64) (y : Int32) : Int64 := x <<< (y.toInt64 &&& 63)
theorem ik_iushr (C : ik_C p m c cc nL s args own D cI cS) {x y : Int32} (hdg : decode cc pc = .ok (.iushr, 1)) (kk : ik_G p l e R s m args below meth c D A B nL kc ks Q (pc + 1) lv (.int (ik_us x y) :: st) ws) : ik_G p l e R s m args below meth c D A B nL kc ks Q pc lv (.int y :: .int x :: st) ws :=
  fun H locs ls hP hD hS h => lv_iushr C.1.1 C.1.2.1 hdg rfl (kk H locs ls hP hD hS h)
theorem ik_land (C : ik_C p m c cc nL s args own D cI cS) {x y : Int64} (hdg : decode cc pc = .ok (.land, 1)) (kk : ik_G p l e R s m args below meth c D A B nL kc ks Q (pc + 1) lv (.long (x &&& y) :: st) ws) : ik_G p l e R s m args below meth c D A B nL kc ks Q pc lv (.long y :: .long x :: st) ws :=
  fun H locs ls hP hD hS h => lv_land C.1.1 C.1.2.1 hdg (kk H locs ls hP hD hS h)
theorem ik_lor (C : ik_C p m c cc nL s args own D cI cS) {x y : Int64} (hdg : decode cc pc = .ok (.lor, 1)) (kk : ik_G p l e R s m args below meth c D A B nL kc ks Q (pc + 1) lv (.long (x ||| y) :: st) ws) : ik_G p l e R s m args below meth c D A B nL kc ks Q pc lv (.long y :: .long x :: st) ws :=
  fun H locs ls hP hD hS h => lv_lor C.1.1 C.1.2.1 hdg (kk H locs ls hP hD hS h)
theorem ik_lushr (C : ik_C p m c cc nL s args own D cI cS) {x : Int64} {y : Int32} (hdg : decode cc pc = .ok (.lushr, 1)) (kk : ik_G p l e R s m args below meth c D A B nL kc ks Q (pc + 1) lv (.long (ik_lus x y) :: st) ws) : ik_G p l e R s m args below meth c D A B nL kc ks Q pc lv (.int y :: .long x :: st) ws :=
  fun H locs ls hP hD hS h => lv_lushr C.1.1 C.1.2.1 hdg rfl (kk H locs ls hP hD hS h)
theorem ik_lshl (C : ik_C p m c cc nL s args own D cI cS) {x : Int64} {y : Int32} (hdg : decode cc pc = .ok (.lshl, 1)) (kk : ik_G p l e R s m args below meth c D A B nL kc ks Q (pc + 1) lv (.long (ik_lsh x y) :: st) ws) : ik_G p l e R s m args below meth c D A B nL kc ks Q pc lv (.int y :: .long x :: st) ws :=
  fun H locs ls hP hD hS h => lv_lshl C.1.1 C.1.2.1 hdg rfl (kk H locs ls hP hD hS h)
theorem ik_lcmp (C : ik_C p m c cc nL s args own D cI cS) {x y : Int64} (hdg : decode cc pc = .ok (.lcmp, 1)) (kk : ik_G p l e R s m args below meth c D A B nL kc ks Q (pc + 1) lv (.int (lg_cmp x y) :: st) ws) : ik_G p l e R s m args below meth c D A B nL kc ks Q pc lv (.long y :: .long x :: st) ws :=
  fun H locs ls hP hD hS h => W.lcmp C.1.1 C.1.2.1 hdg (kk H locs ls hP hD hS h)
theorem ik_i2l (C : ik_C p m c cc nL s args own D cI cS) {x : Int32} (hdg : decode cc pc = .ok (.i2l, 1)) (kk : ik_G p l e R s m args below meth c D A B nL kc ks Q (pc + 1) lv (.long x.toInt64 :: st) ws) : ik_G p l e R s m args below meth c D A B nL kc ks Q pc lv (.int x :: st) ws :=
  fun H locs ls hP hD hS h => lv_i2l C.1.1 C.1.2.1 hdg rfl (kk H locs ls hP hD hS h)
theorem ik_i2b (C : ik_C p m c cc nL s args own D cI cS) {x : Int32} (hdg : decode cc pc = .ok (.i2b, 1)) (kk : ik_G p l e R s m args below meth c D A B nL kc ks Q (pc + 1) lv (.int x.toInt8.toInt32 :: st) ws) : ik_G p l e R s m args below meth c D A B nL kc ks Q pc lv (.int x :: st) ws :=
  fun H locs ls hP hD hS h => lv_i2b C.1.1 C.1.2.1 hdg rfl (kk H locs ls hP hD hS h)
theorem ik_i2s (C : ik_C p m c cc nL s args own D cI cS) {x : Int32} (hdg : decode cc pc = .ok (.i2s, 1)) (kk : ik_G p l e R s m args below meth c D A B nL kc ks Q (pc + 1) lv (.int x.toInt16.toInt32 :: st) ws) : ik_G p l e R s m args below meth c D A B nL kc ks Q pc lv (.int x :: st) ws :=
  fun H locs ls hP hD hS h => lv_i2s C.1.1 C.1.2.1 hdg rfl (kk H locs ls hP hD hS h)
theorem ik_dup (C : ik_C p m c cc nL s args own D cI cS) {va : Value} (hva : va.category = 1) (hdg : decode cc pc = .ok (.dup, 1)) (kk : ik_G p l e R s m args below meth c D A B nL kc ks Q (pc + 1) lv (va :: va :: st) ws) : ik_G p l e R s m args below meth c D A B nL kc ks Q pc lv (va :: st) ws :=
  fun H locs ls hP hD hS h => lv_dup C.1.1 C.1.2.1 hdg hva (kk H locs ls hP hD hS h)
theorem ik_dup2 (C : ik_C p m c cc nL s args own D cI cS) {va vb : Value} (hva : va.category = 1) (hvb : vb.category = 1) (hdg : decode cc pc = .ok (.dup2, 1)) (kk : ik_G p l e R s m args below meth c D A B nL kc ks Q (pc + 1) lv (va :: vb :: va :: vb :: st) ws) : ik_G p l e R s m args below meth c D A B nL kc ks Q pc lv (va :: vb :: st) ws :=
  fun H locs ls hP hD hS h => lv_dup2_11 C.1.1 C.1.2.1 hdg hva hvb (kk H locs ls hP hD hS h)
theorem ik_pop (C : ik_C p m c cc nL s args own D cI cS) {va : Value} (hva : va.category = 1) (hdg : decode cc pc = .ok (.pop, 1)) (kk : ik_G p l e R s m args below meth c D A B nL kc ks Q (pc + 1) lv st ws) : ik_G p l e R s m args below meth c D A B nL kc ks Q pc lv (va :: st) ws :=
  fun H locs ls hP hD hS h => lv_pop C.1.1 C.1.2.1 hdg hva (kk H locs ls hP hD hS h)
theorem ik_if_eq (C : ik_C p m c cc nL s args own D cI cS) {x : Int32} {off : Int} (tgt : Nat) (hdg : decode cc pc = .ok (.ifCond .eq off, 3)) (ht : (pc : Int) + off = (tgt : Int)) (kt : x = 0 → ik_G p l e R s m args below meth c D A B nL kc ks Q tgt lv st ws) (kf : ¬ x = 0 → ik_G p l e R s m args below meth c D A B nL kc ks Q (pc + 3) lv st ws) : ik_G p l e R s m args below meth c D A B nL kc ks Q pc lv (.int x :: st) ws :=
  fun H locs ls hP hD hS h => lv_if_eq C.1.1 C.1.2.1 hdg ht (fun q => kt q H locs ls hP hD hS h) (fun q => kf q H locs ls hP hD hS h)
theorem ik_if_ne (C : ik_C p m c cc nL s args own D cI cS) {x : Int32} {off : Int} (tgt : Nat) (hdg : decode cc pc = .ok (.ifCond .ne off, 3)) (ht : (pc : Int) + off = (tgt : Int)) (kt : ¬ x = 0 → ik_G p l e R s m args below meth c D A B nL kc ks Q tgt lv st ws) (kf : x = 0 → ik_G p l e R s m args below meth c D A B nL kc ks Q (pc + 3) lv st ws) : ik_G p l e R s m args below meth c D A B nL kc ks Q pc lv (.int x :: st) ws :=
  fun H locs ls hP hD hS h => lv_if_ne C.1.1 C.1.2.1 hdg ht (fun q => kt q H locs ls hP hD hS h) (fun q => kf q H locs ls hP hD hS h)
theorem ik_if_lt (C : ik_C p m c cc nL s args own D cI cS) {x : Int32} {off : Int} (tgt : Nat) (hdg : decode cc pc = .ok (.ifCond .lt off, 3)) (ht : (pc : Int) + off = (tgt : Int)) (kt : x < 0 → ik_G p l e R s m args below meth c D A B nL kc ks Q tgt lv st ws) (kf : ¬ x < 0 → ik_G p l e R s m args below meth c D A B nL kc ks Q (pc + 3) lv st ws) : ik_G p l e R s m args below meth c D A B nL kc ks Q pc lv (.int x :: st) ws :=
  fun H locs ls hP hD hS h => lv_if_lt C.1.1 C.1.2.1 hdg ht (fun q => kt q H locs ls hP hD hS h) (fun q => kf q H locs ls hP hD hS h)
theorem ik_if_ge (C : ik_C p m c cc nL s args own D cI cS) {x : Int32} {off : Int} (tgt : Nat) (hdg : decode cc pc = .ok (.ifCond .ge off, 3)) (ht : (pc : Int) + off = (tgt : Int)) (kt : 0 ≤ x → ik_G p l e R s m args below meth c D A B nL kc ks Q tgt lv st ws) (kf : ¬ 0 ≤ x → ik_G p l e R s m args below meth c D A B nL kc ks Q (pc + 3) lv st ws) : ik_G p l e R s m args below meth c D A B nL kc ks Q pc lv (.int x :: st) ws :=
  fun H locs ls hP hD hS h => lv_if_ge C.1.1 C.1.2.1 hdg ht (fun q => kt q H locs ls hP hD hS h) (fun q => kf q H locs ls hP hD hS h)
theorem ik_if_gt (C : ik_C p m c cc nL s args own D cI cS) {x : Int32} {off : Int} (tgt : Nat) (hdg : decode cc pc = .ok (.ifCond .gt off, 3)) (ht : (pc : Int) + off = (tgt : Int)) (kt : 0 < x → ik_G p l e R s m args below meth c D A B nL kc ks Q tgt lv st ws) (kf : ¬ 0 < x → ik_G p l e R s m args below meth c D A B nL kc ks Q (pc + 3) lv st ws) : ik_G p l e R s m args below meth c D A B nL kc ks Q pc lv (.int x :: st) ws :=
  fun H locs ls hP hD hS h => lv_if_gt C.1.1 C.1.2.1 hdg ht (fun q => kt q H locs ls hP hD hS h) (fun q => kf q H locs ls hP hD hS h)
theorem ik_if_le (C : ik_C p m c cc nL s args own D cI cS) {x : Int32} {off : Int} (tgt : Nat) (hdg : decode cc pc = .ok (.ifCond .le off, 3)) (ht : (pc : Int) + off = (tgt : Int)) (kt : x ≤ 0 → ik_G p l e R s m args below meth c D A B nL kc ks Q tgt lv st ws) (kf : ¬ x ≤ 0 → ik_G p l e R s m args below meth c D A B nL kc ks Q (pc + 3) lv st ws) : ik_G p l e R s m args below meth c D A B nL kc ks Q pc lv (.int x :: st) ws :=
  fun H locs ls hP hD hS h => lv_if_le C.1.1 C.1.2.1 hdg ht (fun q => kt q H locs ls hP hD hS h) (fun q => kf q H locs ls hP hD hS h)
theorem ik_icmp_eq (C : ik_C p m c cc nL s args own D cI cS) {x y : Int32} {off : Int} (tgt : Nat) (hdg : decode cc pc = .ok (.if_icmp .eq off, 3)) (ht : (pc : Int) + off = (tgt : Int)) (kt : x = y → ik_G p l e R s m args below meth c D A B nL kc ks Q tgt lv st ws) (kf : ¬ x = y → ik_G p l e R s m args below meth c D A B nL kc ks Q (pc + 3) lv st ws) : ik_G p l e R s m args below meth c D A B nL kc ks Q pc lv (.int y :: .int x :: st) ws :=
  fun H locs ls hP hD hS h => lv_icmp_eq C.1.1 C.1.2.1 hdg ht (fun q => kt q H locs ls hP hD hS h) (fun q => kf q H locs ls hP hD hS h)
theorem ik_icmp_ne (C : ik_C p m c cc nL s args own D cI cS) {x y : Int32} {off : Int} (tgt : Nat) (hdg : decode cc pc = .ok (.if_icmp .ne off, 3)) (ht : (pc : Int) + off = (tgt : Int)) (kt : ¬ x = y → ik_G p l e R s m args below meth c D A B nL kc ks Q tgt lv st ws) (kf : x = y → ik_G p l e R s m args below meth c D A B nL kc ks Q (pc + 3) lv st ws) : ik_G p l e R s m args below meth c D A B nL kc ks Q pc lv (.int y :: .int x :: st) ws :=
  fun H locs ls hP hD hS h => lv_icmp_ne C.1.1 C.1.2.1 hdg ht (fun q => kt q H locs ls hP hD hS h) (fun q => kf q H locs ls hP hD hS h)
theorem ik_icmp_lt (C : ik_C p m c cc nL s args own D cI cS) {x y : Int32} {off : Int} (tgt : Nat) (hdg : decode cc pc = .ok (.if_icmp .lt off, 3)) (ht : (pc : Int) + off = (tgt : Int)) (kt : x < y → ik_G p l e R s m args below meth c D A B nL kc ks Q tgt lv st ws) (kf : ¬ x < y → ik_G p l e R s m args below meth c D A B nL kc ks Q (pc + 3) lv st ws) : ik_G p l e R s m args below meth c D A B nL kc ks Q pc lv (.int y :: .int x :: st) ws :=
  fun H locs ls hP hD hS h => lv_icmp_lt C.1.1 C.1.2.1 hdg ht (fun q => kt q H locs ls hP hD hS h) (fun q => kf q H locs ls hP hD hS h)
theorem ik_icmp_le (C : ik_C p m c cc nL s args own D cI cS) {x y : Int32} {off : Int} (tgt : Nat) (hdg : decode cc pc = .ok (.if_icmp .le off, 3)) (ht : (pc : Int) + off = (tgt : Int)) (kt : x ≤ y → ik_G p l e R s m args below meth c D A B nL kc ks Q tgt lv st ws) (kf : ¬ x ≤ y → ik_G p l e R s m args below meth c D A B nL kc ks Q (pc + 3) lv st ws) : ik_G p l e R s m args below meth c D A B nL kc ks Q pc lv (.int y :: .int x :: st) ws :=
  fun H locs ls hP hD hS h => lv_icmp_le C.1.1 C.1.2.1 hdg ht (fun q => kt q H locs ls hP hD hS h) (fun q => kf q H locs ls hP hD hS h)
theorem ik_icmp_gt (C : ik_C p m c cc nL s args own D cI cS) {x y : Int32} {off : Int} (tgt : Nat) (hdg : decode cc pc = .ok (.if_icmp .gt off, 3)) (ht : (pc : Int) + off = (tgt : Int)) (kt : y < x → ik_G p l e R s m args below meth c D A B nL kc ks Q tgt lv st ws) (kf : ¬ y < x → ik_G p l e R s m args below meth c D A B nL kc ks Q (pc + 3) lv st ws) : ik_G p l e R s m args below meth c D A B nL kc ks Q pc lv (.int y :: .int x :: st) ws :=
  fun H locs ls hP hD hS h => lv_icmp_gt C.1.1 C.1.2.1 hdg ht (fun q => kt q H locs ls hP hD hS h) (fun q => kf q H locs ls hP hD hS h)
theorem ik_icmp_ge (C : ik_C p m c cc nL s args own D cI cS) {x y : Int32} {off : Int} (tgt : Nat) (hdg : decode cc pc = .ok (.if_icmp .ge off, 3)) (ht : (pc : Int) + off = (tgt : Int)) (kt : y ≤ x → ik_G p l e R s m args below meth c D A B nL kc ks Q tgt lv st ws) (kf : ¬ y ≤ x → ik_G p l e R s m args below meth c D A B nL kc ks Q (pc + 3) lv st ws) : ik_G p l e R s m args below meth c D A B nL kc ks Q pc lv (.int y :: .int x :: st) ws :=
  fun H locs ls hP hD hS h => lv_icmp_ge C.1.1 C.1.2.1 hdg ht (fun q => kt q H locs ls hP hD hS h) (fun q => kf q H locs ls hP hD hS h)
theorem ik_tout (C : ik_C p m c cc nL s args own D cI cS) {dflt lo hi : Int} {offs : Array Int} {len : Nat} {x : Int32} (tgt : Nat) (hdg : decode cc pc = .ok (.tableswitch dflt lo hi offs, len)) (h : x.toInt < lo ∨ hi < x.toInt) (ht : (pc : Int) + dflt = (tgt : Int)) (kk : ik_G p l e R s m args below meth c D A B nL kc ks Q tgt lv st ws) : ik_G p l e R s m args below meth c D A B nL kc ks Q pc lv (.int x :: st) ws :=
  fun H locs ls hP hD hS h' => lv_tableOut C.1.1 C.1.2.1 hdg h ht (kk H locs ls hP hD hS h')
theorem ik_tin (C : ik_C p m c cc nL s args own D cI cS) {dflt lo hi : Int} {offs : Array Int} {len : Nat} {x : Int32} {off : Int} (tgt : Nat) (hdg : decode cc pc = .ok (.tableswitch dflt lo hi offs, len)) (h1 : ¬ x.toInt < lo) (h2 : ¬ hi < x.toInt) (ho : offs[(x.toInt - lo).toNat]? = some off) (ht : (pc : Int) + off = (tgt : Int)) (kk : ik_G p l e R s m args below meth c D A B nL kc ks Q tgt lv st ws) : ik_G p l e R s m args below meth c D A B nL kc ks Q pc lv (.int x :: st) ws :=
  fun H locs ls hP hD hS h' => lv_tableIn C.1.1 C.1.2.1 hdg h1 h2 ho ht (kk H locs ls hP hD hS h')
theorem ik_get (C : ik_C p m c cc nL s args own D cI cS) {ref CC : String} {T : u_T} {N ci index : Nat} (hin : ∀ w ∈ u_ws CC T N, w ∈ wsL_law) (q0 : Nat) {a : Nat} {fs : List Value} (he : ws[q0]? = some (a, .inr (ci, fs))) (hc : vwCl[ci]? = some (CC, T, N)) (k : Nat) (hk : k < N) (hlink : Cond.fieldLink own index ref (T k).2.1 (T k).2.2.1 ∈ wsL_law) (hsame : (T k).1 = ref) {v : Value} (hv : fs[k]? = some v) (hdg : decode cc pc = .ok (.getfield index, 3))
    (kk : ik_G p l e R s m args below meth c D A B nL kc ks Q (pc + 3) lv (v :: st) ws) : ik_G p l e R s m args below meth c D A B nL kc ks Q pc lv (.ref a :: st) ws :=
  fun H locs ls hP hD hS h => va_get (D := D) (ci := ci) (v := v) (C := CC) (T := T) (N := N) C.1.1 C.1.2.1 C.1.2.2.2.2 hin C.1.2.2.2.1 C.2.1 hP q0 he hc k hk (C.1.2.2.2.2 _ hlink) (fun _ h9 => by rw [← hsame]; exact h9) hv hdg (kk H locs ls hP hD hS h)
theorem ik_put (C : ik_C p m c cc nL s args own D cI cS) {ref CC : String} {T : u_T} {N ci index : Nat} (hin : ∀ w ∈ u_ws CC T N, w ∈ wsL_law) (ty0 : Nat → FieldType) (hty : ∀ k, k < N → parseFieldDescriptor (T k).2.2.1 = some (ty0 k)) (hnm : ∀ a, a < N → ∀ b, b < N → a ≠ b → (T a).2.1 ≠ (T b).2.1) (q0 : Nat) {a : Nat} {fs : List Value} (he : ws[q0]? = some (a, .inr (ci, fs))) (hc : vwCl[ci]? = some (CC, T, N)) (k : Nat) (hk : k < N) (hlink : Cond.fieldLink own index ref (T k).2.1 (T k).2.2.1 ∈ wsL_law) (hsame : (T k).1 = ref) (hfin : (T k).2.2.2 = false) {v : Value} (hn : narrow (ty0 k) v = v) (hfit : fits (ty0 k) v = true) (hl : k < fs.length) (ws' : va_W) (hw : ws.set q0 (a, .inr (ci, fs.set k v)) = ws')
    (hdg : decode cc pc = .ok (.putfield index, 3)) (kk : ik_G p l e R s m args below meth c D A A nL kc ks Q (pc + 3) lv st ws') : ik_G p l e R s m args below meth c D A A nL kc ks Q pc lv (v :: .ref a :: st) ws :=
  fun H locs ls hP hD hS h => va_put (D := D) (ci := ci) (v := v) (ty := ty0 k) (C := CC) (T := T) (N := N) C.1.1 C.1.2.1 C.1.2.2.2.2 hin ty0 hty hnm C.1.2.2.2.1 C.2.1 hP hD hS q0 he hc k hk (C.1.2.2.2.2 _ hlink) (fun _ h9 => by rw [← hsame]; exact h9) hfin (hty k hk) hn hfit hl hdg (fun H1 locs1 hP1 hD1 hS1 => by subst hw; exact kk H1 locs1 ls hP1 hD1 hS1 h)
theorem ik_iald (C : ik_C p m c cc nL s args own D cI cS) (q0 : Nat) {a n : Nat} {f : Nat → Int32} (ha : ws[q0]? = some (a, .inl (cI, n, .inl f))) {i : Int32} (hin : vp_in i n) (hdg : decode cc pc = .ok (.iaload, 1)) (kk : ik_G p l e R s m args below meth c D A B nL kc ks Q (pc + 1) lv (.int (f i.toNatClampNeg) :: st) ws) : ik_G p l e R s m args below meth c D A B nL kc ks Q pc lv (.int i :: .ref a :: st) ws :=
  fun H locs ls hP hD hS h => va_iald C.1.1 C.1.2.1 C.2.1 hP q0 0 ha rfl hin hdg (kk H locs ls hP hD hS h)
theorem ik_iast (C : ik_C p m c cc nL s args own D cI cS) (q0 : Nat) {a n : Nat} {f : Nat → Int32} (ha : ws[q0]? = some (a, .inl (cI, n, .inl f))) {i x : Int32} (hin : vp_in i n) (ws' : va_W) (hw : ws.set q0 (a, .inl (cI, n, .inl (upd f i.toNatClampNeg x))) = ws') (hdg : decode cc pc = .ok (.iastore, 1)) (kk : ik_G p l e R s m args below meth c D A A nL kc ks Q (pc + 1) lv st ws') : ik_G p l e R s m args below meth c D A A nL kc ks Q pc lv (.int x :: .int i :: .ref a :: st) ws :=
  fun H locs ls hP hD hS h => va_iast C.1.1 C.1.2.1 C.2.1 hP hD hS q0 0 ha rfl hin hdg (fun H1 locs1 hP1 hD1 hS1 => by subst hw; exact kk H1 locs1 ls hP1 hD1 hS1 h)
theorem ik_aald (C : ik_C p m c cc nL s args own D cI cS) (q0 : Nat) {a n : Nat} {f : Nat → Option Nat} (ha : ws[q0]? = some (a, .inl (cS, n, .inr (.inr (.inr (.inr f)))))) {i : Int32} (hin : vp_in i n) (hdg : decode cc pc = .ok (.aaload, 1)) (kk : ik_G p l e R s m args below meth c D A B nL kc ks Q (pc + 1) lv (va_rf (f i.toNatClampNeg) :: st) ws) : ik_G p l e R s m args below meth c D A B nL kc ks Q pc lv (.int i :: .ref a :: st) ws :=
  fun H locs ls hP hD hS h => va_aldq C.1.1 C.1.2.1 C.2.1 hP q0 1 ha rfl hin hdg (kk H locs ls hP hD hS h)
/-- Math.min, Math.abs -/
def ik_min (x y : Int32) : Int32 := if y < x then y else x
def ik_abs (x : Int32) : Int32 := if 0 ≤ x then x else 0 - x
theorem ik_mmin (C : ik_C p m c cc nL s args own D cI cS) {index : Nat} {x y : Int32} (hlink : Cond.methodLink own index Lib.Math.min.name ∈ wsL_law) (hstat : Cond.static Lib.Math.min.name ∈ wsL_law) (hini : Cond.initialized "java/lang/Math" ∈ wsL_law) (hcode : Cond.code Lib.Math.min.name Lib.Math.min.code 2 (some .int) ∈ wsL_law) (hframes : 1 ≤ R.frames) (hlocals : (st.map fun v => v.category).sum + 13 ≤ R.locals) (hdg : decode cc pc = .ok (.invokestatic index, 3)) (kk : ik_G p l e R s m args below meth c D A B nL 0 0 Q (pc + 3) lv (.int (ik_min x y) :: st) ws) : ik_G p l e R s m args below meth c D A B nL 0 0 Q pc lv (.int y :: .int x :: st) ws :=
  fun H locs ls hP hD hS h => va_mmin C.1.1 C.1.2.1 (C.1.2.2.1.trans h.1.symm) C.1.2.2.2.1 (C.1.2.2.2.2 _ hlink) (C.1.2.2.2.2 _ hstat) (C.1.2.2.2.2 _ hini) (C.1.2.2.2.2 _ hcode) hframes hlocals (Nat.zero_le _) (Nat.zero_le _) hdg (kk H locs ls hP hD hS h)
theorem ik_mabs (C : ik_C p m c cc nL s args own D cI cS) {index : Nat} {x : Int32} (hlink : Cond.methodLink own index Lib.Math.abs.name ∈ wsL_law) (hstat : Cond.static Lib.Math.abs.name ∈ wsL_law) (hini : Cond.initialized "java/lang/Math" ∈ wsL_law) (hcode : Cond.code Lib.Math.abs.name Lib.Math.abs.code 1 (some .int) ∈ wsL_law) (hframes : 1 ≤ R.frames) (hlocals : (st.map fun v => v.category).sum + 13 ≤ R.locals) (hdg : decode cc pc = .ok (.invokestatic index, 3)) (kk : ik_G p l e R s m args below meth c D A B nL 0 0 Q (pc + 3) lv (.int (ik_abs x) :: st) ws) : ik_G p l e R s m args below meth c D A B nL 0 0 Q pc lv (.int x :: st) ws :=
  fun H locs ls hP hD hS h => va_mabs C.1.1 C.1.2.1 (C.1.2.2.1.trans h.1.symm) C.1.2.2.2.1 (C.1.2.2.2.2 _ hlink) (C.1.2.2.2.2 _ hstat) (C.1.2.2.2.2 _ hini) (C.1.2.2.2.2 _ hcode) hframes hlocals (Nat.zero_le _) (Nat.zero_le _) hdg (kk H locs ls hP hD hS h)
theorem ik_alen (C : ik_C p m c cc nL s args own D cI cS) (q0 : Nat) {a : Nat} {x : vp_A} (ha : ws[q0]? = some (a, .inl (cI, x))) {v : Int32} (hv : Int32.ofNat x.1 = v) (hdg : decode cc pc = .ok (.arraylength, 1)) (kk : ik_G p l e R s m args below meth c D A B nL kc ks Q (pc + 1) lv (.int v :: st) ws) : ik_G p l e R s m args below meth c D A B nL kc ks Q pc lv (.ref a :: st) ws :=
  fun H locs ls hP hD hS h => va_alen C.1.1 C.1.2.1 C.2.1 hP q0 0 ha (ty := .int) rfl hv hdg (kk H locs ls hP hD hS h)
theorem ik_tcase (C : ik_C p m c cc nL s args own D cI cS) {dflt lo hi : Int} {offs : Array Int} {len : Nat} {x : Int32} {off : Int} (v : Int32) (hx : x = v) (tgt : Nat) (hdg : decode cc pc = .ok (.tableswitch dflt lo hi offs, len)) (h1 : ¬ v.toInt < lo) (h2 : ¬ hi < v.toInt) (ho : offs[(v.toInt - lo).toNat]? = some off) (ht : (pc : Int) + off = (tgt : Int)) (kk : ik_G p l e R s m args below meth c D A B nL kc ks Q tgt lv st ws) : ik_G p l e R s m args below meth c D A B nL kc ks Q pc lv (.int x :: st) ws := by
  subst hx
  exact ik_tin C tgt hdg h1 h2 ho ht kk
/-- fewer locals, in another order -/
theorem ik_sub (zs : List Nat) (lv' : List (Nat × Value)) (hl : lv_pick lv zs = lv') (kk : ik_G p l e R s m args below meth c D A B nL kc ks Q pc lv' st ws) : ik_G p l e R s m args below meth c D A B nL kc ks Q pc lv st ws :=
  fun H locs ls hP hD hS h => kk H locs ls hP hD hS (lv_sub h zs hl)
theorem ik_vin {i : Int32} {n : Nat} (h : (decide (0 ≤ i.toInt) && decide (i.toInt < n)) = true) : vp_in i n := by
  rw [vp_in_iff]
  simpa using h
/-- a row of four references, by the case -/
theorem ik_aald4 (C : ik_C p m c cc nL s args own D cI cS) (q0 : Nat) {a : Nat} {f : Nat → Option Nat} (ha : ws[q0]? = some (a, .inl (cS, 4, .inr (.inr (.inr (.inr f)))))) {i : Int32} (hin : vp_in i 4) {a0 a1 a2 a3 : Nat} (e0 : f 0 = some a0) (e1 : f 1 = some a1) (e2 : f 2 = some a2) (e3 : f 3 = some a3) (hdg : decode cc pc = .ok (.aaload, 1)) (k0 : i = 0 → ik_G p l e R s m args below meth c D A B nL kc ks Q (pc + 1) lv (.ref a0 :: st) ws) (k1 : ¬ i = 0 → i = 1 → ik_G p l e R s m args below meth c D A B nL kc ks Q (pc + 1) lv (.ref a1 :: st) ws) (k2 : ¬ i = 0 → ¬ i = 1 → i = 2 → ik_G p l e R s m args below meth c D A B nL kc ks Q (pc + 1) lv (.ref a2 :: st) ws) (k3 : ¬ i = 0 → ¬ i = 1 → ¬ i = 2 → i = 3 → ik_G p l e R s m args below meth c D A B nL kc ks Q (pc + 1) lv (.ref a3 :: st) ws) : ik_G p l e R s m args below meth c D A B nL kc ks Q pc lv (.int i :: .ref a :: st) ws := by
  refine ik_aald C q0 ha hin hdg ?_
  obtain ⟨j, hj, rfl⟩ := vp_in_of hin (by decide)
  rw [nI_clamp (by omega)]
  match j, hj with
  | 0, _ => rw [e0]; exact k0 rfl
  | 1, _ => rw [e1]; exact k1 (by decide) rfl
  | 2, _ => rw [e2]; exact k2 (by decide) (by decide) rfl
  | 3, _ => rw [e3]; exact k3 (by decide) (by decide) (by decide) rfl
/-! calls -/
def ik_ws (y : MethodName) (b : ByteArray) (n : Nat) (r : Option FieldType) : List Cond := Cond.code y b n r :: wsL_law
theorem ik_goodIn {y : MethodName} {b : ByteArray} {n : Nat} {r : Option FieldType} (h : Cond.code y b n r ∈ wsL_law) : GoodIn wsL_law (ik_ws y b n r) := fun w hw => (List.mem_cons.mp hw).elim (fun e => by subst e; exact ⟨h, ik_good _ h⟩) (fun hw => ⟨hw, ik_good w hw⟩)
/-- the words of a method that is called on an object; of a static one -/
def ik_V (y : MethodName) (CC : String) (b : ByteArray) (n : Nat) (r : Option FieldType) (k : Nat) : Prop := Cond.instanceMethod y ∈ wsL_law ∧ Cond.selects CC y y ∈ wsL_law ∧ Cond.initialized CC ∈ wsL_law ∧ Cond.code y b n r ∈ wsL_law ∧ (y.cls = CC ∧ y.cls ≠ "java/lang/invoke/MethodHandle" ∧ y.cls ≠ "java/lang/invoke/VarHandle" ∧ (parseMethodDescriptor y.desc).map (fun d => d.parameters.length) = some k)
def ik_S (y : MethodName) (CC : String) (b : ByteArray) (n : Nat) (r : Option FieldType) (k : Nat) : Prop := Cond.static y ∈ wsL_law ∧ Cond.initialized CC ∈ wsL_law ∧ Cond.code y b n r ∈ wsL_law ∧ (y.cls = CC ∧ y.cls ≠ "java/lang/invoke/MethodHandle" ∧ y.cls ≠ "java/lang/invoke/VarHandle" ∧ (parseMethodDescriptor y.desc).map (fun d => d.parameters.length) = some k)
theorem ik_at {is : List Nat} {ws w : va_W} (hs : is.map (fun i => ws[i]?) = w.map some) (k : Nat) (q : Nat × va_E) (hq : w[k]? = some q) : ∃ i, is[k]? = some i ∧ ws[i]? = some q := by
  have h1 : (is.map (fun i => ws[i]?))[k]? = some (some q) := by rw [hs, List.getElem?_map, hq]; rfl
  rw [List.getElem?_map] at h1
  cases hi : is[k]? with
  | none => rw [hi] at h1; cases h1
  | some i => rw [hi] at h1; exact ⟨i, rfl, Option.some.inj h1⟩
theorem ik_subP {is : List Nat} {ws w : va_W} {H : Heap} (hs : is.map (fun i => ws[i]?) = w.map some) (hP : va_P D vwCl ws H) : va_P D vwCl w H := fun k q hq => by
  obtain ⟨i, -, h2⟩ := ik_at hs k q hq
  exact hP i q h2
/-- behind a call that wrote nothing -/
theorem ik_goR {g0 st0 : List Value} {v : Option Value} {a' : Array Value} (hr : ∀ (H : Heap) (locs : List Loc) (ls : Array Slot), va_P D vwCl ws H → va_D B ws → va_S A s.heap H locs → lv_has ls nL lv → va_Run p l e R s m args below meth c H locs kc ks 0 0 (F0 m pc ls st0) st (ik_R v a') ik_no) (he : v.toList ++ st = g0) (kk : ik_G p l e R s m args below meth c D A B nL kc ks Q (pc + 3) lv g0 ws) : ik_G p l e R s m args below meth c D A B nL kc ks Q pc lv st0 ws := by
  intro H locs ls hP hD hS hl T hT X
  obtain ⟨v', st₀, t, T', L, h0, X', hL, e1, e2, ⟨hv, hz, hk⟩, stp⟩ := hr H locs ls hP hD hS hl T hT X
  cases hv
  subst he
  rw [h0] at hz hk
  obtain ⟨t2, a1, b1⟩ := kk T'.heap (locs ++ L) ls (fun k q hq => (hP k q hq).kept (by rw [e1]; exact hk q.1 (hP k q hq).lt (fun h => h))) hD
    ⟨Nat.le_trans hS.1 (by rw [e1]; exact hz), fun q h1 h2 => by rw [e1, hk q (Nat.lt_of_lt_of_le h1 hS.1) (fun h => h)]; exact hS.2.1 q h1 h2, fun q hq => (List.mem_append.mp hq).elim (hS.2.2 q) (fun h => (hL q h).elim)⟩ hl T' rfl X'
  exact ⟨t2, stp t2 a1, b1⟩
/-- behind a call that wrote in the cells at the places isC: those are the callee's, those at isR are as they were -/
theorem ik_goW {g0 st0 : List Value} {v : Option Value} {a' : Array Value} {wc w1 : va_W} (isC isR : List Nat) (n : Nat) (hC : isC.map (fun i => ws[i]?) = wc.map some) (had : w1.map (fun q => q.1) = wc.map (fun q => q.1)) (ws' : va_W) (hC1 : isC.map (fun i => ws'[i]?) = w1.map some) (wr : va_W) (hRa : isR.map (fun i => ws[i]?) = wr.map some) (hRb : isR.map (fun i => ws'[i]?) = wr.map some) (hlen : ws'.length = n) (hcov : (List.range n).all (fun k => isC.contains k || isR.contains k) = true) (hr : ∀ (H : Heap) (locs : List Loc) (ls : Array Slot), va_P D vwCl ws H → va_D A ws → va_S A s.heap H locs → lv_has ls nL lv → va_Run p l e R s m args below meth c H locs kc ks 0 0 (F0 m pc ls st0) st (ik_Q v D w1 wc a') (ik_in wc)) (he : v.toList ++ st = g0) (kk : ik_G p l e R s m args below meth c D A A nL kc ks Q (pc + 3) lv g0 ws') : ik_G p l e R s m args below meth c D A A nL kc ks Q pc lv st0 ws := by
  intro H locs ls hP hD hS hl T hT X
  obtain ⟨v', st₀, t, T', L, h0, X', hL, e1, e2, ⟨hv, hP1, hz, hk⟩, stp⟩ := hr H locs ls hP hD hS hl T hT X
  cases hv
  subst he
  rw [h0] at hz hk
  have hget : ∀ (k : Nat) (q : Nat × va_E), ws'[k]? = some q → (∃ j : Nat, isC[j]? = some k ∧ w1[j]? = some q) ∨ (k ∉ isC ∧ ws[k]? = some q) := by
    intro k q hq
    by_cases hkC : k ∈ isC
    · obtain ⟨j, hj⟩ := List.mem_iff_getElem?.mp hkC
      have h1 : (isC.map (fun i => ws'[i]?))[j]? = some (some q) := by rw [List.getElem?_map, hj]; show some (ws'[k]?) = _; rw [hq]
      rw [hC1, List.getElem?_map] at h1
      cases hw : w1[j]? with
      | none => rw [hw] at h1; cases h1
      | some q' => rw [hw] at h1; cases h1; exact Or.inl ⟨j, hj, hw⟩
    · have hkn : k < n := by rw [← hlen]; exact (List.getElem?_eq_some_iff.mp hq).1
      have h2 := List.all_eq_true.mp hcov k (List.mem_range.mpr hkn)
      have hkR : k ∈ isR := by
        rcases Bool.or_eq_true_iff.mp h2 with h | h
        · exact absurd (List.contains_iff_mem.mp h) hkC
        · exact List.contains_iff_mem.mp h
      have h3 := List.map_inj_left.mp (hRb.trans hRa.symm) k hkR
      exact Or.inr ⟨hkC, by rw [← h3]; exact hq⟩
  have hA : ∀ q, ik_in wc q → A q := fun q ⟨k, e, hq⟩ => by
    obtain ⟨i, -, h2⟩ := ik_at hC k (q, e) hq
    exact hD.2 i _ h2
  have hadr : ∀ (k : Nat) (q : Nat × va_E), ws'[k]? = some q → ∃ q', ws[k]? = some q' ∧ q'.1 = q.1 := fun k q hq => by
    rcases hget k q hq with ⟨j, h1, h2⟩ | ⟨-, h2⟩
    · have h3 : (w1.map (fun q => q.1))[j]? = some q.1 := by rw [List.getElem?_map, h2]; rfl
      rw [had, List.getElem?_map] at h3
      cases hj : wc[j]? with
      | none => rw [hj] at h3; cases h3
      | some q' =>
        rw [hj] at h3
        obtain ⟨i, h4, h5⟩ := ik_at hC j q' hj
        rw [h1] at h4
        cases h4
        exact ⟨q', h5, Option.some.inj h3⟩
    · exact ⟨q, h2, rfl⟩
  obtain ⟨t2, a1, b1⟩ := kk T'.heap (locs ++ L) ls (fun k q hq => by
      rcases hget k q hq with ⟨j, h1, h2⟩ | ⟨h1, h2⟩
      · rw [e1]; exact hP1 j q h2
      · refine (hP k q h2).kept ?_
        rw [e1]
        refine hk q.1 (hP k q h2).lt (fun ⟨k2, e', h3⟩ => h1 ?_)
        obtain ⟨i, h4, h5⟩ := ik_at hC k2 _ h3
        have := hD.1 k i q (q.1, e') h2 h5 rfl
        subst this
        exact List.mem_of_getElem? h4)
    ⟨fun i j p q hi hj hpq => by
      obtain ⟨p', g1, g2⟩ := hadr i p hi
      obtain ⟨q', g3, g4⟩ := hadr j q hj
      exact hD.1 i j p' q' g1 g3 (by rw [g2, g4]; exact hpq), fun k q hq => by
      obtain ⟨q', g1, g2⟩ := hadr k q hq
      rw [← g2]; exact hD.2 k q' g1⟩
    ⟨Nat.le_trans hS.1 (by rw [e1]; exact hz), fun q h1 h2 => by rw [e1, hk q (Nat.lt_of_lt_of_le h1 hS.1) (fun h => h2 (hA q h))]; exact hS.2.1 q h1 h2, fun q hq => (List.mem_append.mp hq).elim (hS.2.2 q) (fun h => hA _ (hL q h))⟩ hl T' rfl X'
  exact ⟨t2, stp t2 a1, b1⟩
section IKC
variable {y : MethodName} {CC : String} {b : ByteArray} {maxL index n : Nat} {ret : Option FieldType} {rm : Room} {a : Nat} {As st0 : List Value} {wc w1 : va_W} {v : Value} {Qc : Array Value → State → Outcome → State → Prop} {free : Nat → Prop}
theorem ik_runV (C : ik_C p m c cc nL s args own D cI cS) (hM : Met l y (ik_ws y b maxL ret) rm (ik_P D cI cS (.ref a :: As) wc) Qc 0 0 free) (hV : ik_V y CC b maxL ret n) (hl1 : Cond.methodLink own index y ∈ wsL_law) (hR : rm.cells = 0 ∧ rm.slots = 0 ∧ rm.frames + 1 ≤ R.frames ∧ 8 + (maxL + 11) + rm.locals ≤ R.locals) (isC : List Nat) (hC : isC.map (fun i => ws[i]?) = wc.map some) (hnd : va_nd isC = true) (q0 : Nat) {ci : Nat} {fs : List Value} {T : u_T} {N : Nat} (hq : ws[q0]? = some (a, .inr (ci, fs))) (hcl : vwCl[ci]? = some (CC, T, N)) (hn : As.length = n) (hst : st0 = As.reverse ++ .ref a :: st) (hroom : (st.map fun v => v.category).sum ≤ 8) (hdg : decode cc pc = .ok (.invokevirtual index, 3)) (hkc : kc ≤ R.cells ∧ ks ≤ R.slots) : ∀ (H : Heap) (locs : List Loc) (ls : Array Slot), va_P D vwCl ws H → va_D B ws → va_S A s.heap H locs → lv_has ls nL lv → va_Run p l e R s m args below meth c H locs kc ks 0 0 (F0 m pc ls st0) st (Qc (.ref a :: As).toArray) free := by
  intro H locs ls hP hD hS hl
  obtain ⟨v1, v2, v3, v4, v5, v6⟩ := hV
  refine va_runV (C := CC) (bytes := b) (maxL := maxL) (ret := ret) (n := n) C.1 hM ⟨callB_of n C.1.2.2.2.2 (ik_goodIn v4) rfl hR.1 hR.2.1 (by rw [v5]; exact C.1.2.2.2.2 _ v3) (C.1.2.2.2.2 _ hl1) v6 hR.2.2, C.1.2.2.2.2 _ v1, C.1.2.2.2.2 _ v2⟩ ⟨ik_blind, va_recv C.2.1 hP hcl hq, fun U hU hW => ⟨rfl, by rw [hU]; exact ik_subP hC hP, (hD.sub isC hnd hC).weaken (fun _ _ _ _ => trivial), ik_K.warm hW C.2⟩⟩ rfl hn hl.1 hst (lv_room hroom) hdg hkc
theorem ik_runS (C : ik_C p m c cc nL s args own D cI cS) (hM : Met l y (ik_ws y b maxL ret) rm (ik_P D cI cS As wc) Qc 0 0 free) (hV : ik_S y CC b maxL ret n) (hl1 : Cond.methodLink own index y ∈ wsL_law) (hR : rm.cells = 0 ∧ rm.slots = 0 ∧ rm.frames + 1 ≤ R.frames ∧ 8 + (maxL + 11) + rm.locals ≤ R.locals) (isC : List Nat) (hC : isC.map (fun i => ws[i]?) = wc.map some) (hnd : va_nd isC = true) (hn : As.length = n) (hst : st0 = As.reverse ++ st) (hroom : (st.map fun v => v.category).sum ≤ 8) (hdg : decode cc pc = .ok (.invokestatic index, 3)) (hkc : kc ≤ R.cells ∧ ks ≤ R.slots) : ∀ (H : Heap) (locs : List Loc) (ls : Array Slot), va_P D vwCl ws H → va_D B ws → va_S A s.heap H locs → lv_has ls nL lv → va_Run p l e R s m args below meth c H locs kc ks 0 0 (F0 m pc ls st0) st (Qc As.toArray) free := by
  intro H locs ls hP hD hS hl
  obtain ⟨v1, v3, v4, v5, v6⟩ := hV
  exact va_runS (bytes := b) (maxL := maxL) (ret := ret) (n := n) C.1 hM ⟨callB_of n C.1.2.2.2.2 (ik_goodIn v4) rfl hR.1 hR.2.1 (by rw [v5]; exact C.1.2.2.2.2 _ v3) (C.1.2.2.2.2 _ hl1) v6 hR.2.2, C.1.2.2.2.2 _ v1⟩ ⟨ik_blind, fun U hU hW => ⟨rfl, by rw [hU]; exact ik_subP hC hP, (hD.sub isC hnd hC).weaken (fun _ _ _ _ => trivial), ik_K.warm hW C.2⟩⟩ rfl hn hl.1 hst (lv_room hroom) hdg hkc
theorem ik_runN (C : ik_C p m c cc nL s args own D cI cS) {host : String} (hM : Met l y (ik_ws y b maxL ret) rm (ik_P D cI cS As wc) Qc 0 0 free) (hV : ik_S y CC b maxL ret n) (hl1 : va_Nw (.methodLinkNest own index y host) s) (hR : rm.cells = 0 ∧ rm.slots = 0 ∧ rm.frames + 1 ≤ R.frames ∧ 8 + (maxL + 11) + rm.locals ≤ R.locals) (isC : List Nat) (hC : isC.map (fun i => ws[i]?) = wc.map some) (hnd : va_nd isC = true) (hn : As.length = n) (hst : st0 = As.reverse ++ st) (hroom : (st.map fun v => v.category).sum ≤ 8) (hdg : decode cc pc = .ok (.invokestatic index, 3)) (hkc : kc ≤ R.cells ∧ ks ≤ R.slots) : ∀ (H : Heap) (locs : List Loc) (ls : Array Slot), va_P D vwCl ws H → va_D B ws → va_S A s.heap H locs → lv_has ls nL lv → va_Run p l e R s m args below meth c H locs kc ks 0 0 (F0 m pc ls st0) st (Qc As.toArray) free := by
  intro H locs ls hP hD hS hl
  obtain ⟨v1, v3, v4, v5, v6⟩ := hV
  exact va_runSN (bytes := b) (maxL := maxL) (ret := ret) (n := n) C.1 hM ⟨va_cnB n C.1.2.2.2.2 (ik_goodIn v4) rfl hR.1 hR.2.1 hl1 (by rw [v5]; exact C.1.2.2.2.2 _ v3) v6 hR.2.2, C.1.2.2.2.2 _ v1, trivial⟩ ⟨ik_blind, fun U hU hW => ⟨rfl, by rw [hU]; exact ik_subP hC hP, (hD.sub isC hnd hC).weaken (fun _ _ _ _ => trivial), ik_K.warm hW C.2⟩⟩ rfl hn hl.1 hst (lv_room hroom) hdg hkc
end IKC
/-! ends -/
theorem ik_iretR {v : Int32} (C : ik_C p m c cc nL s args own D cI cS) (hr : meth.sig.returnType = some .int) (hlk : meth.locks = false) (hdg : decode cc pc = .ok (.ireturn, 1)) : ik_G p l e R s m args below meth c D ik_no B nL kc ks (MQ below (ik_R (some (.int v))) args s kc ks ik_no) pc lv [.int v] ws :=
  fun H locs ls hP hD hS h => W.iret C.1.1 C.1.2.1 hr (fun t ht hW => ⟨rfl, hS.F ht⟩) hS.2.2 hdg hlk
theorem ik_zretR {v : Int32} {ty : FieldType} (C : ik_C p m c cc nL s args own D cI cS) (hr : meth.sig.returnType = some ty) (hn : narrow ty (.int v) = .int v) (hlk : meth.locks = false) (hdg : decode cc pc = .ok (.ireturn, 1)) : ik_G p l e R s m args below meth c D ik_no B nL kc ks (MQ below (ik_R (some (.int v))) args s kc ks ik_no) pc lv [.int v] ws :=
  fun H locs ls hP hD hS h => W.zret C.1.1 C.1.2.1 hr hn (fun t ht hW => ⟨rfl, hS.F ht⟩) hS.2.2 hdg hlk
theorem ik_lretR {v : Int64} (C : ik_C p m c cc nL s args own D cI cS) (hr : meth.sig.returnType = some .long) (hlk : meth.locks = false) (hdg : decode cc pc = .ok (.lreturn, 1)) : ik_G p l e R s m args below meth c D ik_no B nL kc ks (MQ below (ik_R (some (.long v))) args s kc ks ik_no) pc lv [.long v] ws :=
  fun H locs ls hP hD hS h => W.lret C.1.1 C.1.2.1 hr (fun t ht hW => ⟨rfl, hS.F ht⟩) hS.2.2 hdg hlk
theorem ik_vretR (C : ik_C p m c cc nL s args own D cI cS) (hr : meth.sig.returnType = none) (hlk : meth.locks = false) (hdg : decode cc pc = .ok (.return_, 1)) : ik_G p l e R s m args below meth c D ik_no B nL kc ks (MQ below (ik_R none) args s kc ks ik_no) pc lv [] ws :=
  fun H locs ls hP hD hS h => W.vret C.1.1 C.1.2.1 hr (fun t ht hW => ⟨rfl, hS.F ht⟩) hS.2.2 hdg hlk
theorem ik_iretW {v : Int32} {w : va_W} (C : ik_C p m c cc nL s args own D cI cS) (hr : meth.sig.returnType = some .int) (hlk : meth.locks = false) (hdg : decode cc pc = .ok (.ireturn, 1)) : ik_G p l e R s m args below meth c D (ik_in w) (ik_in w) nL kc ks (MQ below (ik_Q (some (.int v)) D ws w) args s kc ks (ik_in w)) pc lv [.int v] ws :=
  fun H locs ls hP hD hS h => W.iret C.1.1 C.1.2.1 hr (fun t ht hW => ⟨rfl, by rw [ht]; exact hP, hS.F ht⟩) hS.2.2 hdg hlk
theorem ik_zretW {v : Int32} {ty : FieldType} {w : va_W} (C : ik_C p m c cc nL s args own D cI cS) (hr : meth.sig.returnType = some ty) (hn : narrow ty (.int v) = .int v) (hlk : meth.locks = false) (hdg : decode cc pc = .ok (.ireturn, 1)) : ik_G p l e R s m args below meth c D (ik_in w) (ik_in w) nL kc ks (MQ below (ik_Q (some (.int v)) D ws w) args s kc ks (ik_in w)) pc lv [.int v] ws :=
  fun H locs ls hP hD hS h => W.zret C.1.1 C.1.2.1 hr hn (fun t ht hW => ⟨rfl, by rw [ht]; exact hP, hS.F ht⟩) hS.2.2 hdg hlk
theorem ik_aretW {v : Nat} {rt : String} {w : va_W} (C : ik_C p m c cc nL s args own D cI cS) (hr : meth.sig.returnType = some (.object rt)) (hlk : meth.locks = false) (hdg : decode cc pc = .ok (.areturn, 1)) : ik_G p l e R s m args below meth c D (ik_in w) (ik_in w) nL kc ks (MQ below (ik_Q (some (.ref v)) D ws w) args s kc ks (ik_in w)) pc lv [.ref v] ws :=
  fun H locs ls hP hD hS h => W.aret C.1.1 C.1.2.1 hr (Or.inl ⟨_, rfl⟩) (Or.inr ⟨_, rfl⟩) (fun t ht hW => ⟨rfl, by rw [ht]; exact hP, hS.F ht⟩) hS.2.2 hdg hlk
theorem ik_vretW {w : va_W} (C : ik_C p m c cc nL s args own D cI cS) (hr : meth.sig.returnType = none) (hlk : meth.locks = false) (hdg : decode cc pc = .ok (.return_, 1)) : ik_G p l e R s m args below meth c D (ik_in w) (ik_in w) nL kc ks (MQ below (ik_Q none D ws w) args s kc ks (ik_in w)) pc lv [] ws :=
  fun H locs ls hP hD hS h => W.vret C.1.1 C.1.2.1 hr (fun t ht hW => ⟨rfl, by rw [ht]; exact hP, hS.F ht⟩) hS.2.2 hdg hlk
end IK
/-! starts -/
theorem ik_metR {l : Launch} {D : va_G} {cI cS : ClassId} {y : MethodName} {b : ByteArray} {maxL : Nat} {ret : Option FieldType} {rm : Room} {av : List Value} {w : va_W} {v : Option Value} (own : String) (ho : y.cls = own) (hy : plainName y.cls = true) (hlen : (lg_sl av).length ≤ maxL) (lv : List (Nat × Value)) (hlv : lv_args 0 av = lv)
    (body : ∀ (p : Program) (e : Env) (s : State) (m : MethodId) (below : List Frame) (meth : Method) (c : Code), ik_C p m c b maxL s av.toArray own D cI cS → meth.sig.returnType = ret → meth.locks = false → ik_G p l e rm s m av.toArray below meth c D ik_no (fun _ => True) maxL 0 0 (MQ below (ik_R v) av.toArray s 0 0 ik_no) 0 lv [] w) : Met l y (ik_ws y b maxL ret) rm (ik_P D cI cS av w) (ik_R v) 0 0 ik_no := by
  refine Met.ofW (cc := b) (maxL := maxL) (ret := ret) hy rfl ?_
  intro p e s m args below meth c s₁ B hml hv
  obtain ⟨rfl, hP, hD, hK⟩ := hv
  have hts := atoms_spec (ws := ik_ws y b maxL ret) B.pre
  have hown : s.vm.findClass own = some m.cls := by rw [← ho]; exact findClass_of_methodNamed B.named
  have hl := lv_entry av (n := maxL) hlen
  rw [lg_entry_eq]
  subst hlv
  exact body p e s m below meth c ⟨⟨B.exec, B.bytes, hml, hown, fun w hw => hts w (List.mem_cons_of_mem _ hw)⟩, hK⟩ B.returns B.notSynchronized s.heap [] _ hP hD va_S.rf hl
theorem ik_metW {l : Launch} {D : va_G} {cI cS : ClassId} {y : MethodName} {b : ByteArray} {maxL : Nat} {ret : Option FieldType} {rm : Room} {av : List Value} {w w1 : va_W} {v : Option Value} (own : String) (ho : y.cls = own) (hy : plainName y.cls = true) (hlen : (lg_sl av).length ≤ maxL) (lv : List (Nat × Value)) (hlv : lv_args 0 av = lv)
    (body : ∀ (p : Program) (e : Env) (s : State) (m : MethodId) (below : List Frame) (meth : Method) (c : Code), ik_C p m c b maxL s av.toArray own D cI cS → meth.sig.returnType = ret → meth.locks = false → ik_G p l e rm s m av.toArray below meth c D (ik_in w) (ik_in w) maxL 0 0 (MQ below (ik_Q v D w1 w) av.toArray s 0 0 (ik_in w)) 0 lv [] w) : Met l y (ik_ws y b maxL ret) rm (ik_P D cI cS av w) (ik_Q v D w1 w) 0 0 (ik_in w) := by
  refine Met.ofW (cc := b) (maxL := maxL) (ret := ret) hy rfl ?_
  intro p e s m args below meth c s₁ B hml hv
  obtain ⟨rfl, hP, hD, hK⟩ := hv
  have hts := atoms_spec (ws := ik_ws y b maxL ret) B.pre
  have hown : s.vm.findClass own = some m.cls := by rw [← ho]; exact findClass_of_methodNamed B.named
  have hl := lv_entry av (n := maxL) hlen
  rw [lg_entry_eq]
  subst hlv
  exact body p e s m below meth c ⟨⟨B.exec, B.bytes, hml, hown, fun w hw => hts w (List.mem_cons_of_mem _ hw)⟩, hK⟩ B.returns B.notSynchronized s.heap [] _ hP ⟨hD.1, fun k q hq => ⟨k, q.2, hq⟩⟩ va_S.rf hl
/-! the functions that are read off the bytecode: guards, loops -/
def ik_fu : Nat := 4096
def ik_gd {α : Type} (i : Int32) (n : Nat) (k : Option α) : Option α := if 0 ≤ i.toInt ∧ i.toInt < n then k else none
def ik_gn {α : Type} (d : Int32) (k : Option α) : Option α := if d = 0 then none else k
def ik_gz {α : Type} (v : Int32) (k : Option α) : Option α := if v = 0 ∨ v = 1 then k else none
def ik_lp {α β : Type} (f : (α → Option β) → α → Option β) : Nat → α → Option β
  | 0, _ => none
  | n + 1, a => f (ik_lp f n) a
theorem ik_gdi {α : Type} {i : Int32} {n : Nat} {k : Option α} {r : α} (h : ik_gd i n k = some r) : vp_in i n := by
  unfold ik_gd at h
  split at h
  · rw [vp_in_iff]; assumption
  · cases h
theorem ik_gdk {α : Type} {i : Int32} {n : Nat} {k : Option α} {r : α} (h : ik_gd i n k = some r) : k = some r := by
  unfold ik_gd at h
  split at h
  · exact h
  · cases h
theorem ik_gni {α : Type} {d : Int32} {k : Option α} {r : α} (h : ik_gn d k = some r) : ¬ d = 0 := by
  unfold ik_gn at h
  split at h
  · cases h
  · assumption
theorem ik_gnk {α : Type} {d : Int32} {k : Option α} {r : α} (h : ik_gn d k = some r) : k = some r := by
  unfold ik_gn at h
  split at h
  · cases h
  · exact h
theorem ik_gzi {α : Type} {v : Int32} {k : Option α} {r : α} (h : ik_gz v k = some r) : narrow .boolean (.int v) = .int v ∧ fits .boolean (.int v) = true := by
  unfold ik_gz at h
  split at h
  · rename_i hv
    rcases hv with rfl | rfl <;> exact ⟨by decide, by decide⟩
  · cases h
theorem ik_gzk {α : Type} {v : Int32} {k : Option α} {r : α} (h : ik_gz v k = some r) : k = some r := by
  unfold ik_gz at h
  split at h
  · exact h
  · cases h
theorem ik_bd {α β : Type} {x : Option α} {k : α → Option β} {r : β} (h : x.bind k = some r) : ∃ a, x = some a ∧ k a = some r := by
  cases x with
  | none => cases h
  | some a => exact ⟨a, rfl, h⟩
theorem ik_pos {α : Type} {c : Prop} [Decidable c] {x y : Option α} {r : α} (hc : c) (h : (if c then x else y) = some r) : x = some r := by rw [if_pos hc] at h; exact h
theorem ik_neg {α : Type} {c : Prop} [Decidable c] {x y : Option α} {r : α} (hc : ¬ c) (h : (if c then x else y) = some r) : y = some r := by rw [if_neg hc] at h; exact h
