def nar_at : List Cond := flatC (Jvm.Cond.and given_1 narrow_1)
theorem ik_str {args : Array Value} {s : State} {tm : Term} {n : Nat} {byt : List Int32} {A : Nat → Prop} (hn : n < 2 ^ 31) (hex : (Cond.exactly tm "java/lang/String").before args s = true) (hco : (Cond.eq (.field tm "java/lang/String" "coder" "B") (.int 0)).before args s = true) (har : (Cond.arrayOf (.field tm "java/lang/String" "value" "[B") .byte).before args s = true) (hle : (Cond.eq (.length (.field tm "java/lang/String" "value" "[B")) (.int (Int32.ofNat n))).before args s = true) (hel : ∀ j : Nat, j < n → (Cond.eq (.elem (.field tm "java/lang/String" "value" "[B") (.int (Int32.ofNat j))) (.int (byt.getD j 0))).before args s = true) (hA : ∀ a : Nat, a < s.heap.size → ¬ A a) : ∃ a t : Nat, tm.eval args s none [] s = some (.ref a) ∧ va_O "java/lang/String" a A s s.heap ∧ va_OF "java/lang/String" "coder" "B" (.int 0) a A s s.heap ∧ va_OF "java/lang/String" "value" "[B" (.ref t) a A s s.heap ∧ va_T .byte t n (fun j => .int (byt.getD j 0)) A s s.heap := by
  obtain ⟨a, c, cA, kA, q1, q2, q3, q4, q5, q6, -⟩ := Cond.exactly_spec (args := args) (first := s) (o := none) (s := s) (idx := []) (t := tm) (cls := "java/lang/String") hex
  obtain ⟨t, ht, hT⟩ := va_Tof (f := fun j => .int (byt.getD j 0)) (A := A) hn har (va_eqt hle) (fun j hj => va_eqt (hel j hj)) hA
  exact ⟨a, t, q1, ⟨cA, q3, q5, by rw [q6]; exact q2, hA a (Array.getElem?_eq_some_iff.mp q3).1⟩, vk_OFof q1 (va_eqt hco) hA, vk_OFof q1 ht hA, hT⟩
set_option maxHeartbeats 4000000 in
set_option maxRecDepth 100000 in
theorem str_0 {args : Array Value} {s : State} {A : Nat → Prop} (hs : ∀ c ∈ nar_at, c.before args s = true) (hA : ∀ a : Nat, a < s.heap.size → ¬ A a) : ∃ a t : Nat, (Term.string "IcePalace$TextReader" 49).eval args s none [] s = some (.ref a) ∧ va_O "java/lang/String" a A s s.heap ∧ va_OF "java/lang/String" "coder" "B" (.int 0) a A s s.heap ∧ va_OF "java/lang/String" "value" "[B" (.ref t) a A s s.heap ∧ va_T .byte t 6 (fun j => .int (([99, 97, 110, 100, 108, 101] : List Int32).getD j 0)) A s s.heap := by
  refine ik_str (n := 6) (byt := [99, 97, 110, 100, 108, 101]) (by decide) (hs _ (List.mem_of_getElem? (i := 94) (by decide +kernel))) (hs _ (List.mem_of_getElem? (i := 95) (by decide +kernel))) (hs _ (List.mem_of_getElem? (i := 96) (by decide +kernel))) (hs _ (List.mem_of_getElem? (i := 97) (by decide +kernel))) (fun j hj => ?_) hA
  match j, hj with
  | 0, _ => exact (hs _ (List.mem_of_getElem? (i := 98) (by decide +kernel)))
  | 1, _ => exact (hs _ (List.mem_of_getElem? (i := 99) (by decide +kernel)))
  | 2, _ => exact (hs _ (List.mem_of_getElem? (i := 100) (by decide +kernel)))
  | 3, _ => exact (hs _ (List.mem_of_getElem? (i := 101) (by decide +kernel)))
  | 4, _ => exact (hs _ (List.mem_of_getElem? (i := 102) (by decide +kernel)))
  | 5, _ => exact (hs _ (List.mem_of_getElem? (i := 103) (by decide +kernel)))
  | n + 6, h => exact absurd h (by omega)
set_option maxHeartbeats 4000000 in
set_option maxRecDepth 100000 in
theorem str_1 {args : Array Value} {s : State} {A : Nat → Prop} (hs : ∀ c ∈ nar_at, c.before args s = true) (hA : ∀ a : Nat, a < s.heap.size → ¬ A a) : ∃ a t : Nat, (Term.string "IcePalace$TextReader" 63).eval args s none [] s = some (.ref a) ∧ va_O "java/lang/String" a A s s.heap ∧ va_OF "java/lang/String" "coder" "B" (.int 0) a A s s.heap ∧ va_OF "java/lang/String" "value" "[B" (.ref t) a A s s.heap ∧ va_T .byte t 4 (fun j => .int (([99, 111, 108, 100] : List Int32).getD j 0)) A s s.heap := by
  refine ik_str (n := 4) (byt := [99, 111, 108, 100]) (by decide) (hs _ (List.mem_of_getElem? (i := 126) (by decide +kernel))) (hs _ (List.mem_of_getElem? (i := 127) (by decide +kernel))) (hs _ (List.mem_of_getElem? (i := 128) (by decide +kernel))) (hs _ (List.mem_of_getElem? (i := 129) (by decide +kernel))) (fun j hj => ?_) hA
  match j, hj with
  | 0, _ => exact (hs _ (List.mem_of_getElem? (i := 130) (by decide +kernel)))
  | 1, _ => exact (hs _ (List.mem_of_getElem? (i := 131) (by decide +kernel)))
  | 2, _ => exact (hs _ (List.mem_of_getElem? (i := 132) (by decide +kernel)))
  | 3, _ => exact (hs _ (List.mem_of_getElem? (i := 133) (by decide +kernel)))
  | n + 4, h => exact absurd h (by omega)
set_option maxHeartbeats 4000000 in
set_option maxRecDepth 100000 in
theorem str_2 {args : Array Value} {s : State} {A : Nat → Prop} (hs : ∀ c ∈ nar_at, c.before args s = true) (hA : ∀ a : Nat, a < s.heap.size → ¬ A a) : ∃ a t : Nat, (Term.string "IcePalace$TextReader" 85).eval args s none [] s = some (.ref a) ∧ va_O "java/lang/String" a A s s.heap ∧ va_OF "java/lang/String" "coder" "B" (.int 0) a A s s.heap ∧ va_OF "java/lang/String" "value" "[B" (.ref t) a A s s.heap ∧ va_T .byte t 6 (fun j => .int (([103, 114, 97, 105, 110, 115] : List Int32).getD j 0)) A s s.heap := by
  refine ik_str (n := 6) (byt := [103, 114, 97, 105, 110, 115]) (by decide) (hs _ (List.mem_of_getElem? (i := 84) (by decide +kernel))) (hs _ (List.mem_of_getElem? (i := 85) (by decide +kernel))) (hs _ (List.mem_of_getElem? (i := 86) (by decide +kernel))) (hs _ (List.mem_of_getElem? (i := 87) (by decide +kernel))) (fun j hj => ?_) hA
  match j, hj with
  | 0, _ => exact (hs _ (List.mem_of_getElem? (i := 88) (by decide +kernel)))
  | 1, _ => exact (hs _ (List.mem_of_getElem? (i := 89) (by decide +kernel)))
  | 2, _ => exact (hs _ (List.mem_of_getElem? (i := 90) (by decide +kernel)))
  | 3, _ => exact (hs _ (List.mem_of_getElem? (i := 91) (by decide +kernel)))
  | 4, _ => exact (hs _ (List.mem_of_getElem? (i := 92) (by decide +kernel)))
  | 5, _ => exact (hs _ (List.mem_of_getElem? (i := 93) (by decide +kernel)))
  | n + 6, h => exact absurd h (by omega)
set_option maxHeartbeats 4000000 in
set_option maxRecDepth 100000 in
theorem str_3 {args : Array Value} {s : State} {A : Nat → Prop} (hs : ∀ c ∈ nar_at, c.before args s = true) (hA : ∀ a : Nat, a < s.heap.size → ¬ A a) : ∃ a t : Nat, (Term.string "IcePalace$TextReader" 91).eval args s none [] s = some (.ref a) ∧ va_O "java/lang/String" a A s s.heap ∧ va_OF "java/lang/String" "coder" "B" (.int 0) a A s s.heap ∧ va_OF "java/lang/String" "value" "[B" (.ref t) a A s s.heap ∧ va_T .byte t 2 (fun j => .int (([97, 116] : List Int32).getD j 0)) A s s.heap := by
  refine ik_str (n := 2) (byt := [97, 116]) (by decide) (hs _ (List.mem_of_getElem? (i := 104) (by decide +kernel))) (hs _ (List.mem_of_getElem? (i := 105) (by decide +kernel))) (hs _ (List.mem_of_getElem? (i := 106) (by decide +kernel))) (hs _ (List.mem_of_getElem? (i := 107) (by decide +kernel))) (fun j hj => ?_) hA
  match j, hj with
  | 0, _ => exact (hs _ (List.mem_of_getElem? (i := 108) (by decide +kernel)))
  | 1, _ => exact (hs _ (List.mem_of_getElem? (i := 109) (by decide +kernel)))
  | n + 2, h => exact absurd h (by omega)
set_option maxHeartbeats 4000000 in
set_option maxRecDepth 100000 in
theorem str_4 {args : Array Value} {s : State} {A : Nat → Prop} (hs : ∀ c ∈ nar_at, c.before args s = true) (hA : ∀ a : Nat, a < s.heap.size → ¬ A a) : ∃ a t : Nat, (Term.string "IcePalace$TextReader" 99).eval args s none [] s = some (.ref a) ∧ va_O "java/lang/String" a A s s.heap ∧ va_OF "java/lang/String" "coder" "B" (.int 0) a A s s.heap ∧ va_OF "java/lang/String" "value" "[B" (.ref t) a A s s.heap ∧ va_T .byte t 5 (fun j => .int (([112, 111, 119, 101, 114] : List Int32).getD j 0)) A s s.heap := by
  refine ik_str (n := 5) (byt := [112, 111, 119, 101, 114]) (by decide) (hs _ (List.mem_of_getElem? (i := 110) (by decide +kernel))) (hs _ (List.mem_of_getElem? (i := 111) (by decide +kernel))) (hs _ (List.mem_of_getElem? (i := 112) (by decide +kernel))) (hs _ (List.mem_of_getElem? (i := 113) (by decide +kernel))) (fun j hj => ?_) hA
  match j, hj with
  | 0, _ => exact (hs _ (List.mem_of_getElem? (i := 114) (by decide +kernel)))
  | 1, _ => exact (hs _ (List.mem_of_getElem? (i := 115) (by decide +kernel)))
  | 2, _ => exact (hs _ (List.mem_of_getElem? (i := 116) (by decide +kernel)))
  | 3, _ => exact (hs _ (List.mem_of_getElem? (i := 117) (by decide +kernel)))
  | 4, _ => exact (hs _ (List.mem_of_getElem? (i := 118) (by decide +kernel)))
  | n + 5, h => exact absurd h (by omega)
set_option maxHeartbeats 4000000 in
set_option maxRecDepth 100000 in
theorem str_5 {args : Array Value} {s : State} {A : Nat → Prop} (hs : ∀ c ∈ nar_at, c.before args s = true) (hA : ∀ a : Nat, a < s.heap.size → ¬ A a) : ∃ a t : Nat, (Term.string "IcePalace$TextReader" 104).eval args s none [] s = some (.ref a) ∧ va_O "java/lang/String" a A s s.heap ∧ va_OF "java/lang/String" "coder" "B" (.int 0) a A s s.heap ∧ va_OF "java/lang/String" "value" "[B" (.ref t) a A s s.heap ∧ va_T .byte t 3 (fun j => .int (([108, 105, 116] : List Int32).getD j 0)) A s s.heap := by
  refine ik_str (n := 3) (byt := [108, 105, 116]) (by decide) (hs _ (List.mem_of_getElem? (i := 119) (by decide +kernel))) (hs _ (List.mem_of_getElem? (i := 120) (by decide +kernel))) (hs _ (List.mem_of_getElem? (i := 121) (by decide +kernel))) (hs _ (List.mem_of_getElem? (i := 122) (by decide +kernel))) (fun j hj => ?_) hA
  match j, hj with
  | 0, _ => exact (hs _ (List.mem_of_getElem? (i := 123) (by decide +kernel)))
  | 1, _ => exact (hs _ (List.mem_of_getElem? (i := 124) (by decide +kernel)))
  | 2, _ => exact (hs _ (List.mem_of_getElem? (i := 125) (by decide +kernel)))
  | n + 3, h => exact absurd h (by omega)
set_option maxHeartbeats 4000000 in
set_option maxRecDepth 100000 in
theorem str_6 {args : Array Value} {s : State} {A : Nat → Prop} (hs : ∀ c ∈ nar_at, c.before args s = true) (hA : ∀ a : Nat, a < s.heap.size → ¬ A a) : ∃ a t : Nat, (Term.string "IcePalace$TextReader" 112).eval args s none [] s = some (.ref a) ∧ va_O "java/lang/String" a A s s.heap ∧ va_OF "java/lang/String" "coder" "B" (.int 0) a A s s.heap ∧ va_OF "java/lang/String" "value" "[B" (.ref t) a A s s.heap ∧ va_T .byte t 5 (fun j => .int (([98, 108, 111, 99, 107] : List Int32).getD j 0)) A s s.heap := by
  refine ik_str (n := 5) (byt := [98, 108, 111, 99, 107]) (by decide) (hs _ (List.mem_of_getElem? (i := 19) (by decide +kernel))) (hs _ (List.mem_of_getElem? (i := 20) (by decide +kernel))) (hs _ (List.mem_of_getElem? (i := 21) (by decide +kernel))) (hs _ (List.mem_of_getElem? (i := 22) (by decide +kernel))) (fun j hj => ?_) hA
  match j, hj with
  | 0, _ => exact (hs _ (List.mem_of_getElem? (i := 23) (by decide +kernel)))
  | 1, _ => exact (hs _ (List.mem_of_getElem? (i := 24) (by decide +kernel)))
  | 2, _ => exact (hs _ (List.mem_of_getElem? (i := 25) (by decide +kernel)))
  | 3, _ => exact (hs _ (List.mem_of_getElem? (i := 26) (by decide +kernel)))
  | 4, _ => exact (hs _ (List.mem_of_getElem? (i := 27) (by decide +kernel)))
  | n + 5, h => exact absurd h (by omega)
set_option maxHeartbeats 4000000 in
set_option maxRecDepth 100000 in
theorem str_7 {args : Array Value} {s : State} {A : Nat → Prop} (hs : ∀ c ∈ nar_at, c.before args s = true) (hA : ∀ a : Nat, a < s.heap.size → ¬ A a) : ∃ a t : Nat, (Term.string "IcePalace$TextReader" 114).eval args s none [] s = some (.ref a) ∧ va_O "java/lang/String" a A s s.heap ∧ va_OF "java/lang/String" "coder" "B" (.int 0) a A s s.heap ∧ va_OF "java/lang/String" "value" "[B" (.ref t) a A s s.heap ∧ va_T .byte t 4 (fun j => .int (([97, 114, 99, 104] : List Int32).getD j 0)) A s s.heap := by
  refine ik_str (n := 4) (byt := [97, 114, 99, 104]) (by decide) (hs _ (List.mem_of_getElem? (i := 28) (by decide +kernel))) (hs _ (List.mem_of_getElem? (i := 29) (by decide +kernel))) (hs _ (List.mem_of_getElem? (i := 30) (by decide +kernel))) (hs _ (List.mem_of_getElem? (i := 31) (by decide +kernel))) (fun j hj => ?_) hA
  match j, hj with
  | 0, _ => exact (hs _ (List.mem_of_getElem? (i := 32) (by decide +kernel)))
  | 1, _ => exact (hs _ (List.mem_of_getElem? (i := 33) (by decide +kernel)))
  | 2, _ => exact (hs _ (List.mem_of_getElem? (i := 34) (by decide +kernel)))
  | 3, _ => exact (hs _ (List.mem_of_getElem? (i := 35) (by decide +kernel)))
  | n + 4, h => exact absurd h (by omega)
set_option maxHeartbeats 4000000 in
set_option maxRecDepth 100000 in
theorem str_8 {args : Array Value} {s : State} {A : Nat → Prop} (hs : ∀ c ∈ nar_at, c.before args s = true) (hA : ∀ a : Nat, a < s.heap.size → ¬ A a) : ∃ a t : Nat, (Term.string "IcePalace$TextReader" 116).eval args s none [] s = some (.ref a) ∧ va_O "java/lang/String" a A s s.heap ∧ va_OF "java/lang/String" "coder" "B" (.int 0) a A s s.heap ∧ va_OF "java/lang/String" "value" "[B" (.ref t) a A s s.heap ∧ va_T .byte t 4 (fun j => .int (([98, 101, 97, 109] : List Int32).getD j 0)) A s s.heap := by
  refine ik_str (n := 4) (byt := [98, 101, 97, 109]) (by decide) (hs _ (List.mem_of_getElem? (i := 36) (by decide +kernel))) (hs _ (List.mem_of_getElem? (i := 37) (by decide +kernel))) (hs _ (List.mem_of_getElem? (i := 38) (by decide +kernel))) (hs _ (List.mem_of_getElem? (i := 39) (by decide +kernel))) (fun j hj => ?_) hA
  match j, hj with
  | 0, _ => exact (hs _ (List.mem_of_getElem? (i := 40) (by decide +kernel)))
  | 1, _ => exact (hs _ (List.mem_of_getElem? (i := 41) (by decide +kernel)))
  | 2, _ => exact (hs _ (List.mem_of_getElem? (i := 42) (by decide +kernel)))
  | 3, _ => exact (hs _ (List.mem_of_getElem? (i := 43) (by decide +kernel)))
  | n + 4, h => exact absurd h (by omega)
set_option maxHeartbeats 4000000 in
set_option maxRecDepth 100000 in
theorem str_9 {args : Array Value} {s : State} {A : Nat → Prop} (hs : ∀ c ∈ nar_at, c.before args s = true) (hA : ∀ a : Nat, a < s.heap.size → ¬ A a) : ∃ a t : Nat, (Term.string "IcePalace$TextReader" 118).eval args s none [] s = some (.ref a) ∧ va_O "java/lang/String" a A s s.heap ∧ va_OF "java/lang/String" "coder" "B" (.int 0) a A s s.heap ∧ va_OF "java/lang/String" "value" "[B" (.ref t) a A s s.heap ∧ va_T .byte t 6 (fun j => .int (([116, 104, 114, 111, 110, 101] : List Int32).getD j 0)) A s s.heap := by
  refine ik_str (n := 6) (byt := [116, 104, 114, 111, 110, 101]) (by decide) (hs _ (List.mem_of_getElem? (i := 44) (by decide +kernel))) (hs _ (List.mem_of_getElem? (i := 45) (by decide +kernel))) (hs _ (List.mem_of_getElem? (i := 46) (by decide +kernel))) (hs _ (List.mem_of_getElem? (i := 47) (by decide +kernel))) (fun j hj => ?_) hA
  match j, hj with
  | 0, _ => exact (hs _ (List.mem_of_getElem? (i := 48) (by decide +kernel)))
  | 1, _ => exact (hs _ (List.mem_of_getElem? (i := 49) (by decide +kernel)))
  | 2, _ => exact (hs _ (List.mem_of_getElem? (i := 50) (by decide +kernel)))
  | 3, _ => exact (hs _ (List.mem_of_getElem? (i := 51) (by decide +kernel)))
  | 4, _ => exact (hs _ (List.mem_of_getElem? (i := 52) (by decide +kernel)))
  | 5, _ => exact (hs _ (List.mem_of_getElem? (i := 53) (by decide +kernel)))
  | n + 6, h => exact absurd h (by omega)
set_option maxHeartbeats 4000000 in
set_option maxRecDepth 100000 in
theorem str_10 {args : Array Value} {s : State} {A : Nat → Prop} (hs : ∀ c ∈ nar_at, c.before args s = true) (hA : ∀ a : Nat, a < s.heap.size → ¬ A a) : ∃ a t : Nat, (Term.string "IcePalace$TextReader" 120).eval args s none [] s = some (.ref a) ∧ va_O "java/lang/String" a A s s.heap ∧ va_OF "java/lang/String" "coder" "B" (.int 0) a A s s.heap ∧ va_OF "java/lang/String" "value" "[B" (.ref t) a A s s.heap ∧ va_T .byte t 6 (fun j => .int (([112, 105, 108, 108, 97, 114] : List Int32).getD j 0)) A s s.heap := by
  refine ik_str (n := 6) (byt := [112, 105, 108, 108, 97, 114]) (by decide) (hs _ (List.mem_of_getElem? (i := 54) (by decide +kernel))) (hs _ (List.mem_of_getElem? (i := 55) (by decide +kernel))) (hs _ (List.mem_of_getElem? (i := 56) (by decide +kernel))) (hs _ (List.mem_of_getElem? (i := 57) (by decide +kernel))) (fun j hj => ?_) hA
  match j, hj with
  | 0, _ => exact (hs _ (List.mem_of_getElem? (i := 58) (by decide +kernel)))
  | 1, _ => exact (hs _ (List.mem_of_getElem? (i := 59) (by decide +kernel)))
  | 2, _ => exact (hs _ (List.mem_of_getElem? (i := 60) (by decide +kernel)))
  | 3, _ => exact (hs _ (List.mem_of_getElem? (i := 61) (by decide +kernel)))
  | 4, _ => exact (hs _ (List.mem_of_getElem? (i := 62) (by decide +kernel)))
  | 5, _ => exact (hs _ (List.mem_of_getElem? (i := 63) (by decide +kernel)))
  | n + 6, h => exact absurd h (by omega)
set_option maxHeartbeats 4000000 in
set_option maxRecDepth 100000 in
theorem str_11 {args : Array Value} {s : State} {A : Nat → Prop} (hs : ∀ c ∈ nar_at, c.before args s = true) (hA : ∀ a : Nat, a < s.heap.size → ¬ A a) : ∃ a t : Nat, (Term.string "IcePalace$TextReader" 122).eval args s none [] s = some (.ref a) ∧ va_O "java/lang/String" a A s s.heap ∧ va_OF "java/lang/String" "coder" "B" (.int 0) a A s s.heap ∧ va_OF "java/lang/String" "value" "[B" (.ref t) a A s s.heap ∧ va_T .byte t 6 (fun j => .int (([108, 105, 110, 116, 101, 108] : List Int32).getD j 0)) A s s.heap := by
  refine ik_str (n := 6) (byt := [108, 105, 110, 116, 101, 108]) (by decide) (hs _ (List.mem_of_getElem? (i := 64) (by decide +kernel))) (hs _ (List.mem_of_getElem? (i := 65) (by decide +kernel))) (hs _ (List.mem_of_getElem? (i := 66) (by decide +kernel))) (hs _ (List.mem_of_getElem? (i := 67) (by decide +kernel))) (fun j hj => ?_) hA
  match j, hj with
  | 0, _ => exact (hs _ (List.mem_of_getElem? (i := 68) (by decide +kernel)))
  | 1, _ => exact (hs _ (List.mem_of_getElem? (i := 69) (by decide +kernel)))
  | 2, _ => exact (hs _ (List.mem_of_getElem? (i := 70) (by decide +kernel)))
  | 3, _ => exact (hs _ (List.mem_of_getElem? (i := 71) (by decide +kernel)))
  | 4, _ => exact (hs _ (List.mem_of_getElem? (i := 72) (by decide +kernel)))
  | 5, _ => exact (hs _ (List.mem_of_getElem? (i := 73) (by decide +kernel)))
  | n + 6, h => exact absurd h (by omega)
set_option maxHeartbeats 4000000 in
set_option maxRecDepth 100000 in
theorem str_12 {args : Array Value} {s : State} {A : Nat → Prop} (hs : ∀ c ∈ nar_at, c.before args s = true) (hA : ∀ a : Nat, a < s.heap.size → ¬ A a) : ∃ a t : Nat, (Term.string "IcePalace$TextReader" 124).eval args s none [] s = some (.ref a) ∧ va_O "java/lang/String" a A s s.heap ∧ va_OF "java/lang/String" "coder" "B" (.int 0) a A s s.heap ∧ va_OF "java/lang/String" "value" "[B" (.ref t) a A s s.heap ∧ va_T .byte t 6 (fun j => .int (([105, 99, 105, 99, 108, 101] : List Int32).getD j 0)) A s s.heap := by
  refine ik_str (n := 6) (byt := [105, 99, 105, 99, 108, 101]) (by decide) (hs _ (List.mem_of_getElem? (i := 74) (by decide +kernel))) (hs _ (List.mem_of_getElem? (i := 75) (by decide +kernel))) (hs _ (List.mem_of_getElem? (i := 76) (by decide +kernel))) (hs _ (List.mem_of_getElem? (i := 77) (by decide +kernel))) (fun j hj => ?_) hA
  match j, hj with
  | 0, _ => exact (hs _ (List.mem_of_getElem? (i := 78) (by decide +kernel)))
  | 1, _ => exact (hs _ (List.mem_of_getElem? (i := 79) (by decide +kernel)))
  | 2, _ => exact (hs _ (List.mem_of_getElem? (i := 80) (by decide +kernel)))
  | 3, _ => exact (hs _ (List.mem_of_getElem? (i := 81) (by decide +kernel)))
  | 4, _ => exact (hs _ (List.mem_of_getElem? (i := 82) (by decide +kernel)))
  | 5, _ => exact (hs _ (List.mem_of_getElem? (i := 83) (by decide +kernel)))
  | n + 6, h => exact absurd h (by omega)
set_option maxHeartbeats 4000000 in
set_option maxRecDepth 100000 in
theorem str_13 {args : Array Value} {s : State} {A : Nat → Prop} (hs : ∀ c ∈ nar_at, c.before args s = true) (hA : ∀ a : Nat, a < s.heap.size → ¬ A a) : ∃ a t : Nat, (Term.string "IcePalaceModel" 290).eval args s none [] s = some (.ref a) ∧ va_O "java/lang/String" a A s s.heap ∧ va_OF "java/lang/String" "coder" "B" (.int 0) a A s s.heap ∧ va_OF "java/lang/String" "value" "[B" (.ref t) a A s s.heap ∧ va_T .byte t 5 (fun j => .int (([98, 108, 111, 99, 107] : List Int32).getD j 0)) A s s.heap := by
  refine ik_str (n := 5) (byt := [98, 108, 111, 99, 107]) (by decide) (hs _ (List.mem_of_getElem? (i := 179) (by decide +kernel))) (hs _ (List.mem_of_getElem? (i := 180) (by decide +kernel))) (hs _ (List.mem_of_getElem? (i := 181) (by decide +kernel))) (hs _ (List.mem_of_getElem? (i := 182) (by decide +kernel))) (fun j hj => ?_) hA
  match j, hj with
  | 0, _ => exact (hs _ (List.mem_of_getElem? (i := 183) (by decide +kernel)))
  | 1, _ => exact (hs _ (List.mem_of_getElem? (i := 184) (by decide +kernel)))
  | 2, _ => exact (hs _ (List.mem_of_getElem? (i := 185) (by decide +kernel)))
  | 3, _ => exact (hs _ (List.mem_of_getElem? (i := 186) (by decide +kernel)))
  | 4, _ => exact (hs _ (List.mem_of_getElem? (i := 187) (by decide +kernel)))
  | n + 5, h => exact absurd h (by omega)
set_option maxHeartbeats 4000000 in
set_option maxRecDepth 100000 in
theorem str_14 {args : Array Value} {s : State} {A : Nat → Prop} (hs : ∀ c ∈ nar_at, c.before args s = true) (hA : ∀ a : Nat, a < s.heap.size → ¬ A a) : ∃ a t : Nat, (Term.string "IcePalaceModel" 292).eval args s none [] s = some (.ref a) ∧ va_O "java/lang/String" a A s s.heap ∧ va_OF "java/lang/String" "coder" "B" (.int 0) a A s s.heap ∧ va_OF "java/lang/String" "value" "[B" (.ref t) a A s s.heap ∧ va_T .byte t 4 (fun j => .int (([97, 114, 99, 104] : List Int32).getD j 0)) A s s.heap := by
  refine ik_str (n := 4) (byt := [97, 114, 99, 104]) (by decide) (hs _ (List.mem_of_getElem? (i := 189) (by decide +kernel))) (hs _ (List.mem_of_getElem? (i := 190) (by decide +kernel))) (hs _ (List.mem_of_getElem? (i := 191) (by decide +kernel))) (hs _ (List.mem_of_getElem? (i := 192) (by decide +kernel))) (fun j hj => ?_) hA
  match j, hj with
  | 0, _ => exact (hs _ (List.mem_of_getElem? (i := 193) (by decide +kernel)))
  | 1, _ => exact (hs _ (List.mem_of_getElem? (i := 194) (by decide +kernel)))
  | 2, _ => exact (hs _ (List.mem_of_getElem? (i := 195) (by decide +kernel)))
  | 3, _ => exact (hs _ (List.mem_of_getElem? (i := 196) (by decide +kernel)))
  | n + 4, h => exact absurd h (by omega)
set_option maxHeartbeats 4000000 in
set_option maxRecDepth 100000 in
theorem str_15 {args : Array Value} {s : State} {A : Nat → Prop} (hs : ∀ c ∈ nar_at, c.before args s = true) (hA : ∀ a : Nat, a < s.heap.size → ¬ A a) : ∃ a t : Nat, (Term.string "IcePalaceModel" 294).eval args s none [] s = some (.ref a) ∧ va_O "java/lang/String" a A s s.heap ∧ va_OF "java/lang/String" "coder" "B" (.int 0) a A s s.heap ∧ va_OF "java/lang/String" "value" "[B" (.ref t) a A s s.heap ∧ va_T .byte t 4 (fun j => .int (([98, 101, 97, 109] : List Int32).getD j 0)) A s s.heap := by
  refine ik_str (n := 4) (byt := [98, 101, 97, 109]) (by decide) (hs _ (List.mem_of_getElem? (i := 198) (by decide +kernel))) (hs _ (List.mem_of_getElem? (i := 199) (by decide +kernel))) (hs _ (List.mem_of_getElem? (i := 200) (by decide +kernel))) (hs _ (List.mem_of_getElem? (i := 201) (by decide +kernel))) (fun j hj => ?_) hA
  match j, hj with
  | 0, _ => exact (hs _ (List.mem_of_getElem? (i := 202) (by decide +kernel)))
  | 1, _ => exact (hs _ (List.mem_of_getElem? (i := 203) (by decide +kernel)))
  | 2, _ => exact (hs _ (List.mem_of_getElem? (i := 204) (by decide +kernel)))
  | 3, _ => exact (hs _ (List.mem_of_getElem? (i := 205) (by decide +kernel)))
  | n + 4, h => exact absurd h (by omega)
set_option maxHeartbeats 4000000 in
set_option maxRecDepth 100000 in
theorem str_16 {args : Array Value} {s : State} {A : Nat → Prop} (hs : ∀ c ∈ nar_at, c.before args s = true) (hA : ∀ a : Nat, a < s.heap.size → ¬ A a) : ∃ a t : Nat, (Term.string "IcePalaceModel" 296).eval args s none [] s = some (.ref a) ∧ va_O "java/lang/String" a A s s.heap ∧ va_OF "java/lang/String" "coder" "B" (.int 0) a A s s.heap ∧ va_OF "java/lang/String" "value" "[B" (.ref t) a A s s.heap ∧ va_T .byte t 6 (fun j => .int (([116, 104, 114, 111, 110, 101] : List Int32).getD j 0)) A s s.heap := by
  refine ik_str (n := 6) (byt := [116, 104, 114, 111, 110, 101]) (by decide) (hs _ (List.mem_of_getElem? (i := 207) (by decide +kernel))) (hs _ (List.mem_of_getElem? (i := 208) (by decide +kernel))) (hs _ (List.mem_of_getElem? (i := 209) (by decide +kernel))) (hs _ (List.mem_of_getElem? (i := 210) (by decide +kernel))) (fun j hj => ?_) hA
  match j, hj with
  | 0, _ => exact (hs _ (List.mem_of_getElem? (i := 211) (by decide +kernel)))
  | 1, _ => exact (hs _ (List.mem_of_getElem? (i := 212) (by decide +kernel)))
  | 2, _ => exact (hs _ (List.mem_of_getElem? (i := 213) (by decide +kernel)))
  | 3, _ => exact (hs _ (List.mem_of_getElem? (i := 214) (by decide +kernel)))
  | 4, _ => exact (hs _ (List.mem_of_getElem? (i := 215) (by decide +kernel)))
  | 5, _ => exact (hs _ (List.mem_of_getElem? (i := 216) (by decide +kernel)))
  | n + 6, h => exact absurd h (by omega)
set_option maxHeartbeats 4000000 in
set_option maxRecDepth 100000 in
theorem str_17 {args : Array Value} {s : State} {A : Nat → Prop} (hs : ∀ c ∈ nar_at, c.before args s = true) (hA : ∀ a : Nat, a < s.heap.size → ¬ A a) : ∃ a t : Nat, (Term.string "IcePalaceModel" 298).eval args s none [] s = some (.ref a) ∧ va_O "java/lang/String" a A s s.heap ∧ va_OF "java/lang/String" "coder" "B" (.int 0) a A s s.heap ∧ va_OF "java/lang/String" "value" "[B" (.ref t) a A s s.heap ∧ va_T .byte t 6 (fun j => .int (([112, 105, 108, 108, 97, 114] : List Int32).getD j 0)) A s s.heap := by
  refine ik_str (n := 6) (byt := [112, 105, 108, 108, 97, 114]) (by decide) (hs _ (List.mem_of_getElem? (i := 218) (by decide +kernel))) (hs _ (List.mem_of_getElem? (i := 219) (by decide +kernel))) (hs _ (List.mem_of_getElem? (i := 220) (by decide +kernel))) (hs _ (List.mem_of_getElem? (i := 221) (by decide +kernel))) (fun j hj => ?_) hA
  match j, hj with
  | 0, _ => exact (hs _ (List.mem_of_getElem? (i := 222) (by decide +kernel)))
  | 1, _ => exact (hs _ (List.mem_of_getElem? (i := 223) (by decide +kernel)))
  | 2, _ => exact (hs _ (List.mem_of_getElem? (i := 224) (by decide +kernel)))
  | 3, _ => exact (hs _ (List.mem_of_getElem? (i := 225) (by decide +kernel)))
  | 4, _ => exact (hs _ (List.mem_of_getElem? (i := 226) (by decide +kernel)))
  | 5, _ => exact (hs _ (List.mem_of_getElem? (i := 227) (by decide +kernel)))
  | n + 6, h => exact absurd h (by omega)
set_option maxHeartbeats 4000000 in
set_option maxRecDepth 100000 in
theorem str_18 {args : Array Value} {s : State} {A : Nat → Prop} (hs : ∀ c ∈ nar_at, c.before args s = true) (hA : ∀ a : Nat, a < s.heap.size → ¬ A a) : ∃ a t : Nat, (Term.string "IcePalaceModel" 300).eval args s none [] s = some (.ref a) ∧ va_O "java/lang/String" a A s s.heap ∧ va_OF "java/lang/String" "coder" "B" (.int 0) a A s s.heap ∧ va_OF "java/lang/String" "value" "[B" (.ref t) a A s s.heap ∧ va_T .byte t 6 (fun j => .int (([108, 105, 110, 116, 101, 108] : List Int32).getD j 0)) A s s.heap := by
  refine ik_str (n := 6) (byt := [108, 105, 110, 116, 101, 108]) (by decide) (hs _ (List.mem_of_getElem? (i := 229) (by decide +kernel))) (hs _ (List.mem_of_getElem? (i := 230) (by decide +kernel))) (hs _ (List.mem_of_getElem? (i := 231) (by decide +kernel))) (hs _ (List.mem_of_getElem? (i := 232) (by decide +kernel))) (fun j hj => ?_) hA
  match j, hj with
  | 0, _ => exact (hs _ (List.mem_of_getElem? (i := 233) (by decide +kernel)))
  | 1, _ => exact (hs _ (List.mem_of_getElem? (i := 234) (by decide +kernel)))
  | 2, _ => exact (hs _ (List.mem_of_getElem? (i := 235) (by decide +kernel)))
  | 3, _ => exact (hs _ (List.mem_of_getElem? (i := 236) (by decide +kernel)))
  | 4, _ => exact (hs _ (List.mem_of_getElem? (i := 237) (by decide +kernel)))
  | 5, _ => exact (hs _ (List.mem_of_getElem? (i := 238) (by decide +kernel)))
  | n + 6, h => exact absurd h (by omega)
set_option maxHeartbeats 4000000 in
set_option maxRecDepth 100000 in
theorem str_19 {args : Array Value} {s : State} {A : Nat → Prop} (hs : ∀ c ∈ nar_at, c.before args s = true) (hA : ∀ a : Nat, a < s.heap.size → ¬ A a) : ∃ a t : Nat, (Term.string "IcePalaceModel" 302).eval args s none [] s = some (.ref a) ∧ va_O "java/lang/String" a A s s.heap ∧ va_OF "java/lang/String" "coder" "B" (.int 0) a A s s.heap ∧ va_OF "java/lang/String" "value" "[B" (.ref t) a A s s.heap ∧ va_T .byte t 6 (fun j => .int (([105, 99, 105, 99, 108, 101] : List Int32).getD j 0)) A s s.heap := by
  refine ik_str (n := 6) (byt := [105, 99, 105, 99, 108, 101]) (by decide) (hs _ (List.mem_of_getElem? (i := 240) (by decide +kernel))) (hs _ (List.mem_of_getElem? (i := 241) (by decide +kernel))) (hs _ (List.mem_of_getElem? (i := 242) (by decide +kernel))) (hs _ (List.mem_of_getElem? (i := 243) (by decide +kernel))) (fun j hj => ?_) hA
  match j, hj with
  | 0, _ => exact (hs _ (List.mem_of_getElem? (i := 244) (by decide +kernel)))
  | 1, _ => exact (hs _ (List.mem_of_getElem? (i := 245) (by decide +kernel)))
  | 2, _ => exact (hs _ (List.mem_of_getElem? (i := 246) (by decide +kernel)))
  | 3, _ => exact (hs _ (List.mem_of_getElem? (i := 247) (by decide +kernel)))
  | 4, _ => exact (hs _ (List.mem_of_getElem? (i := 248) (by decide +kernel)))
  | 5, _ => exact (hs _ (List.mem_of_getElem? (i := 249) (by decide +kernel)))
  | n + 6, h => exact absurd h (by omega)
set_option maxHeartbeats 4000000 in
set_option maxRecDepth 100000 in
theorem str_20 {args : Array Value} {s : State} {A : Nat → Prop} (hs : ∀ c ∈ nar_at, c.before args s = true) (hA : ∀ a : Nat, a < s.heap.size → ¬ A a) : ∃ a t : Nat, (Term.string "IcePalaceModel" 306).eval args s none [] s = some (.ref a) ∧ va_O "java/lang/String" a A s s.heap ∧ va_OF "java/lang/String" "coder" "B" (.int 0) a A s s.heap ∧ va_OF "java/lang/String" "value" "[B" (.ref t) a A s s.heap ∧ va_T .byte t 2 (fun j => .int (([97, 116] : List Int32).getD j 0)) A s s.heap := by
  refine ik_str (n := 2) (byt := [97, 116]) (by decide) (hs _ (List.mem_of_getElem? (i := 145) (by decide +kernel))) (hs _ (List.mem_of_getElem? (i := 146) (by decide +kernel))) (hs _ (List.mem_of_getElem? (i := 147) (by decide +kernel))) (hs _ (List.mem_of_getElem? (i := 148) (by decide +kernel))) (fun j hj => ?_) hA
  match j, hj with
  | 0, _ => exact (hs _ (List.mem_of_getElem? (i := 149) (by decide +kernel)))
  | 1, _ => exact (hs _ (List.mem_of_getElem? (i := 150) (by decide +kernel)))
  | n + 2, h => exact absurd h (by omega)
set_option maxHeartbeats 4000000 in
set_option maxRecDepth 100000 in
theorem str_21 {args : Array Value} {s : State} {A : Nat → Prop} (hs : ∀ c ∈ nar_at, c.before args s = true) (hA : ∀ a : Nat, a < s.heap.size → ¬ A a) : ∃ a t : Nat, (Term.string "IcePalaceModel" 314).eval args s none [] s = some (.ref a) ∧ va_O "java/lang/String" a A s s.heap ∧ va_OF "java/lang/String" "coder" "B" (.int 0) a A s s.heap ∧ va_OF "java/lang/String" "value" "[B" (.ref t) a A s s.heap ∧ va_T .byte t 5 (fun j => .int (([112, 111, 119, 101, 114] : List Int32).getD j 0)) A s s.heap := by
  refine ik_str (n := 5) (byt := [112, 111, 119, 101, 114]) (by decide) (hs _ (List.mem_of_getElem? (i := 152) (by decide +kernel))) (hs _ (List.mem_of_getElem? (i := 153) (by decide +kernel))) (hs _ (List.mem_of_getElem? (i := 154) (by decide +kernel))) (hs _ (List.mem_of_getElem? (i := 155) (by decide +kernel))) (fun j hj => ?_) hA
  match j, hj with
  | 0, _ => exact (hs _ (List.mem_of_getElem? (i := 156) (by decide +kernel)))
  | 1, _ => exact (hs _ (List.mem_of_getElem? (i := 157) (by decide +kernel)))
  | 2, _ => exact (hs _ (List.mem_of_getElem? (i := 158) (by decide +kernel)))
  | 3, _ => exact (hs _ (List.mem_of_getElem? (i := 159) (by decide +kernel)))
  | 4, _ => exact (hs _ (List.mem_of_getElem? (i := 160) (by decide +kernel)))
  | n + 5, h => exact absurd h (by omega)
set_option maxHeartbeats 4000000 in
set_option maxRecDepth 100000 in
theorem str_22 {args : Array Value} {s : State} {A : Nat → Prop} (hs : ∀ c ∈ nar_at, c.before args s = true) (hA : ∀ a : Nat, a < s.heap.size → ¬ A a) : ∃ a t : Nat, (Term.string "IcePalaceModel" 316).eval args s none [] s = some (.ref a) ∧ va_O "java/lang/String" a A s s.heap ∧ va_OF "java/lang/String" "coder" "B" (.int 0) a A s s.heap ∧ va_OF "java/lang/String" "value" "[B" (.ref t) a A s s.heap ∧ va_T .byte t 3 (fun j => .int (([108, 105, 116] : List Int32).getD j 0)) A s s.heap := by
  refine ik_str (n := 3) (byt := [108, 105, 116]) (by decide) (hs _ (List.mem_of_getElem? (i := 162) (by decide +kernel))) (hs _ (List.mem_of_getElem? (i := 163) (by decide +kernel))) (hs _ (List.mem_of_getElem? (i := 164) (by decide +kernel))) (hs _ (List.mem_of_getElem? (i := 165) (by decide +kernel))) (fun j hj => ?_) hA
  match j, hj with
  | 0, _ => exact (hs _ (List.mem_of_getElem? (i := 166) (by decide +kernel)))
  | 1, _ => exact (hs _ (List.mem_of_getElem? (i := 167) (by decide +kernel)))
  | 2, _ => exact (hs _ (List.mem_of_getElem? (i := 168) (by decide +kernel)))
  | n + 3, h => exact absurd h (by omega)
set_option maxHeartbeats 4000000 in
set_option maxRecDepth 100000 in
theorem str_23 {args : Array Value} {s : State} {A : Nat → Prop} (hs : ∀ c ∈ nar_at, c.before args s = true) (hA : ∀ a : Nat, a < s.heap.size → ¬ A a) : ∃ a t : Nat, (Term.string "IcePalaceModel" 321).eval args s none [] s = some (.ref a) ∧ va_O "java/lang/String" a A s s.heap ∧ va_OF "java/lang/String" "coder" "B" (.int 0) a A s s.heap ∧ va_OF "java/lang/String" "value" "[B" (.ref t) a A s s.heap ∧ va_T .byte t 6 (fun j => .int (([103, 114, 97, 105, 110, 115] : List Int32).getD j 0)) A s s.heap := by
  refine ik_str (n := 6) (byt := [103, 114, 97, 105, 110, 115]) (by decide) (hs _ (List.mem_of_getElem? (i := 251) (by decide +kernel))) (hs _ (List.mem_of_getElem? (i := 252) (by decide +kernel))) (hs _ (List.mem_of_getElem? (i := 253) (by decide +kernel))) (hs _ (List.mem_of_getElem? (i := 254) (by decide +kernel))) (fun j hj => ?_) hA
  match j, hj with
  | 0, _ => exact (hs _ (List.mem_of_getElem? (i := 255) (by decide +kernel)))
  | 1, _ => exact (hs _ (List.mem_of_getElem? (i := 256) (by decide +kernel)))
  | 2, _ => exact (hs _ (List.mem_of_getElem? (i := 257) (by decide +kernel)))
  | 3, _ => exact (hs _ (List.mem_of_getElem? (i := 258) (by decide +kernel)))
  | 4, _ => exact (hs _ (List.mem_of_getElem? (i := 259) (by decide +kernel)))
  | 5, _ => exact (hs _ (List.mem_of_getElem? (i := 260) (by decide +kernel)))
  | n + 6, h => exact absurd h (by omega)
set_option maxHeartbeats 4000000 in
set_option maxRecDepth 100000 in
theorem str_24 {args : Array Value} {s : State} {A : Nat → Prop} (hs : ∀ c ∈ nar_at, c.before args s = true) (hA : ∀ a : Nat, a < s.heap.size → ¬ A a) : ∃ a t : Nat, (Term.string "IcePalaceModel" 322).eval args s none [] s = some (.ref a) ∧ va_O "java/lang/String" a A s s.heap ∧ va_OF "java/lang/String" "coder" "B" (.int 0) a A s s.heap ∧ va_OF "java/lang/String" "value" "[B" (.ref t) a A s s.heap ∧ va_T .byte t 6 (fun j => .int (([99, 97, 110, 100, 108, 101] : List Int32).getD j 0)) A s s.heap := by
  refine ik_str (n := 6) (byt := [99, 97, 110, 100, 108, 101]) (by decide) (hs _ (List.mem_of_getElem? (i := 134) (by decide +kernel))) (hs _ (List.mem_of_getElem? (i := 135) (by decide +kernel))) (hs _ (List.mem_of_getElem? (i := 136) (by decide +kernel))) (hs _ (List.mem_of_getElem? (i := 137) (by decide +kernel))) (fun j hj => ?_) hA
  match j, hj with
  | 0, _ => exact (hs _ (List.mem_of_getElem? (i := 138) (by decide +kernel)))
  | 1, _ => exact (hs _ (List.mem_of_getElem? (i := 139) (by decide +kernel)))
  | 2, _ => exact (hs _ (List.mem_of_getElem? (i := 140) (by decide +kernel)))
  | 3, _ => exact (hs _ (List.mem_of_getElem? (i := 141) (by decide +kernel)))
  | 4, _ => exact (hs _ (List.mem_of_getElem? (i := 142) (by decide +kernel)))
  | 5, _ => exact (hs _ (List.mem_of_getElem? (i := 143) (by decide +kernel)))
  | n + 6, h => exact absurd h (by omega)
set_option maxHeartbeats 4000000 in
set_option maxRecDepth 100000 in
theorem str_25 {args : Array Value} {s : State} {A : Nat → Prop} (hs : ∀ c ∈ nar_at, c.before args s = true) (hA : ∀ a : Nat, a < s.heap.size → ¬ A a) : ∃ a t : Nat, (Term.string "IcePalaceModel" 327).eval args s none [] s = some (.ref a) ∧ va_O "java/lang/String" a A s s.heap ∧ va_OF "java/lang/String" "coder" "B" (.int 0) a A s s.heap ∧ va_OF "java/lang/String" "value" "[B" (.ref t) a A s s.heap ∧ va_T .byte t 4 (fun j => .int (([99, 111, 108, 100] : List Int32).getD j 0)) A s s.heap := by
  refine ik_str (n := 4) (byt := [99, 111, 108, 100]) (by decide) (hs _ (List.mem_of_getElem? (i := 170) (by decide +kernel))) (hs _ (List.mem_of_getElem? (i := 171) (by decide +kernel))) (hs _ (List.mem_of_getElem? (i := 172) (by decide +kernel))) (hs _ (List.mem_of_getElem? (i := 173) (by decide +kernel))) (fun j hj => ?_) hA
  match j, hj with
  | 0, _ => exact (hs _ (List.mem_of_getElem? (i := 174) (by decide +kernel)))
  | 1, _ => exact (hs _ (List.mem_of_getElem? (i := 175) (by decide +kernel)))
  | 2, _ => exact (hs _ (List.mem_of_getElem? (i := 176) (by decide +kernel)))
  | 3, _ => exact (hs _ (List.mem_of_getElem? (i := 177) (by decide +kernel)))
  | n + 4, h => exact absurd h (by omega)
set_option maxHeartbeats 4000000 in
set_option maxRecDepth 100000 in
theorem str_ka {args : Array Value} {s : State} {A : Nat → Prop} (hs : ∀ c ∈ nar_at, c.before args s = true) (hA : ∀ a : Nat, a < s.heap.size → ¬ A a) : ∃ t : Nat, (Term.static "IcePalace" "KIND_ABOVE" "[I").eval args s none [] s = some (.ref t) ∧ va_T .int t 7 (fun j => .int (st_ka j)) A s s.heap := by
  refine va_Tof (f := fun j => .int (st_ka j)) (A := A) (by decide) (hs _ (List.mem_of_getElem? (i := 10) (by decide +kernel))) (va_eqt (hs _ (List.mem_of_getElem? (i := 11) (by decide +kernel)))) (fun j hj => ?_) hA
  match j, hj with
  | 0, _ => exact va_eqt (hs _ (List.mem_of_getElem? (i := 12) (by decide +kernel)))
  | 1, _ => exact va_eqt (hs _ (List.mem_of_getElem? (i := 13) (by decide +kernel)))
  | 2, _ => exact va_eqt (hs _ (List.mem_of_getElem? (i := 14) (by decide +kernel)))
  | 3, _ => exact va_eqt (hs _ (List.mem_of_getElem? (i := 15) (by decide +kernel)))
  | 4, _ => exact va_eqt (hs _ (List.mem_of_getElem? (i := 16) (by decide +kernel)))
  | 5, _ => exact va_eqt (hs _ (List.mem_of_getElem? (i := 17) (by decide +kernel)))
  | 6, _ => exact va_eqt (hs _ (List.mem_of_getElem? (i := 18) (by decide +kernel)))
  | n + 7, h => exact absurd h (by omega)
set_option maxHeartbeats 4000000 in
set_option maxRecDepth 100000 in
theorem law_Zs {args : Array Value} {s : State} {A : Nat → Prop} (hts : ∀ w ∈ lw_tbl, w.before args s = true) (hs : ∀ c ∈ nar_at, c.before args s = true) (hA : ∀ a : Nat, a < s.heap.size → ¬ A a) : ∃ (aK aV : Nat → Nat) (ka : Nat), ik_Zs aK aV ka A s s.heap := by
  obtain ⟨a0, t0, g0⟩ := str_0 hs hA
  obtain ⟨a1, t1, g1⟩ := str_1 hs hA
  obtain ⟨a2, t2, g2⟩ := str_2 hs hA
  obtain ⟨a3, t3, g3⟩ := str_3 hs hA
  obtain ⟨a4, t4, g4⟩ := str_4 hs hA
  obtain ⟨a5, t5, g5⟩ := str_5 hs hA
  obtain ⟨a6, t6, g6⟩ := str_6 hs hA
  obtain ⟨a7, t7, g7⟩ := str_7 hs hA
  obtain ⟨a8, t8, g8⟩ := str_8 hs hA
  obtain ⟨a9, t9, g9⟩ := str_9 hs hA
  obtain ⟨a10, t10, g10⟩ := str_10 hs hA
  obtain ⟨a11, t11, g11⟩ := str_11 hs hA
  obtain ⟨a12, t12, g12⟩ := str_12 hs hA
  obtain ⟨a13, t13, g13⟩ := str_13 hs hA
  obtain ⟨a14, t14, g14⟩ := str_14 hs hA
  obtain ⟨a15, t15, g15⟩ := str_15 hs hA
  obtain ⟨a16, t16, g16⟩ := str_16 hs hA
  obtain ⟨a17, t17, g17⟩ := str_17 hs hA
  obtain ⟨a18, t18, g18⟩ := str_18 hs hA
  obtain ⟨a19, t19, g19⟩ := str_19 hs hA
  obtain ⟨a20, t20, g20⟩ := str_20 hs hA
  obtain ⟨a21, t21, g21⟩ := str_21 hs hA
  obtain ⟨a22, t22, g22⟩ := str_22 hs hA
  obtain ⟨a23, t23, g23⟩ := str_23 hs hA
  obtain ⟨a24, t24, g24⟩ := str_24 hs hA
  obtain ⟨a25, t25, g25⟩ := str_25 hs hA
  obtain ⟨ka, k1, k2⟩ := str_ka hs hA
  refine ⟨fun i => ([a0, a1, a2, a3, a4, a5, a6, a7, a8, a9, a10, a11, a12, a13, a14, a15, a16, a17, a18, a19, a20, a21, a22, a23, a24, a25] : List Nat).getD i 0, fun i => ([t0, t1, t2, t3, t4, t5, t6, t7, t8, t9, t10, t11, t12, t13, t14, t15, t16, t17, t18, t19, t20, t21, t22, t23, t24, t25] : List Nat).getD i 0, ka, ?_, va_Zof (hts _ (List.mem_of_getElem? (i := 686) (by decide +kernel))) (hts _ (List.mem_of_getElem? (i := 78) (by decide +kernel))) (va_eqt (hs _ (List.mem_of_getElem? (i := 4) (by decide +kernel)))) hA, va_Zqof (hts _ (List.mem_of_getElem? (i := 702) (by decide +kernel))) (hts _ (List.mem_of_getElem? (i := 80) (by decide +kernel))) (hs _ (List.mem_of_getElem? (i := 5) (by decide +kernel))) hA, va_Zof (hts _ (List.mem_of_getElem? (i := 775) (by decide +kernel))) (hts _ (List.mem_of_getElem? (i := 67) (by decide +kernel))) k1 hA, k2⟩
  intro i hi
  match i, hi with
  | 0, _ => exact ⟨g0.2.1, g0.2.2.1, g0.2.2.2.1, g0.2.2.2.2, vk_R.of (hts _ (List.mem_of_getElem? (i := 744) (by decide +kernel))) g0.1⟩
  | 1, _ => exact ⟨g1.2.1, g1.2.2.1, g1.2.2.2.1, g1.2.2.2.2, vk_R.of (hts _ (List.mem_of_getElem? (i := 753) (by decide +kernel))) g1.1⟩
  | 2, _ => exact ⟨g2.2.1, g2.2.2.1, g2.2.2.2.1, g2.2.2.2.2, vk_R.of (hts _ (List.mem_of_getElem? (i := 742) (by decide +kernel))) g2.1⟩
  | 3, _ => exact ⟨g3.2.1, g3.2.2.1, g3.2.2.2.1, g3.2.2.2.2, vk_R.of (hts _ (List.mem_of_getElem? (i := 749) (by decide +kernel))) g3.1⟩
  | 4, _ => exact ⟨g4.2.1, g4.2.2.1, g4.2.2.2.1, g4.2.2.2.2, vk_R.of (hts _ (List.mem_of_getElem? (i := 750) (by decide +kernel))) g4.1⟩
  | 5, _ => exact ⟨g5.2.1, g5.2.2.1, g5.2.2.2.1, g5.2.2.2.2, vk_R.of (hts _ (List.mem_of_getElem? (i := 751) (by decide +kernel))) g5.1⟩
  | 6, _ => exact ⟨g6.2.1, g6.2.2.1, g6.2.2.2.1, g6.2.2.2.2, vk_R.of (hts _ (List.mem_of_getElem? (i := 672) (by decide +kernel))) g6.1⟩
  | 7, _ => exact ⟨g7.2.1, g7.2.2.1, g7.2.2.2.1, g7.2.2.2.2, vk_R.of (hts _ (List.mem_of_getElem? (i := 725) (by decide +kernel))) g7.1⟩
  | 8, _ => exact ⟨g8.2.1, g8.2.2.1, g8.2.2.2.1, g8.2.2.2.2, vk_R.of (hts _ (List.mem_of_getElem? (i := 726) (by decide +kernel))) g8.1⟩
  | 9, _ => exact ⟨g9.2.1, g9.2.2.1, g9.2.2.2.1, g9.2.2.2.2, vk_R.of (hts _ (List.mem_of_getElem? (i := 727) (by decide +kernel))) g9.1⟩
  | 10, _ => exact ⟨g10.2.1, g10.2.2.1, g10.2.2.2.1, g10.2.2.2.2, vk_R.of (hts _ (List.mem_of_getElem? (i := 728) (by decide +kernel))) g10.1⟩
  | 11, _ => exact ⟨g11.2.1, g11.2.2.1, g11.2.2.2.1, g11.2.2.2.2, vk_R.of (hts _ (List.mem_of_getElem? (i := 729) (by decide +kernel))) g11.1⟩
  | 12, _ => exact ⟨g12.2.1, g12.2.2.1, g12.2.2.2.1, g12.2.2.2.2, vk_R.of (hts _ (List.mem_of_getElem? (i := 730) (by decide +kernel))) g12.1⟩
  | 13, _ => exact ⟨g13.2.1, g13.2.2.1, g13.2.2.2.1, g13.2.2.2.2, vk_R.of (hts _ (List.mem_of_getElem? (i := 1310) (by decide +kernel))) g13.1⟩
  | 14, _ => exact ⟨g14.2.1, g14.2.2.1, g14.2.2.2.1, g14.2.2.2.2, vk_R.of (hts _ (List.mem_of_getElem? (i := 1311) (by decide +kernel))) g14.1⟩
  | 15, _ => exact ⟨g15.2.1, g15.2.2.1, g15.2.2.2.1, g15.2.2.2.2, vk_R.of (hts _ (List.mem_of_getElem? (i := 1312) (by decide +kernel))) g15.1⟩
  | 16, _ => exact ⟨g16.2.1, g16.2.2.1, g16.2.2.2.1, g16.2.2.2.2, vk_R.of (hts _ (List.mem_of_getElem? (i := 1313) (by decide +kernel))) g16.1⟩
  | 17, _ => exact ⟨g17.2.1, g17.2.2.1, g17.2.2.2.1, g17.2.2.2.2, vk_R.of (hts _ (List.mem_of_getElem? (i := 1314) (by decide +kernel))) g17.1⟩
  | 18, _ => exact ⟨g18.2.1, g18.2.2.1, g18.2.2.2.1, g18.2.2.2.2, vk_R.of (hts _ (List.mem_of_getElem? (i := 1315) (by decide +kernel))) g18.1⟩
  | 19, _ => exact ⟨g19.2.1, g19.2.2.1, g19.2.2.2.1, g19.2.2.2.2, vk_R.of (hts _ (List.mem_of_getElem? (i := 1316) (by decide +kernel))) g19.1⟩
  | 20, _ => exact ⟨g20.2.1, g20.2.2.1, g20.2.2.2.1, g20.2.2.2.2, vk_R.of (hts _ (List.mem_of_getElem? (i := 1290) (by decide +kernel))) g20.1⟩
  | 21, _ => exact ⟨g21.2.1, g21.2.2.1, g21.2.2.2.1, g21.2.2.2.2, vk_R.of (hts _ (List.mem_of_getElem? (i := 1295) (by decide +kernel))) g21.1⟩
  | 22, _ => exact ⟨g22.2.1, g22.2.2.1, g22.2.2.2.1, g22.2.2.2.2, vk_R.of (hts _ (List.mem_of_getElem? (i := 1296) (by decide +kernel))) g22.1⟩
  | 23, _ => exact ⟨g23.2.1, g23.2.2.1, g23.2.2.2.1, g23.2.2.2.2, vk_R.of (hts _ (List.mem_of_getElem? (i := 1321) (by decide +kernel))) g23.1⟩
  | 24, _ => exact ⟨g24.2.1, g24.2.2.1, g24.2.2.2.1, g24.2.2.2.2, vk_R.of (hts _ (List.mem_of_getElem? (i := 1271) (by decide +kernel))) g24.1⟩
  | 25, _ => exact ⟨g25.2.1, g25.2.2.1, g25.2.2.2.1, g25.2.2.2.2, vk_R.of (hts _ (List.mem_of_getElem? (i := 1297) (by decide +kernel))) g25.1⟩
  | n + 26, h => exact absurd h (by omega)
set_option maxHeartbeats 4000000 in
set_option maxRecDepth 100000 in
theorem whole_from (Gd : ik_GT) (hm : ∀ (k : Nat) (isk : Int32) (fnd : Nat → Int32) (nhour : Int32) (nair : Int32) (nrub : Int32) (nz : Int32) (nnb : Int32) (nkd : Nat → Int32) (ncl : Nat → Int32) (ngr : Nat → Int32) (noc : Nat → Int32) (nlit : Int32) (ncold : Int32) (nccell : Nat → Int32) (ncpow : Nat → Int32) (nsp : Nat → Int32) (nwm : Nat → Int32) (ndr : Nat → Int32) (khour : Int32) (kair : Int32) (krub : Int32) (kz : Int32) (knb : Int32) (kkd : Nat → Int32) (kcl : Nat → Int32) (kgr : Nat → Int32) (koc : Nat → Int32) (klit : Int32) (kcold : Int32) (kccell : Nat → Int32) (kcpow : Nat → Int32) (ksp : Nat → Int32) (kwm : Nat → Int32) (kdr : Nat → Int32) (thour : Int32) (tair : Int32) (trub : Int32) (tz : Int32) (tnb : Int32) (tkd : Nat → Int32) (tcl : Nat → Int32) (tgr : Nat → Int32) (toc : Nat → Int32) (tlit : Int32) (tcold : Int32) (tccell : Nat → Int32) (tcpow : Nat → Int32) (tsp : Nat → Int32) (twm : Nat → Int32) (tdr : Nat → Int32) (tok : Int32) (sta : Int32) (en : Int32) (val : Int32) (tsize : Int32) (tby : Nat → Int32) (sbits : Nat → Int32) (ssize : Nat → Int32) (snum : Nat → Nat → Int32) (misKept : Int32) (mtaped : Int32) (msort : Int32) (mfrom : Int32) (mto : Int32) (mvalue : Int32) (mbad : Int32) (mm : Nat → Int32) (mkept : Nat → Int32) (mwas : Nat → Int32) (mother : Nat → Int32) (mfound : Nat → Int32) (mwarm : Nat → Int32) (mdrip : Nat → Int32) (mtape : Nat → Int32) (mbits : Nat → Int32) (msize : Nat → Int32) (mnumber : Nat → Int32), Gd k isk fnd nhour nair nrub nz nnb nkd ncl ngr noc nlit ncold nccell ncpow nsp nwm ndr khour kair krub kz knb kkd kcl kgr koc klit kcold kccell kcpow ksp kwm kdr thour tair trub tz tnb tkd tcl tgr toc tlit tcold tccell tcpow tsp twm tdr tok sta en val tsize tby sbits ssize snum misKept mtaped msort mfrom mto mvalue mbad mm mkept mwas mother mfound mwarm mdrip mtape mbits msize mnumber → Gd (k + 1) isk fnd nhour nair nrub nz nnb nkd ncl ngr noc nlit ncold nccell ncpow nsp nwm ndr khour kair krub kz knb kkd kcl kgr koc klit kcold kccell kcpow ksp kwm kdr thour tair trub tz tnb tkd tcl tgr toc tlit tcold tccell tcpow tsp twm tdr tok sta en val tsize tby sbits ssize snum misKept mtaped msort mfrom mto mvalue mbad mm mkept mwas mother mfound mwarm mdrip mtape mbits msize mnumber) (hy : hy_all Gd) (oc0 sp0 : Nat → Int32) (h0i : hy_init Gd oc0 sp0) {p : Program} {e : Env} {s : State} {m : MethodId} {below : List Frame} {meth : Method} {c : Code} (l : Launch) (hflags : l.flags = flags0) {b L : Nat} {xs : Nat → Int32} (hL : L ≤ 384) (C0 : lw_At p s m meth c b L xs) : W p l e room_1 s m #[Value.ref b] below meth c s.heap [] 0 0 (lw_Z below #[Value.ref b] s) (entryFrame m ([Value.ref b] : List Value).toArray 4) := by
  obtain ⟨hx, hb, hr, hml, hown, hts, hX, hbl, hlocks, hgv⟩ := id C0
  have hs : ∀ c ∈ nar_at, c.before #[Value.ref b] s = true := flat_of_before _ hgv
  have hw : ∀ w ∈ wsL_law, w.before #[Value.ref b] s = true := fun w h => hts w (wsL_law_in w h)
  obtain ⟨aK, aV, ka, hZ⟩ := law_Zs (A := fun q : Nat => s.heap.size ≤ q) hts hs (fun a h => Nat.not_le.mpr h)
  obtain ⟨c0, iS0, hKn0⟩ := u_known (C := RX0) (T := TX0) (N := 4) (n := 4) hw inlX0 (hw (.instantiable RX0 4) wl_2_15)
  obtain ⟨c1, iS1, hKn1⟩ := u_known (C := RX1) (T := TX1) (N := 9) (n := 9) hw inlX1 (hw (.instantiable RX1 9) wl_1_13)
  obtain ⟨c2, iS2, hKn2⟩ := u_known (C := RX2) (T := TX2) (N := 3) (n := 3) hw inlX2 (hw (.instantiable RX2 3) wl_2_4)
  obtain ⟨c3, iS3, hKn3⟩ := u_known (C := RX3) (T := TX3) (N := 2) (n := 2) hw inlX3 (hw (.instantiable RX3 2) wl_3_21)
  obtain ⟨c4, iS4, hKn4⟩ := u_known (C := RX4) (T := TX4) (N := 5) (n := 5) hw inlX4 (hw (.instantiable RX4 5) wl_1_19)
  obtain ⟨c5, iS5, hKn5⟩ := u_known (C := RX5) (T := TX5) (N := 5) (n := 5) hw inlX5 (hw (.instantiable RX5 5) wl_2_11)
  obtain ⟨c6, iS6, hKn6⟩ := u_known (C := RX6) (T := TX6) (N := 8) (n := 8) hw inlX6 (hw (.instantiable RX6 8) wl_1_1)
  obtain ⟨c7, iS7, hKn7⟩ := u_known (C := RX7) (T := TX7) (N := 18) (n := 18) hw inlX7 (hw (.instantiable RX7 18) wl_1_4)
  obtain ⟨dC, dI, hKc⟩ : ∃ (dC : Nat → ClassId) (dI : Nat → Nat → Nat), ∀ (k : Nat) (q : vw_C), vwCl[k]? = some q → u_Kn s q.1 q.2.1 q.2.2 (dC k) (dI k) := by
    refine ⟨fun k => if k = 0 then c0 else if k = 1 then c1 else if k = 2 then c2 else if k = 3 then c3 else if k = 4 then c4 else if k = 5 then c5 else if k = 6 then c6 else c7, fun k => if k = 0 then iS0 else if k = 1 then iS1 else if k = 2 then iS2 else if k = 3 then iS3 else if k = 4 then iS4 else if k = 5 then iS5 else if k = 6 then iS6 else iS7, ?_⟩
    intro k q hq
    match k, hq with
    | 0, hq => cases hq; exact hKn0
    | 1, hq => cases hq; exact hKn1
    | 2, hq => cases hq; exact hKn2
    | 3, hq => cases hq; exact hKn3
    | 4, hq => cases hq; exact hKn4
    | 5, hq => cases hq; exact hKn5
    | 6, hq => cases hq; exact hKn6
    | 7, hq => cases hq; exact hKn7
    | k + 8, hq => simp [vwCl] at hq
  obtain ⟨cI, kI, compI, i1, i2, i3⟩ := Cond.arrayClass_spec (hw _ wl_2_2)
  obtain ⟨compS, cS, kS, s1, -, s2, s3, s4⟩ := Cond.arrayOver_spec (n := RX2) (hts _ (List.mem_of_getElem? (i := 234) (by decide +kernel)))
  have hK : va_K (dC, dI) vwCl [(cI, .int), (cS, .object RX2)] s := by
    refine ⟨hKc, fun k q hq => ?_⟩
    match k, hq with
    | 0, hq => cases hq; exact ⟨fun n z => ⟨fun k h => (by cases h), kI, i2, compI, i3⟩, i1⟩
    | 1, hq => cases hq; exact ⟨fun n z => ⟨fun k h => (by cases h), kS, s2, compS, s3⟩, kS, compS, s2, s3, s1, s4⟩
    | k + 2, hq => simp at hq
  have C : ik_C p m c cL_law 4 s #[Value.ref b] RL (dC, dI) cI cS := ⟨⟨hx, hb, hml, hown, hw⟩, hK, va_Nw.of rfl (hts _ (List.mem_of_getElem? (i := 305) (by decide +kernel))), va_Nw.of rfl (hts _ (List.mem_of_getElem? (i := 740) (by decide +kernel)))⟩
  have hE : ik_E s := ⟨va_Nw.of rfl (hts _ (List.mem_of_getElem? (i := 197) (by decide +kernel))), va_Nw.of rfl (hts _ (List.mem_of_getElem? (i := 236) (by decide +kernel))), va_Nw.of rfl (hts _ (List.mem_of_getElem? (i := 133) (by decide +kernel))), va_Nw.of rfl (hts _ (List.mem_of_getElem? (i := 203) (by decide +kernel))), va_AO.of (hts _ (List.mem_of_getElem? (i := 234) (by decide +kernel)))⟩
  have hl := lv_entry ([.ref b]) (n := 4) (Nat.le_of_ble_eq_true rfl)
  rw [lg_entry_eq]
  exact law_start C hE hr hlocks hX hbl hZ hL Gd hm hy oc0 sp0 h0i s.heap [] _ (fun k q h => by simp at h) ⟨fun i j p q h => by simp at h, fun k q h => by simp at h⟩ va_S.rf hl
