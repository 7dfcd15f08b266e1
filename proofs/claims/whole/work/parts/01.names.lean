/-! ===== BEGIN words of one list among another's, by their places ===== -/
theorem goodIn_r {big : List Cond} (ws : List Cond) (ps : List Nat) (hp : ws = ps.filterMap (fun i => big[i]?)) (h : ws.all goodWord = true) : GoodIn big ws := by
  intro w hw
  have h1 := List.all_eq_true.mp h w hw
  rw [hp] at hw
  obtain ⟨i, -, hi⟩ := List.mem_filterMap.mp hw
  have hm : w ∈ big := by first | exact List.mem_of_getElem? hi | exact List.getElem?_mem hi
  exact ⟨hm, good_of_word h1⟩
theorem goodIn_app {big a b : List Cond} (ha : GoodIn big a) (hb : GoodIn big b) : GoodIn big (a ++ b) := fun w h => (List.mem_append.mp h).elim (ha w) (hb w)
theorem goodIn_ca {big a b : List Cond} {c : Cond} (ha : GoodIn big (c :: a)) (hb : GoodIn big b) : GoodIn big (c :: (a ++ b)) := fun w h => (List.mem_cons.mp h).elim (fun e => ha w (List.mem_cons.mpr (Or.inl e))) (fun h => (List.mem_append.mp h).elim (fun h => ha w (List.mem_cons.mpr (Or.inr h))) (hb w))
theorem goodIn_sub {big ws : List Cond} (hm : ∀ w ∈ ws, w ∈ big) (h : ws.all goodWord = true) : GoodIn big ws := fun w hw => ⟨hm w hw, good_of_word (List.all_eq_true.mp h w hw)⟩
/-! ===== END ===== -/

/-! ===== BEGIN printed: names, fields, word lists, decode rows ===== -/
def RX0 : String := "IcePalace$Candles"
def TX0 : u_T := fun k => match k with
  | 0 => ("IcePalace$Candles", "cells", "[I", true)
  | 1 => ("IcePalace$Candles", "powers", "[I", true)
  | 2 => ("IcePalace$Candles", "litSet", "I", false)
  | _ => ("IcePalace$Candles", "cold", "I", false)
def tyX0 : Nat → FieldType := fun k => match k with
  | 0 => .array .int
  | 1 => .array .int
  | 2 => .int
  | _ => .int
abbrev wsX00 : List Cond := u_ws RX0 TX0 4
theorem nmX0 : ∀ a, a < 4 → ∀ b, b < 4 → a ≠ b → (TX0 a).2.1 ≠ (TX0 b).2.1 := by decide +kernel
theorem tyX0_ok : ∀ k, k < 4 → parseFieldDescriptor (TX0 k).2.2.1 = some (tyX0 k) := by decide +kernel
abbrev cX0_init : ByteArray := prog_2_method_1_code
def yX0_init : MethodName := ⟨RX0, "<init>", "()V"⟩
abbrev cX0_copyFrom : ByteArray := prog_2_method_2_code
def yX0_copyFrom : MethodName := ⟨RX0, "copyFrom", "(LIcePalace$Candles;)V"⟩
abbrev cX0_isLit : ByteArray := prog_2_method_3_code
def yX0_isLit : MethodName := ⟨RX0, "isLit", "(I)Z"⟩
abbrev cX0_setLit : ByteArray := prog_2_method_4_code
def yX0_setLit : MethodName := ⟨RX0, "setLit", "(IZ)V"⟩
abbrev cX0_lightOf : ByteArray := prog_2_method_5_code
def yX0_lightOf : MethodName := ⟨RX0, "lightOf", "(I)I"⟩
abbrev cX0_warmthAt : ByteArray := prog_2_method_6_code
def yX0_warmthAt : MethodName := ⟨RX0, "warmthAt", "(I)I"⟩
abbrev cX0_far : ByteArray := prog_2_method_7_code
def yX0_far : MethodName := ⟨RX0, "far", "(II)I"⟩
def RX1 : String := "IcePalace$Palace"
def TX1 : u_T := fun k => match k with
  | 0 => ("IcePalace$Palace", "wall", "LIcePalace$Wall;", true)
  | 1 => ("IcePalace$Palace", "candles", "LIcePalace$Candles;", true)
  | 2 => ("IcePalace$Palace", "spots", "[I", true)
  | 3 => ("IcePalace$Palace", "hour", "I", false)
  | 4 => ("IcePalace$Palace", "air", "I", false)
  | 5 => ("IcePalace$Palace", "rubble", "I", false)
  | 6 => ("IcePalace$Palace", "z", "I", false)
  | 7 => ("IcePalace$Palace", "warmths", "[I", true)
  | _ => ("IcePalace$Palace", "drips", "[I", true)
def tyX1 : Nat → FieldType := fun k => match k with
  | 0 => .object "IcePalace$Wall"
  | 1 => .object "IcePalace$Candles"
  | 2 => .array .int
  | 3 => .int
  | 4 => .int
  | 5 => .int
  | 6 => .int
  | 7 => .array .int
  | _ => .array .int
abbrev wsX10 : List Cond := u_ws RX1 TX1 9
theorem nmX1 : ∀ a, a < 9 → ∀ b, b < 9 → a ≠ b → (TX1 a).2.1 ≠ (TX1 b).2.1 := by decide +kernel
theorem tyX1_ok : ∀ k, k < 9 → parseFieldDescriptor (TX1 k).2.2.1 = some (tyX1 k) := by decide +kernel
abbrev cX1_init : ByteArray := prog_3_method_1_code
def yX1_init : MethodName := ⟨RX1, "<init>", "()V"⟩
abbrev cX1_copyFrom : ByteArray := prog_3_method_2_code
def yX1_copyFrom : MethodName := ⟨RX1, "copyFrom", "(LIcePalace$Palace;)V"⟩
abbrev cX1_draw : ByteArray := prog_3_method_3_code
def yX1_draw : MethodName := ⟨RX1, "draw", "()I"⟩
abbrev cX1_passHours : ByteArray := prog_3_method_4_code
def yX1_passHours : MethodName := ⟨RX1, "passHours", "(I)I"⟩
abbrev cX1_hoursHeld : ByteArray := prog_3_method_5_code
def yX1_hoursHeld : MethodName := ⟨RX1, "hoursHeld", "(I)I"⟩
abbrev cX1_goneIn : ByteArray := prog_3_method_6_code
def yX1_goneIn : MethodName := ⟨RX1, "goneIn", "(II)I"⟩
abbrev cX1_feelWarmth : ByteArray := prog_3_method_7_code
def yX1_feelWarmth : MethodName := ⟨RX1, "feelWarmth", "()V"⟩
abbrev cX1_passHour : ByteArray := prog_3_method_8_code
def yX1_passHour : MethodName := ⟨RX1, "passHour", "()I"⟩
abbrev cX1_meltOrMend : ByteArray := prog_3_method_9_code
def yX1_meltOrMend : MethodName := ⟨RX1, "meltOrMend", "(I)V"⟩
abbrev cX1_freezeDrip : ByteArray := prog_3_method_10_code
def yX1_freezeDrip : MethodName := ⟨RX1, "freezeDrip", "(I)V"⟩
abbrev cX1_removeMelted : ByteArray := prog_3_method_11_code
def yX1_removeMelted : MethodName := ⟨RX1, "removeMelted", "()I"⟩
abbrev cX1_collapse : ByteArray := prog_3_method_12_code
def yX1_collapse : MethodName := ⟨RX1, "collapse", "()I"⟩
abbrev cX1_danceTo : ByteArray := prog_3_method_13_code
def yX1_danceTo : MethodName := ⟨RX1, "danceTo", "(I)I"⟩
def RX2 : String := "IcePalace$Sheet"
def TX2 : u_T := fun k => match k with
  | 0 => ("IcePalace$Sheet", "bits", "I", false)
  | 1 => ("IcePalace$Sheet", "size", "I", false)
  | _ => ("IcePalace$Sheet", "numbers", "[I", true)
def tyX2 : Nat → FieldType := fun k => match k with
  | 0 => .int
  | 1 => .int
  | _ => .array .int
abbrev wsX20 : List Cond := u_ws RX2 TX2 3
theorem nmX2 : ∀ a, a < 3 → ∀ b, b < 3 → a ≠ b → (TX2 a).2.1 ≠ (TX2 b).2.1 := by decide +kernel
theorem tyX2_ok : ∀ k, k < 3 → parseFieldDescriptor (TX2 k).2.2.1 = some (tyX2 k) := by decide +kernel
abbrev cX2_init : ByteArray := prog_4_method_1_code
def yX2_init : MethodName := ⟨RX2, "<init>", "()V"⟩
abbrev cX2_isMissing : ByteArray := prog_4_method_2_code
def yX2_isMissing : MethodName := ⟨RX2, "isMissing", "()Z"⟩
abbrev cX2_lay : ByteArray := prog_4_method_3_code
def yX2_lay : MethodName := ⟨RX2, "lay", "(II)I"⟩
abbrev cX2_put : ByteArray := prog_4_method_4_code
def yX2_put : MethodName := ⟨RX2, "put", "(II)V"⟩
abbrev cX2_hasRange : ByteArray := prog_4_method_5_code
def yX2_hasRange : MethodName := ⟨RX2, "hasRange", "(II)Z"⟩
def RX3 : String := "IcePalace$Tape"
def TX3 : u_T := fun k => match k with
  | 0 => ("IcePalace$Tape", "bytes", "[I", true)
  | _ => ("IcePalace$Tape", "size", "I", false)
def tyX3 : Nat → FieldType := fun k => match k with
  | 0 => .array .int
  | _ => .int
abbrev wsX30 : List Cond := u_ws RX3 TX3 2
theorem nmX3 : ∀ a, a < 2 → ∀ b, b < 2 → a ≠ b → (TX3 a).2.1 ≠ (TX3 b).2.1 := by decide +kernel
theorem tyX3_ok : ∀ k, k < 2 → parseFieldDescriptor (TX3 k).2.2.1 = some (tyX3 k) := by decide +kernel
abbrev cX3_init : ByteArray := prog_5_method_1_code
def yX3_init : MethodName := ⟨RX3, "<init>", "()V"⟩
abbrev cX3_append : ByteArray := prog_5_method_2_code
def yX3_append : MethodName := ⟨RX3, "append", "(I)V"⟩
abbrev cX3_byteAt : ByteArray := prog_5_method_3_code
def yX3_byteAt : MethodName := ⟨RX3, "byteAt", "(I)I"⟩
def RX4 : String := "IcePalace$TextReader"
def TX4 : u_T := fun k => match k with
  | 0 => ("IcePalace$TextReader", "tape", "LIcePalace$Tape;", true)
  | 1 => ("IcePalace$TextReader", "token", "I", false)
  | 2 => ("IcePalace$TextReader", "start", "I", false)
  | 3 => ("IcePalace$TextReader", "end", "I", false)
  | _ => ("IcePalace$TextReader", "value", "I", false)
def tyX4 : Nat → FieldType := fun k => match k with
  | 0 => .object "IcePalace$Tape"
  | 1 => .int
  | 2 => .int
  | 3 => .int
  | _ => .int
abbrev wsX40 : List Cond := u_ws RX4 TX4 5
theorem nmX4 : ∀ a, a < 5 → ∀ b, b < 5 → a ≠ b → (TX4 a).2.1 ≠ (TX4 b).2.1 := by decide +kernel
theorem tyX4_ok : ∀ k, k < 5 → parseFieldDescriptor (TX4 k).2.2.1 = some (tyX4 k) := by decide +kernel
abbrev cX4_init : ByteArray := prog_6_method_1_code
def yX4_init : MethodName := ⟨RX4, "<init>", "()V"⟩
abbrev cX4_readInto : ByteArray := prog_6_method_2_code
def yX4_readInto : MethodName := ⟨RX4, "readInto", "(LIcePalace$Palace;)I"⟩
abbrev cX4_readItem : ByteArray := prog_6_method_3_code
def yX4_readItem : MethodName := ⟨RX4, "readItem", "(LIcePalace$Palace;)Z"⟩
abbrev cX4_readBlock : ByteArray := prog_6_method_4_code
def yX4_readBlock : MethodName := ⟨RX4, "readBlock", "(LIcePalace$Wall;I)Z"⟩
abbrev cX4_readCandle : ByteArray := prog_6_method_5_code
def yX4_readCandle : MethodName := ⟨RX4, "readCandle", "(LIcePalace$Candles;)Z"⟩
abbrev cX4_readCold : ByteArray := prog_6_method_6_code
def yX4_readCold : MethodName := ⟨RX4, "readCold", "(LIcePalace$Candles;)Z"⟩
abbrev cX4_kindOfWord : ByteArray := prog_6_method_7_code
def yX4_kindOfWord : MethodName := ⟨RX4, "kindOfWord", "()I"⟩
abbrev cX4_isNumber : ByteArray := prog_6_method_8_code
def yX4_isNumber : MethodName := ⟨RX4, "isNumber", "(II)Z"⟩
abbrev cX4_isWord : ByteArray := prog_6_method_9_code
def yX4_isWord : MethodName := ⟨RX4, "isWord", "(Ljava/lang/String;)Z"⟩
abbrev cX4_advance : ByteArray := prog_6_method_10_code
def yX4_advance : MethodName := ⟨RX4, "advance", "()V"⟩
abbrev cX4_takeNumber : ByteArray := prog_6_method_11_code
def yX4_takeNumber : MethodName := ⟨RX4, "takeNumber", "()V"⟩
abbrev cX4_isLetter : ByteArray := prog_6_method_12_code
def yX4_isLetter : MethodName := ⟨RX4, "isLetter", "(I)Z"⟩
abbrev cX4_isDigit : ByteArray := prog_6_method_13_code
def yX4_isDigit : MethodName := ⟨RX4, "isDigit", "(I)Z"⟩
def RX5 : String := "IcePalace$Wall"
def TX5 : u_T := fun k => match k with
  | 0 => ("IcePalace$Wall", "blocks", "I", false)
  | 1 => ("IcePalace$Wall", "kinds", "[I", true)
  | 2 => ("IcePalace$Wall", "cells", "[I", true)
  | 3 => ("IcePalace$Wall", "grains", "[I", true)
  | _ => ("IcePalace$Wall", "onCell", "[I", true)
def tyX5 : Nat → FieldType := fun k => match k with
  | 0 => .int
  | 1 => .array .int
  | 2 => .array .int
  | 3 => .array .int
  | _ => .array .int
abbrev wsX50 : List Cond := u_ws RX5 TX5 5
theorem nmX5 : ∀ a, a < 5 → ∀ b, b < 5 → a ≠ b → (TX5 a).2.1 ≠ (TX5 b).2.1 := by decide +kernel
theorem tyX5_ok : ∀ k, k < 5 → parseFieldDescriptor (TX5 k).2.2.1 = some (tyX5 k) := by decide +kernel
abbrev cX5_init : ByteArray := prog_7_method_1_code
def yX5_init : MethodName := ⟨RX5, "<init>", "()V"⟩
abbrev cX5_copyFrom : ByteArray := prog_7_method_2_code
def yX5_copyFrom : MethodName := ⟨RX5, "copyFrom", "(LIcePalace$Wall;)V"⟩
abbrev cX5_isBlock : ByteArray := prog_7_method_3_code
def yX5_isBlock : MethodName := ⟨RX5, "isBlock", "(I)Z"⟩
abbrev cX5_isFull : ByteArray := prog_7_method_4_code
def yX5_isFull : MethodName := ⟨RX5, "isFull", "()Z"⟩
abbrev cX5_isGone : ByteArray := prog_7_method_5_code
def yX5_isGone : MethodName := ⟨RX5, "isGone", "(I)Z"⟩
abbrev cX5_blockAt : ByteArray := prog_7_method_6_code
def yX5_blockAt : MethodName := ⟨RX5, "blockAt", "(I)I"⟩
abbrev cX5_cellBit : ByteArray := prog_7_method_7_code
def yX5_cellBit : MethodName := ⟨RX5, "cellBit", "(I)J"⟩
abbrev cX5_build : ByteArray := prog_7_method_8_code
def yX5_build : MethodName := ⟨RX5, "build", "(III)I"⟩
abbrev cX5_move : ByteArray := prog_7_method_9_code
def yX5_move : MethodName := ⟨RX5, "move", "(II)I"⟩
abbrev cX5_thicken : ByteArray := prog_7_method_10_code
def yX5_thicken : MethodName := ⟨RX5, "thicken", "(II)I"⟩
abbrev cX5_remove : ByteArray := prog_7_method_11_code
def yX5_remove : MethodName := ⟨RX5, "remove", "(I)I"⟩
abbrev cX5_allGrains : ByteArray := prog_7_method_12_code
def yX5_allGrains : MethodName := ⟨RX5, "allGrains", "()I"⟩
abbrev cX5_goneSet : ByteArray := prog_7_method_13_code
def yX5_goneSet : MethodName := ⟨RX5, "goneSet", "()I"⟩
abbrev cX5_occupied : ByteArray := prog_7_method_14_code
def yX5_occupied : MethodName := ⟨RX5, "occupied", "()J"⟩
abbrev cX5_standsBy : ByteArray := prog_7_method_15_code
def yX5_standsBy : MethodName := ⟨RX5, "standsBy", "(IJ)Z"⟩
abbrev cX5_standing : ByteArray := prog_7_method_16_code
def yX5_standing : MethodName := ⟨RX5, "standing", "()J"⟩
abbrev cX5_looseSet : ByteArray := prog_7_method_17_code
def yX5_looseSet : MethodName := ⟨RX5, "looseSet", "()I"⟩
abbrev cX5_weakSet : ByteArray := prog_7_method_18_code
def yX5_weakSet : MethodName := ⟨RX5, "weakSet", "()I"⟩
abbrev cX5_shakenSet : ByteArray := prog_7_method_19_code
def yX5_shakenSet : MethodName := ⟨RX5, "shakenSet", "(I)I"⟩
abbrev cX5_loadOf : ByteArray := prog_7_method_20_code
def yX5_loadOf : MethodName := ⟨RX5, "loadOf", "(I)I"⟩
abbrev cX5_strengthOf : ByteArray := prog_7_method_21_code
def yX5_strengthOf : MethodName := ⟨RX5, "strengthOf", "(I)I"⟩
abbrev cX5_isComer : ByteArray := prog_7_method_22_code
def yX5_isComer : MethodName := ⟨RX5, "isComer", "(IJ)Z"⟩
abbrev cX5_nextComer : ByteArray := prog_7_method_23_code
def yX5_nextComer : MethodName := ⟨RX5, "nextComer", "(JI)I"⟩
abbrev cX5_comers : ByteArray := prog_7_method_24_code
def yX5_comers : MethodName := ⟨RX5, "comers", "(JI)J"⟩
def RX6 : String := "IcePalace"
def TX6 : u_T := fun k => match k with
  | 0 => ("IcePalace", "now", "LIcePalace$Palace;", true)
  | 1 => ("IcePalace", "kept", "LIcePalace$Palace;", true)
  | 2 => ("IcePalace", "trial", "LIcePalace$Palace;", true)
  | 3 => ("IcePalace", "isKept", "Z", false)
  | 4 => ("IcePalace", "reader", "LIcePalace$TextReader;", true)
  | 5 => ("IcePalace", "tape", "LIcePalace$Tape;", true)
  | 6 => ("IcePalace", "sheets", "[LIcePalace$Sheet;", true)
  | _ => ("IcePalace", "found", "[I", true)
def tyX6 : Nat → FieldType := fun k => match k with
  | 0 => .object "IcePalace$Palace"
  | 1 => .object "IcePalace$Palace"
  | 2 => .object "IcePalace$Palace"
  | 3 => .boolean
  | 4 => .object "IcePalace$TextReader"
  | 5 => .object "IcePalace$Tape"
  | 6 => .array (.object "IcePalace$Sheet")
  | _ => .array .int
abbrev wsX60 : List Cond := u_ws RX6 TX6 8
theorem nmX6 : ∀ a, a < 8 → ∀ b, b < 8 → a ≠ b → (TX6 a).2.1 ≠ (TX6 b).2.1 := by decide +kernel
theorem tyX6_ok : ∀ k, k < 8 → parseFieldDescriptor (TX6 k).2.2.1 = some (tyX6 k) := by decide +kernel
abbrev cX6_init : ByteArray := prog_1_method_1_code
def yX6_init : MethodName := ⟨RX6, "<init>", "()V"⟩
abbrev cX6_block : ByteArray := prog_1_method_2_code
def yX6_block : MethodName := ⟨RX6, "block", "(III)I"⟩
abbrev cX6_blockOf : ByteArray := prog_1_method_3_code
def yX6_blockOf : MethodName := ⟨RX6, "blockOf", "(II)I"⟩
abbrev cX6_turn : ByteArray := prog_1_method_4_code
def yX6_turn : MethodName := ⟨RX6, "turn", "(II)I"⟩
abbrev cX6_take : ByteArray := prog_1_method_5_code
def yX6_take : MethodName := ⟨RX6, "take", "(II)I"⟩
abbrev cX6_on : ByteArray := prog_1_method_6_code
def yX6_on : MethodName := ⟨RX6, "on", "(I)I"⟩
abbrev cX6_water : ByteArray := prog_1_method_7_code
def yX6_water : MethodName := ⟨RX6, "water", "(II)I"⟩
abbrev cX6_candle : ByteArray := prog_1_method_8_code
def yX6_candle : MethodName := ⟨RX6, "candle", "(III)I"⟩
abbrev cX6_lit : ByteArray := prog_1_method_9_code
def yX6_lit : MethodName := ⟨RX6, "lit", "(IZ)I"⟩
abbrev cX6_cold : ByteArray := prog_1_method_10_code
def yX6_cold : MethodName := ⟨RX6, "cold", "(I)I"⟩
abbrev cX6_warmth : ByteArray := prog_1_method_11_code
def yX6_warmth : MethodName := ⟨RX6, "warmth", "(I)I"⟩
abbrev cX6_light : ByteArray := prog_1_method_12_code
def yX6_light : MethodName := ⟨RX6, "light", "()I"⟩
abbrev cX6_hours : ByteArray := prog_1_method_13_code
def yX6_hours : MethodName := ⟨RX6, "hours", "(I)I"⟩
abbrev cX6_fall : ByteArray := prog_1_method_14_code
def yX6_fall : MethodName := ⟨RX6, "fall", "()I"⟩
abbrev cX6_loose : ByteArray := prog_1_method_15_code
def yX6_loose : MethodName := ⟨RX6, "loose", "()I"⟩
abbrev cX6_weak : ByteArray := prog_1_method_16_code
def yX6_weak : MethodName := ⟨RX6, "weak", "()I"⟩
abbrev cX6_ahead : ByteArray := prog_1_method_17_code
def yX6_ahead : MethodName := ⟨RX6, "ahead", "(II)I"⟩
abbrev cX6_goes : ByteArray := prog_1_method_18_code
def yX6_goes : MethodName := ⟨RX6, "goes", "(I)I"⟩
abbrev cX6_holds : ByteArray := prog_1_method_19_code
def yX6_holds : MethodName := ⟨RX6, "holds", "()I"⟩
abbrev cX6_deal : ByteArray := prog_1_method_20_code
def yX6_deal : MethodName := ⟨RX6, "deal", "(I)I"⟩
abbrev cX6_bears : ByteArray := prog_1_method_21_code
def yX6_bears : MethodName := ⟨RX6, "bears", "(I)I"⟩
abbrev cX6_needs : ByteArray := prog_1_method_22_code
def yX6_needs : MethodName := ⟨RX6, "needs", "(II)I"⟩
abbrev cX6_mend : ByteArray := prog_1_method_23_code
def yX6_mend : MethodName := ⟨RX6, "mend", "(I)I"⟩
abbrev cX6_whose : ByteArray := prog_1_method_24_code
def yX6_whose : MethodName := ⟨RX6, "whose", "(I)I"⟩
abbrev cX6_drawing : ByteArray := prog_1_method_25_code
def yX6_drawing : MethodName := ⟨RX6, "drawing", "(III)I"⟩
abbrev cX6_order : ByteArray := prog_1_method_26_code
def yX6_order : MethodName := ⟨RX6, "order", "(I)I"⟩
abbrev cX6_steps : ByteArray := prog_1_method_27_code
def yX6_steps : MethodName := ⟨RX6, "steps", "(I)I"⟩
abbrev cX6_shakes : ByteArray := prog_1_method_28_code
def yX6_shakes : MethodName := ⟨RX6, "shakes", "(I)I"⟩
abbrev cX6_dance : ByteArray := prog_1_method_29_code
def yX6_dance : MethodName := ⟨RX6, "dance", "(I)I"⟩
abbrev cX6_tune : ByteArray := prog_1_method_30_code
def yX6_tune : MethodName := ⟨RX6, "tune", "()I"⟩
abbrev cX6_wind : ByteArray := prog_1_method_31_code
def yX6_wind : MethodName := ⟨RX6, "wind", "(I)I"⟩
abbrev cX6_seed : ByteArray := prog_1_method_32_code
def yX6_seed : MethodName := ⟨RX6, "seed", "(I)I"⟩
abbrev cX6_feed : ByteArray := prog_1_method_33_code
def yX6_feed : MethodName := ⟨RX6, "feed", "(II)I"⟩
abbrev cX6_wipe : ByteArray := prog_1_method_34_code
def yX6_wipe : MethodName := ⟨RX6, "wipe", "()I"⟩
abbrev cX6_text : ByteArray := prog_1_method_35_code
def yX6_text : MethodName := ⟨RX6, "text", "()I"⟩
abbrev cX6_hold : ByteArray := prog_1_method_36_code
def yX6_hold : MethodName := ⟨RX6, "hold", "(II)I"⟩
abbrev cX6_as : ByteArray := prog_1_method_37_code
def yX6_as : MethodName := ⟨RX6, "as", "(II)I"⟩
abbrev cX6_sheet : ByteArray := prog_1_method_38_code
def yX6_sheet : MethodName := ⟨RX6, "sheet", "(III)I"⟩
abbrev cX6_write : ByteArray := prog_1_method_39_code
def yX6_write : MethodName := ⟨RX6, "write", "(III)I"⟩
abbrev cX6_copy : ByteArray := prog_1_method_40_code
def yX6_copy : MethodName := ⟨RX6, "copy", "(IIIII)I"⟩
abbrev cX6_load : ByteArray := prog_1_method_41_code
def yX6_load : MethodName := ⟨RX6, "load", "(I)I"⟩
abbrev cX6_judge : ByteArray := prog_1_method_42_code
def yX6_judge : MethodName := ⟨RX6, "judge", "(I)I"⟩
abbrev cX6_image : ByteArray := prog_1_method_43_code
def yX6_image : MethodName := ⟨RX6, "image", "()I"⟩
abbrev cX6_undo : ByteArray := prog_1_method_44_code
def yX6_undo : MethodName := ⟨RX6, "undo", "()I"⟩
abbrev cX6_tear : ByteArray := prog_1_method_45_code
def yX6_tear : MethodName := ⟨RX6, "tear", "()I"⟩
abbrev cX6_count : ByteArray := prog_1_method_46_code
def yX6_count : MethodName := ⟨RX6, "count", "(I)I"⟩
abbrev cX6_status : ByteArray := prog_1_method_47_code
def yX6_status : MethodName := ⟨RX6, "status", "(I)I"⟩
abbrev cX6_tell : ByteArray := prog_1_method_48_code
def yX6_tell : MethodName := ⟨RX6, "tell", "(I)I"⟩
abbrev cX6_hasHours : ByteArray := prog_1_method_49_code
def yX6_hasHours : MethodName := ⟨RX6, "hasHours", "(I)Z"⟩
abbrev cX6_freshTrial : ByteArray := prog_1_method_50_code
def yX6_freshTrial : MethodName := ⟨RX6, "freshTrial", "()LIcePalace$Palace;"⟩
abbrev cX6_isWithin : ByteArray := prog_1_method_51_code
def yX6_isWithin : MethodName := ⟨RX6, "isWithin", "(III)Z"⟩
abbrev cX6_isKind : ByteArray := prog_1_method_52_code
def yX6_isKind : MethodName := ⟨RX6, "isKind", "(I)Z"⟩
abbrev cX6_isCell : ByteArray := prog_1_method_53_code
def yX6_isCell : MethodName := ⟨RX6, "isCell", "(I)Z"⟩
abbrev cX6_isCandle : ByteArray := prog_1_method_54_code
def yX6_isCandle : MethodName := ⟨RX6, "isCandle", "(I)Z"⟩
abbrev cX6_isTune : ByteArray := prog_1_method_55_code
def yX6_isTune : MethodName := ⟨RX6, "isTune", "(I)Z"⟩
abbrev cX6_isSpot : ByteArray := prog_1_method_56_code
def yX6_isSpot : MethodName := ⟨RX6, "isSpot", "(I)Z"⟩
abbrev cX6_isSheet : ByteArray := prog_1_method_57_code
def yX6_isSheet : MethodName := ⟨RX6, "isSheet", "(I)Z"⟩
abbrev cX6_isUnder : ByteArray := prog_1_method_58_code
def yX6_isUnder : MethodName := ⟨RX6, "isUnder", "(II)Z"⟩
def RX7 : String := "IcePalaceModel"
def TX7 : u_T := fun k => match k with
  | 0 => ("IcePalaceModel", "m", "[I", true)
  | 1 => ("IcePalaceModel", "kept", "[I", true)
  | 2 => ("IcePalaceModel", "was", "[I", true)
  | 3 => ("IcePalaceModel", "other", "[I", true)
  | 4 => ("IcePalaceModel", "isKept", "Z", false)
  | 5 => ("IcePalaceModel", "found", "[I", true)
  | 6 => ("IcePalaceModel", "warm", "[I", true)
  | 7 => ("IcePalaceModel", "drip", "[I", true)
  | 8 => ("IcePalaceModel", "tape", "[I", true)
  | 9 => ("IcePalaceModel", "taped", "I", false)
  | 10 => ("IcePalaceModel", "sort", "I", false)
  | 11 => ("IcePalaceModel", "from", "I", false)
  | 12 => ("IcePalaceModel", "to", "I", false)
  | 13 => ("IcePalaceModel", "value", "I", false)
  | 14 => ("IcePalaceModel", "bad", "Z", false)
  | 15 => ("IcePalaceModel", "bits", "[I", true)
  | 16 => ("IcePalaceModel", "size", "[I", true)
  | _ => ("IcePalaceModel", "number", "[I", true)
def tyX7 : Nat → FieldType := fun k => match k with
  | 0 => .array .int
  | 1 => .array .int
  | 2 => .array .int
  | 3 => .array .int
  | 4 => .boolean
  | 5 => .array .int
  | 6 => .array .int
  | 7 => .array .int
  | 8 => .array .int
  | 9 => .int
  | 10 => .int
  | 11 => .int
  | 12 => .int
  | 13 => .int
  | 14 => .boolean
  | 15 => .array .int
  | 16 => .array .int
  | _ => .array .int
abbrev wsX70 : List Cond := u_ws RX7 TX7 18
theorem nmX7 : ∀ a, a < 18 → ∀ b, b < 18 → a ≠ b → (TX7 a).2.1 ≠ (TX7 b).2.1 := by decide +kernel
theorem tyX7_ok : ∀ k, k < 18 → parseFieldDescriptor (TX7 k).2.2.1 = some (tyX7 k) := by decide +kernel
abbrev cX7_init : ByteArray := prog_9_method_1_code
def yX7_init : MethodName := ⟨RX7, "<init>", "()V"⟩
abbrev cX7_finds : ByteArray := prog_9_method_2_code
def yX7_finds : MethodName := ⟨RX7, "finds", "(I)I"⟩
abbrev cX7_orNone : ByteArray := prog_9_method_3_code
def yX7_orNone : MethodName := ⟨RX7, "orNone", "(I)I"⟩
abbrev cX7_in : ByteArray := prog_9_method_4_code
def yX7_in : MethodName := ⟨RX7, "in", "(JJJ)Z"⟩
abbrev cX7_has : ByteArray := prog_9_method_5_code
def yX7_has : MethodName := ⟨RX7, "has", "(II)Z"⟩
abbrev cX7_many : ByteArray := prog_9_method_6_code
def yX7_many : MethodName := ⟨RX7, "many", "(I)I"⟩
abbrev cX7_row : ByteArray := prog_9_method_7_code
def yX7_row : MethodName := ⟨RX7, "row", "([I[I)V"⟩
abbrev cX7_becomes : ByteArray := prog_9_method_8_code
def yX7_becomes : MethodName := ⟨RX7, "becomes", "(II)I"⟩
abbrev cX7_isCell : ByteArray := prog_9_method_9_code
def yX7_isCell : MethodName := ⟨RX7, "isCell", "(I)Z"⟩
abbrev cX7_isBlock : ByteArray := prog_9_method_10_code
def yX7_isBlock : MethodName := ⟨RX7, "isBlock", "(I)Z"⟩
abbrev cX7_isCandle : ByteArray := prog_9_method_11_code
def yX7_isCandle : MethodName := ⟨RX7, "isCandle", "(I)Z"⟩
abbrev cX7_isKind : ByteArray := prog_9_method_12_code
def yX7_isKind : MethodName := ⟨RX7, "isKind", "(I)Z"⟩
abbrev cX7_isSome : ByteArray := prog_9_method_13_code
def yX7_isSome : MethodName := ⟨RX7, "isSome", "(I)Z"⟩
abbrev cX7_kindOf : ByteArray := prog_9_method_14_code
def yX7_kindOf : MethodName := ⟨RX7, "kindOf", "(I)I"⟩
abbrev cX7_cellOf : ByteArray := prog_9_method_15_code
def yX7_cellOf : MethodName := ⟨RX7, "cellOf", "(I)I"⟩
abbrev cX7_grains : ByteArray := prog_9_method_16_code
def yX7_grains : MethodName := ⟨RX7, "grains", "(I)I"⟩
abbrev cX7_makes : ByteArray := prog_9_method_17_code
def yX7_makes : MethodName := ⟨RX7, "makes", "(II)V"⟩
abbrev cX7_isGone : ByteArray := prog_9_method_18_code
def yX7_isGone : MethodName := ⟨RX7, "isGone", "(I)Z"⟩
abbrev cX7_blockOn : ByteArray := prog_9_method_19_code
def yX7_blockOn : MethodName := ⟨RX7, "blockOn", "(I)I"⟩
abbrev cX7_comes : ByteArray := prog_9_method_20_code
def yX7_comes : MethodName := ⟨RX7, "comes", "(III)I"⟩
abbrev cX7_block : ByteArray := prog_9_method_21_code
def yX7_block : MethodName := ⟨RX7, "block", "(III)I"⟩
abbrev cX7_below : ByteArray := prog_9_method_22_code
def yX7_below : MethodName := ⟨RX7, "below", "(I)I"⟩
abbrev cX7_above : ByteArray := prog_9_method_23_code
def yX7_above : MethodName := ⟨RX7, "above", "(I)I"⟩
abbrev cX7_left : ByteArray := prog_9_method_24_code
def yX7_left : MethodName := ⟨RX7, "left", "(I)I"⟩
abbrev cX7_right : ByteArray := prog_9_method_25_code
def yX7_right : MethodName := ⟨RX7, "right", "(I)I"⟩
abbrev cX7_isOf : ByteArray := prog_9_method_26_code
def yX7_isOf : MethodName := ⟨RX7, "isOf", "(II)Z"⟩
abbrev cX7_standsBy : ByteArray := prog_9_method_27_code
def yX7_standsBy : MethodName := ⟨RX7, "standsBy", "(II)Z"⟩
abbrev cX7_standing : ByteArray := prog_9_method_28_code
def yX7_standing : MethodName := ⟨RX7, "standing", "()I"⟩
abbrev cX7_loadOf : ByteArray := prog_9_method_29_code
def yX7_loadOf : MethodName := ⟨RX7, "loadOf", "(I)I"⟩
abbrev cX7_strongOf : ByteArray := prog_9_method_30_code
def yX7_strongOf : MethodName := ⟨RX7, "strongOf", "(I)I"⟩
abbrev cX7_blockOf : ByteArray := prog_9_method_31_code
def yX7_blockOf : MethodName := ⟨RX7, "blockOf", "(II)I"⟩
abbrev cX7_turn : ByteArray := prog_9_method_32_code
def yX7_turn : MethodName := ⟨RX7, "turn", "(II)I"⟩
abbrev cX7_take : ByteArray := prog_9_method_33_code
def yX7_take : MethodName := ⟨RX7, "take", "(II)I"⟩
abbrev cX7_on : ByteArray := prog_9_method_34_code
def yX7_on : MethodName := ⟨RX7, "on", "(I)I"⟩
abbrev cX7_distance : ByteArray := prog_9_method_35_code
def yX7_distance : MethodName := ⟨RX7, "distance", "(II)I"⟩
abbrev cX7_isLit : ByteArray := prog_9_method_36_code
def yX7_isLit : MethodName := ⟨RX7, "isLit", "(I)Z"⟩
abbrev cX7_warmthOf : ByteArray := prog_9_method_37_code
def yX7_warmthOf : MethodName := ⟨RX7, "warmthOf", "(I)I"⟩
abbrev cX7_water : ByteArray := prog_9_method_38_code
def yX7_water : MethodName := ⟨RX7, "water", "(II)I"⟩
abbrev cX7_candle : ByteArray := prog_9_method_39_code
def yX7_candle : MethodName := ⟨RX7, "candle", "(III)I"⟩
abbrev cX7_lit : ByteArray := prog_9_method_40_code
def yX7_lit : MethodName := ⟨RX7, "lit", "(IZ)I"⟩
abbrev cX7_cold : ByteArray := prog_9_method_41_code
def yX7_cold : MethodName := ⟨RX7, "cold", "(I)I"⟩
abbrev cX7_warmth : ByteArray := prog_9_method_42_code
def yX7_warmth : MethodName := ⟨RX7, "warmth", "(I)I"⟩
abbrev cX7_light : ByteArray := prog_9_method_43_code
def yX7_light : MethodName := ⟨RX7, "light", "()I"⟩
abbrev cX7_melts : ByteArray := prog_9_method_44_code
def yX7_melts : MethodName := ⟨RX7, "melts", "(I)V"⟩
abbrev cX7_freezes : ByteArray := prog_9_method_45_code
def yX7_freezes : MethodName := ⟨RX7, "freezes", "(I)V"⟩
abbrev cX7_weakNow : ByteArray := prog_9_method_46_code
def yX7_weakNow : MethodName := ⟨RX7, "weakNow", "()I"⟩
abbrev cX7_looseNow : ByteArray := prog_9_method_47_code
def yX7_looseNow : MethodName := ⟨RX7, "looseNow", "()I"⟩
abbrev cX7_falls : ByteArray := prog_9_method_48_code
def yX7_falls : MethodName := ⟨RX7, "falls", "()V"⟩
abbrev cX7_emptyGo : ByteArray := prog_9_method_49_code
def yX7_emptyGo : MethodName := ⟨RX7, "emptyGo", "()V"⟩
abbrev cX7_hour : ByteArray := prog_9_method_50_code
def yX7_hour : MethodName := ⟨RX7, "hour", "()V"⟩
abbrev cX7_goneNow : ByteArray := prog_9_method_51_code
def yX7_goneNow : MethodName := ⟨RX7, "goneNow", "()I"⟩
abbrev cX7_hours : ByteArray := prog_9_method_52_code
def yX7_hours : MethodName := ⟨RX7, "hours", "(I)I"⟩
abbrev cX7_fall : ByteArray := prog_9_method_53_code
def yX7_fall : MethodName := ⟨RX7, "fall", "()I"⟩
abbrev cX7_loose : ByteArray := prog_9_method_54_code
def yX7_loose : MethodName := ⟨RX7, "loose", "()I"⟩
abbrev cX7_weak : ByteArray := prog_9_method_55_code
def yX7_weak : MethodName := ⟨RX7, "weak", "()I"⟩
abbrev cX7_allGrains : ByteArray := prog_9_method_56_code
def yX7_allGrains : MethodName := ⟨RX7, "allGrains", "()I"⟩
abbrev cX7_ahead : ByteArray := prog_9_method_57_code
def yX7_ahead : MethodName := ⟨RX7, "ahead", "(II)I"⟩
abbrev cX7_goneIn : ByteArray := prog_9_method_58_code
def yX7_goneIn : MethodName := ⟨RX7, "goneIn", "(II)I"⟩
abbrev cX7_isFarOn : ByteArray := prog_9_method_59_code
def yX7_isFarOn : MethodName := ⟨RX7, "isFarOn", "(I)Z"⟩
abbrev cX7_goes : ByteArray := prog_9_method_60_code
def yX7_goes : MethodName := ⟨RX7, "goes", "(I)I"⟩
abbrev cX7_held : ByteArray := prog_9_method_61_code
def yX7_held : MethodName := ⟨RX7, "held", "(I)I"⟩
abbrev cX7_holds : ByteArray := prog_9_method_62_code
def yX7_holds : MethodName := ⟨RX7, "holds", "()I"⟩
abbrev cX7_lights : ByteArray := prog_9_method_63_code
def yX7_lights : MethodName := ⟨RX7, "lights", "(I)V"⟩
abbrev cX7_deal : ByteArray := prog_9_method_64_code
def yX7_deal : MethodName := ⟨RX7, "deal", "(I)I"⟩
abbrev cX7_bears : ByteArray := prog_9_method_65_code
def yX7_bears : MethodName := ⟨RX7, "bears", "(I)I"⟩
abbrev cX7_wrongFor : ByteArray := prog_9_method_66_code
def yX7_wrongFor : MethodName := ⟨RX7, "wrongFor", "(IIZ)I"⟩
abbrev cX7_capped : ByteArray := prog_9_method_67_code
def yX7_capped : MethodName := ⟨RX7, "capped", "(I)I"⟩
abbrev cX7_needs : ByteArray := prog_9_method_68_code
def yX7_needs : MethodName := ⟨RX7, "needs", "(II)I"⟩
abbrev cX7_mend : ByteArray := prog_9_method_69_code
def yX7_mend : MethodName := ⟨RX7, "mend", "(I)I"⟩
abbrev cX7_whose : ByteArray := prog_9_method_70_code
def yX7_whose : MethodName := ⟨RX7, "whose", "(I)I"⟩
abbrev cX7_grainsBehind : ByteArray := prog_9_method_71_code
def yX7_grainsBehind : MethodName := ⟨RX7, "grainsBehind", "(II)I"⟩
abbrev cX7_drawing : ByteArray := prog_9_method_72_code
def yX7_drawing : MethodName := ⟨RX7, "drawing", "(III)I"⟩
abbrev cX7_there : ByteArray := prog_9_method_73_code
def yX7_there : MethodName := ⟨RX7, "there", "()I"⟩
abbrev cX7_order : ByteArray := prog_9_method_74_code
def yX7_order : MethodName := ⟨RX7, "order", "(I)I"⟩
abbrev cX7_steps : ByteArray := prog_9_method_75_code
def yX7_steps : MethodName := ⟨RX7, "steps", "(I)I"⟩
abbrev cX7_shaken : ByteArray := prog_9_method_76_code
def yX7_shaken : MethodName := ⟨RX7, "shaken", "(I)I"⟩
abbrev cX7_isTune : ByteArray := prog_9_method_77_code
def yX7_isTune : MethodName := ⟨RX7, "isTune", "(I)Z"⟩
abbrev cX7_shakes : ByteArray := prog_9_method_78_code
def yX7_shakes : MethodName := ⟨RX7, "shakes", "(I)I"⟩
abbrev cX7_danced : ByteArray := prog_9_method_79_code
def yX7_danced : MethodName := ⟨RX7, "danced", "(I)I"⟩
abbrev cX7_dance : ByteArray := prog_9_method_80_code
def yX7_dance : MethodName := ⟨RX7, "dance", "(I)I"⟩
abbrev cX7_tune : ByteArray := prog_9_method_81_code
def yX7_tune : MethodName := ⟨RX7, "tune", "()I"⟩
abbrev cX7_draw : ByteArray := prog_9_method_82_code
def yX7_draw : MethodName := ⟨RX7, "draw", "()I"⟩
abbrev cX7_wind : ByteArray := prog_9_method_83_code
def yX7_wind : MethodName := ⟨RX7, "wind", "(I)I"⟩
abbrev cX7_seed : ByteArray := prog_9_method_84_code
def yX7_seed : MethodName := ⟨RX7, "seed", "(I)I"⟩
abbrev cX7_feed : ByteArray := prog_9_method_85_code
def yX7_feed : MethodName := ⟨RX7, "feed", "(II)I"⟩
abbrev cX7_wipe : ByteArray := prog_9_method_86_code
def yX7_wipe : MethodName := ⟨RX7, "wipe", "()I"⟩
abbrev cX7_isByte : ByteArray := prog_9_method_87_code
def yX7_isByte : MethodName := ⟨RX7, "isByte", "(III)Z"⟩
abbrev cX7_token : ByteArray := prog_9_method_88_code
def yX7_token : MethodName := ⟨RX7, "token", "()V"⟩
abbrev cX7_isWord : ByteArray := prog_9_method_89_code
def yX7_isWord : MethodName := ⟨RX7, "isWord", "(Ljava/lang/String;)Z"⟩
abbrev cX7_takes : ByteArray := prog_9_method_90_code
def yX7_takes : MethodName := ⟨RX7, "takes", "(Ljava/lang/String;)Z"⟩
abbrev cX7_isSign : ByteArray := prog_9_method_91_code
def yX7_isSign : MethodName := ⟨RX7, "isSign", "(I)Z"⟩
abbrev cX7_number : ByteArray := prog_9_method_92_code
def yX7_number : MethodName := ⟨RX7, "number", "(IIZ)I"⟩
abbrev cX7_kindHere : ByteArray := prog_9_method_93_code
def yX7_kindHere : MethodName := ⟨RX7, "kindHere", "()I"⟩
abbrev cX7_tells : ByteArray := prog_9_method_94_code
def yX7_tells : MethodName := ⟨RX7, "tells", "(II)V"⟩
abbrev cX7_candleItem : ByteArray := prog_9_method_95_code
def yX7_candleItem : MethodName := ⟨RX7, "candleItem", "()V"⟩
abbrev cX7_coldItem : ByteArray := prog_9_method_96_code
def yX7_coldItem : MethodName := ⟨RX7, "coldItem", "()V"⟩
abbrev cX7_blockItem : ByteArray := prog_9_method_97_code
def yX7_blockItem : MethodName := ⟨RX7, "blockItem", "(I)V"⟩
abbrev cX7_item : ByteArray := prog_9_method_98_code
def yX7_item : MethodName := ⟨RX7, "item", "()V"⟩
abbrev cX7_text : ByteArray := prog_9_method_99_code
def yX7_text : MethodName := ⟨RX7, "text", "()I"⟩
abbrev cX7_hold : ByteArray := prog_9_method_100_code
def yX7_hold : MethodName := ⟨RX7, "hold", "(II)I"⟩
abbrev cX7_under : ByteArray := prog_9_method_101_code
def yX7_under : MethodName := ⟨RX7, "under", "(I)I"⟩
abbrev cX7_as : ByteArray := prog_9_method_102_code
def yX7_as : MethodName := ⟨RX7, "as", "(II)I"⟩
abbrev cX7_isSheet : ByteArray := prog_9_method_103_code
def yX7_isSheet : MethodName := ⟨RX7, "isSheet", "(I)Z"⟩
abbrev cX7_sheet : ByteArray := prog_9_method_104_code
def yX7_sheet : MethodName := ⟨RX7, "sheet", "(III)I"⟩
abbrev cX7_write : ByteArray := prog_9_method_105_code
def yX7_write : MethodName := ⟨RX7, "write", "(III)I"⟩
abbrev cX7_copy : ByteArray := prog_9_method_106_code
def yX7_copy : MethodName := ⟨RX7, "copy", "(IIIII)I"⟩
abbrev cX7_load : ByteArray := prog_9_method_107_code
def yX7_load : MethodName := ⟨RX7, "load", "(I)I"⟩
abbrev cX7_judge : ByteArray := prog_9_method_108_code
def yX7_judge : MethodName := ⟨RX7, "judge", "(I)I"⟩
abbrev cX7_image : ByteArray := prog_9_method_109_code
def yX7_image : MethodName := ⟨RX7, "image", "()I"⟩
abbrev cX7_undo : ByteArray := prog_9_method_110_code
def yX7_undo : MethodName := ⟨RX7, "undo", "()I"⟩
abbrev cX7_tear : ByteArray := prog_9_method_111_code
def yX7_tear : MethodName := ⟨RX7, "tear", "()I"⟩
abbrev cX7_count : ByteArray := prog_9_method_112_code
def yX7_count : MethodName := ⟨RX7, "count", "(I)I"⟩
abbrev cX7_status : ByteArray := prog_9_method_113_code
def yX7_status : MethodName := ⟨RX7, "status", "(I)I"⟩
def RJx145de : String := "java/io/Serializable"
def TJx145de : u_T := fun k => match k with
  | _ => ("", "", "", false)
def tyJx145de : Nat → FieldType := fun k => match k with
  | _ => .int
abbrev wsJx145de0 : List Cond := u_ws RJx145de TJx145de 0
theorem nmJx145de : ∀ a, a < 0 → ∀ b, b < 0 → a ≠ b → (TJx145de a).2.1 ≠ (TJx145de b).2.1 := by decide +kernel
theorem tyJx145de_ok : ∀ k, k < 0 → parseFieldDescriptor (TJx145de k).2.2.1 = some (tyJx145de k) := by decide +kernel
def RJx9f9b0 : String := "java/lang/CharSequence"
def TJx9f9b0 : u_T := fun k => match k with
  | _ => ("", "", "", false)
def tyJx9f9b0 : Nat → FieldType := fun k => match k with
  | _ => .int
abbrev wsJx9f9b00 : List Cond := u_ws RJx9f9b0 TJx9f9b0 0
theorem nmJx9f9b0 : ∀ a, a < 0 → ∀ b, b < 0 → a ≠ b → (TJx9f9b0 a).2.1 ≠ (TJx9f9b0 b).2.1 := by decide +kernel
theorem tyJx9f9b0_ok : ∀ k, k < 0 → parseFieldDescriptor (TJx9f9b0 k).2.2.1 = some (tyJx9f9b0 k) := by decide +kernel
def RJxb160c : String := "java/lang/Comparable"
def TJxb160c : u_T := fun k => match k with
  | _ => ("", "", "", false)
def tyJxb160c : Nat → FieldType := fun k => match k with
  | _ => .int
abbrev wsJxb160c0 : List Cond := u_ws RJxb160c TJxb160c 0
theorem nmJxb160c : ∀ a, a < 0 → ∀ b, b < 0 → a ≠ b → (TJxb160c a).2.1 ≠ (TJxb160c b).2.1 := by decide +kernel
theorem tyJxb160c_ok : ∀ k, k < 0 → parseFieldDescriptor (TJxb160c k).2.2.1 = some (tyJxb160c k) := by decide +kernel
def RJ6 : String := "java/lang/Integer"
def TJ6 : u_T := fun k => match k with
  | _ => ("", "", "", false)
def tyJ6 : Nat → FieldType := fun k => match k with
  | _ => .int
abbrev wsJ60 : List Cond := u_ws RJ6 TJ6 0
theorem nmJ6 : ∀ a, a < 0 → ∀ b, b < 0 → a ≠ b → (TJ6 a).2.1 ≠ (TJ6 b).2.1 := by decide +kernel
theorem tyJ6_ok : ∀ k, k < 0 → parseFieldDescriptor (TJ6 k).2.2.1 = some (tyJ6 k) := by decide +kernel
abbrev cJ6_bitCount_0f7a4 : ByteArray := prog_10_method_49_code
def yJ6_bitCount_0f7a4 : MethodName := ⟨RJ6, "bitCount", "(I)I"⟩
def RJ9 : String := "java/lang/Math"
def TJ9 : u_T := fun k => match k with
  | _ => ("", "", "", false)
def tyJ9 : Nat → FieldType := fun k => match k with
  | _ => .int
abbrev wsJ90 : List Cond := u_ws RJ9 TJ9 0
theorem nmJ9 : ∀ a, a < 0 → ∀ b, b < 0 → a ≠ b → (TJ9 a).2.1 ≠ (TJ9 b).2.1 := by decide +kernel
theorem tyJ9_ok : ∀ k, k < 0 → parseFieldDescriptor (TJ9 k).2.2.1 = some (tyJ9 k) := by decide +kernel
abbrev cJ9_abs_0f7a4 : ByteArray := prog_11_method_59_code
def yJ9_abs_0f7a4 : MethodName := ⟨RJ9, "abs", "(I)I"⟩
abbrev cJ9_min_7cf53 : ByteArray := prog_11_method_69_code
def yJ9_min_7cf53 : MethodName := ⟨RJ9, "min", "(II)I"⟩
def RJ0 : String := "java/lang/String"
def TJ0 : u_T := fun k => match k with
  | _ => ("", "", "", false)
def tyJ0 : Nat → FieldType := fun k => match k with
  | _ => .int
abbrev wsJ00 : List Cond := u_ws RJ0 TJ0 0
theorem nmJ0 : ∀ a, a < 0 → ∀ b, b < 0 → a ≠ b → (TJ0 a).2.1 ≠ (TJ0 b).2.1 := by decide +kernel
theorem tyJ0_ok : ∀ k, k < 0 → parseFieldDescriptor (TJ0 k).2.2.1 = some (tyJ0 k) := by decide +kernel
abbrev cJ0_length_8abf5 : ByteArray := prog_12_method_54_code
def yJ0_length_8abf5 : MethodName := ⟨RJ0, "length", "()I"⟩
abbrev cJ0_charAt_5068e : ByteArray := prog_12_method_56_code
def yJ0_charAt_5068e : MethodName := ⟨RJ0, "charAt", "(I)C"⟩
abbrev cJ0_coder_7d493 : ByteArray := prog_12_method_152_code
def yJ0_coder_7d493 : MethodName := ⟨RJ0, "coder", "()B"⟩
abbrev cJ0_isLatin1_aae02 : ByteArray := prog_12_method_154_code
def yJ0_isLatin1_aae02 : MethodName := ⟨RJ0, "isLatin1", "()Z"⟩
abbrev cJ0_checkIndex_df160 : ByteArray := prog_12_method_155_code
def yJ0_checkIndex_df160 : MethodName := ⟨RJ0, "checkIndex", "(II)V"⟩
def RJ1 : String := "java/lang/StringLatin1"
def TJ1 : u_T := fun k => match k with
  | _ => ("", "", "", false)
def tyJ1 : Nat → FieldType := fun k => match k with
  | _ => .int
abbrev wsJ10 : List Cond := u_ws RJ1 TJ1 0
theorem nmJ1 : ∀ a, a < 0 → ∀ b, b < 0 → a ≠ b → (TJ1 a).2.1 ≠ (TJ1 b).2.1 := by decide +kernel
theorem tyJ1_ok : ∀ k, k < 0 → parseFieldDescriptor (TJ1 k).2.2.1 = some (tyJ1 k) := by decide +kernel
abbrev cJ1_charAt_3b067 : ByteArray := prog_13_method_2_code
def yJ1_charAt_3b067 : MethodName := ⟨RJ1, "charAt", "([BI)C"⟩
def RJ2 : String := "java/lang/StringUTF16"
def TJ2 : u_T := fun k => match k with
  | _ => ("", "", "", false)
def tyJ2 : Nat → FieldType := fun k => match k with
  | _ => .int
abbrev wsJ20 : List Cond := u_ws RJ2 TJ2 0
theorem nmJ2 : ∀ a, a < 0 → ∀ b, b < 0 → a ≠ b → (TJ2 a).2.1 ≠ (TJ2 b).2.1 := by decide +kernel
theorem tyJ2_ok : ∀ k, k < 0 → parseFieldDescriptor (TJ2 k).2.2.1 = some (tyJ2 k) := by decide +kernel
abbrev cJ2_getChar_3b067 : ByteArray := prog_14_method_5_code
def yJ2_getChar_3b067 : MethodName := ⟨RJ2, "getChar", "([BI)C"⟩
abbrev cJ2_length_9d52b : ByteArray := prog_14_method_6_code
def yJ2_length_9d52b : MethodName := ⟨RJ2, "length", "([B)I"⟩
abbrev cJ2_charAt_3b067 : ByteArray := prog_14_method_83_code
def yJ2_charAt_3b067 : MethodName := ⟨RJ2, "charAt", "([BI)C"⟩
abbrev cJ2_checkIndex_2214a : ByteArray := prog_14_method_91_code
def yJ2_checkIndex_2214a : MethodName := ⟨RJ2, "checkIndex", "(I[B)V"⟩
def RJ10 : String := "java/lang/System"
def TJ10 : u_T := fun k => match k with
  | _ => ("", "", "", false)
def tyJ10 : Nat → FieldType := fun k => match k with
  | _ => .int
abbrev wsJ100 : List Cond := u_ws RJ10 TJ10 0
theorem nmJ10 : ∀ a, a < 0 → ∀ b, b < 0 → a ≠ b → (TJ10 a).2.1 ≠ (TJ10 b).2.1 := by decide +kernel
theorem tyJ10_ok : ∀ k, k < 0 → parseFieldDescriptor (TJ10 k).2.2.1 = some (tyJ10 k) := by decide +kernel
def RJxfd54e : String := "java/lang/constant/Constable"
def TJxfd54e : u_T := fun k => match k with
  | _ => ("", "", "", false)
def tyJxfd54e : Nat → FieldType := fun k => match k with
  | _ => .int
abbrev wsJxfd54e0 : List Cond := u_ws RJxfd54e TJxfd54e 0
theorem nmJxfd54e : ∀ a, a < 0 → ∀ b, b < 0 → a ≠ b → (TJxfd54e a).2.1 ≠ (TJxfd54e b).2.1 := by decide +kernel
theorem tyJxfd54e_ok : ∀ k, k < 0 → parseFieldDescriptor (TJxfd54e k).2.2.1 = some (tyJxfd54e k) := by decide +kernel
def RJx3cf43 : String := "java/lang/constant/ConstantDesc"
def TJx3cf43 : u_T := fun k => match k with
  | _ => ("", "", "", false)
def tyJx3cf43 : Nat → FieldType := fun k => match k with
  | _ => .int
abbrev wsJx3cf430 : List Cond := u_ws RJx3cf43 TJx3cf43 0
theorem nmJx3cf43 : ∀ a, a < 0 → ∀ b, b < 0 → a ≠ b → (TJx3cf43 a).2.1 ≠ (TJx3cf43 b).2.1 := by decide +kernel
theorem tyJx3cf43_ok : ∀ k, k < 0 → parseFieldDescriptor (TJx3cf43 k).2.2.1 = some (tyJx3cf43 k) := by decide +kernel
def RJ7 : String := "java/util/Arrays"
def TJ7 : u_T := fun k => match k with
  | _ => ("", "", "", false)
def tyJ7 : Nat → FieldType := fun k => match k with
  | _ => .int
abbrev wsJ70 : List Cond := u_ws RJ7 TJ7 0
theorem nmJ7 : ∀ a, a < 0 → ∀ b, b < 0 → a ≠ b → (TJ7 a).2.1 ≠ (TJ7 b).2.1 := by decide +kernel
theorem tyJ7_ok : ∀ k, k < 0 → parseFieldDescriptor (TJ7 k).2.2.1 = some (tyJ7 k) := by decide +kernel
abbrev cJ7_fill_53178 : ByteArray := prog_16_method_103_code
def yJ7_fill_53178 : MethodName := ⟨RJ7, "fill", "([II)V"⟩
def RJ3 : String := "jdk/internal/util/Preconditions"
def TJ3 : u_T := fun k => match k with
  | _ => ("", "", "", false)
def tyJ3 : Nat → FieldType := fun k => match k with
  | _ => .int
abbrev wsJ30 : List Cond := u_ws RJ3 TJ3 0
theorem nmJ3 : ∀ a, a < 0 → ∀ b, b < 0 → a ≠ b → (TJ3 a).2.1 ≠ (TJ3 b).2.1 := by decide +kernel
theorem tyJ3_ok : ∀ k, k < 0 → parseFieldDescriptor (TJ3 k).2.2.1 = some (tyJ3 k) := by decide +kernel
abbrev cJ3_checkIndex_8e157 : ByteArray := prog_17_method_11_code
def yJ3_checkIndex_8e157 : MethodName := ⟨RJ3, "checkIndex", "(IILjava/util/function/BiFunction;)I"⟩
def RL : String := "IcePalaceLaw"
abbrev cL_law : ByteArray := code
def yL_law : MethodName := ⟨RL, "law", "([I)Z"⟩
def wsL_law_r1 : List Cond := [Cond.classLink RL 7 RX6, Cond.instantiable RX6 8, Cond.initialized RX6, Cond.classLink RL 10 RX7, Cond.instantiable RX7 18, Cond.initialized RX7, Cond.methodLink RL 9 yX6_init, Cond.instanceMethod yX6_init, Cond.code yX6_init cX6_init 2 none, Cond.methodLink RX6 3 objectInit, Cond.instanceMethod objectInit, Cond.code objectInit ⟨#[0xb1]⟩ 1 none, Cond.classLink RX6 9 RX1, Cond.instantiable RX1 9, Cond.initialized RX1, Cond.fieldLink RX6 12 "IcePalace" "now" "LIcePalace$Palace;", Cond.fieldLink RX6 16 "IcePalace" "kept" "LIcePalace$Palace;", Cond.fieldLink RX6 19 "IcePalace" "trial" "LIcePalace$Palace;", Cond.classLink RX6 22 RX4, Cond.instantiable RX4 5, Cond.initialized RX4, Cond.fieldLink RX6 25 "IcePalace" "reader" "LIcePalace$TextReader;", Cond.fieldLink RX6 29 "IcePalace$TextReader" "tape" "LIcePalace$Tape;", Cond.fieldLink RX6 33 "IcePalace" "tape" "LIcePalace$Tape;"]
def wsL_law_r2 : List Cond := [Cond.classLink RX6 34 RX2, Cond.fieldLink RX6 36 "IcePalace" "sheets" "[LIcePalace$Sheet;", Cond.arrayClass .int, Cond.fieldLink RX6 40 "IcePalace" "found" "[I", Cond.instantiable RX2 3, Cond.initialized RX2, Cond.methodLink RX6 11 yX1_init, Cond.instanceMethod yX1_init, Cond.code yX1_init cX1_init 1 none, Cond.methodLink RX1 3 objectInit, Cond.classLink RX1 9 RX5, Cond.instantiable RX5 5, Cond.initialized RX5, Cond.fieldLink RX1 12 "IcePalace$Palace" "wall" "LIcePalace$Wall;", Cond.classLink RX1 18 RX0, Cond.instantiable RX0 4, Cond.initialized RX0, Cond.fieldLink RX1 21 "IcePalace$Palace" "candles" "LIcePalace$Candles;", Cond.fieldLink RX1 25 "IcePalace$Palace" "spots" "[I", Cond.fieldLink RX1 29 "IcePalace$Palace" "z" "I", Cond.fieldLink RX1 33 "IcePalace$Palace" "warmths" "[I", Cond.fieldLink RX1 36 "IcePalace$Palace" "drips" "[I", Cond.methodLink RX1 11 yX5_init, Cond.instanceMethod yX5_init]
def wsL_law_r3 : List Cond := [Cond.code yX5_init cX5_init 1 none, Cond.methodLink RX5 3 objectInit, Cond.fieldLink RX5 9 "IcePalace$Wall" "kinds" "[I", Cond.fieldLink RX5 15 "IcePalace$Wall" "cells" "[I", Cond.fieldLink RX5 18 "IcePalace$Wall" "grains" "[I", Cond.fieldLink RX5 21 "IcePalace$Wall" "onCell" "[I", Cond.methodLink RX5 24 yJ7_fill_53178, Cond.static yJ7_fill_53178, Cond.initialized RJ7, Cond.code yJ7_fill_53178 cJ7_fill_53178 4 none, Cond.instanceMethod yX0_init, Cond.code yX0_init cX0_init 1 none, Cond.methodLink RX0 3 objectInit, Cond.fieldLink RX0 9 "IcePalace$Candles" "cells" "[I", Cond.fieldLink RX0 15 "IcePalace$Candles" "powers" "[I", Cond.fieldLink RX0 18 "IcePalace$Candles" "cold" "I", Cond.methodLink RX1 39 yJ7_fill_53178, Cond.instanceMethod yX4_init, Cond.code yX4_init cX4_init 1 none, Cond.methodLink RX4 3 objectInit, Cond.classLink RX4 9 RX3, Cond.instantiable RX3 2, Cond.initialized RX3, Cond.fieldLink RX4 12 "IcePalace$TextReader" "tape" "LIcePalace$Tape;"]
def wsL_law_r4 : List Cond := [Cond.instanceMethod yX3_init, Cond.code yX3_init cX3_init 1 none, Cond.methodLink RX3 3 objectInit, Cond.fieldLink RX3 9 "IcePalace$Tape" "bytes" "[I", Cond.instanceMethod yX2_init, Cond.code yX2_init cX2_init 1 none, Cond.methodLink RX2 3 objectInit, Cond.fieldLink RX2 9 "IcePalace$Sheet" "numbers" "[I", Cond.methodLink RL 12 yX7_init, Cond.instanceMethod yX7_init, Cond.code yX7_init cX7_init 2 none, Cond.methodLink RX7 3 objectInit, Cond.fieldLink RX7 9 "IcePalaceModel" "m" "[I", Cond.fieldLink RX7 13 "IcePalaceModel" "kept" "[I", Cond.fieldLink RX7 16 "IcePalaceModel" "was" "[I", Cond.fieldLink RX7 19 "IcePalaceModel" "other" "[I", Cond.fieldLink RX7 22 "IcePalaceModel" "found" "[I", Cond.fieldLink RX7 25 "IcePalaceModel" "warm" "[I", Cond.fieldLink RX7 28 "IcePalaceModel" "drip" "[I", Cond.fieldLink RX7 31 "IcePalaceModel" "tape" "[I", Cond.fieldLink RX7 34 "IcePalaceModel" "bits" "[I", Cond.fieldLink RX7 37 "IcePalaceModel" "size" "[I", Cond.fieldLink RX7 40 "IcePalaceModel" "number" "[I", Cond.methodLink RL 13 yX6_block]
def wsL_law_r5 : List Cond := [Cond.instanceMethod yX6_block, Cond.selects RX6 yX6_block yX6_block, Cond.code yX6_block cX6_block 4 (some .int), Cond.constant RX6 56 (-1000001), Cond.fieldLink RX6 61 "IcePalace$Palace" "wall" "LIcePalace$Wall;", Cond.constant RX6 71 (-1000002), Cond.constant RX6 75 (-1000005), Cond.methodLink RX6 45 yX6_isKind, Cond.static yX6_isKind, Cond.code yX6_isKind cX6_isKind 1 (some .boolean), Cond.methodLink RX6 52 yX6_isWithin, Cond.static yX6_isWithin, Cond.code yX6_isWithin cX6_isWithin 3 (some .boolean), Cond.methodLink RX6 49 yX6_isCell, Cond.static yX6_isCell, Cond.code yX6_isCell cX6_isCell 1 (some .boolean), Cond.methodLink RX6 57 yX6_tell, Cond.instanceMethod yX6_tell, Cond.selects RX6 yX6_tell yX6_tell, Cond.code yX6_tell cX6_tell 3 (some .int), Cond.methodLink RX6 65 yX5_isFull, Cond.instanceMethod yX5_isFull, Cond.selects RX5 yX5_isFull yX5_isFull, Cond.code yX5_isFull cX5_isFull 1 (some .boolean)]
def wsL_law_r6 : List Cond := [Cond.fieldLink RX5 30 "IcePalace$Wall" "blocks" "I", Cond.methodLink RX6 72 yX5_blockAt, Cond.instanceMethod yX5_blockAt, Cond.selects RX5 yX5_blockAt yX5_blockAt, Cond.code yX5_blockAt cX5_blockAt 2 (some .int), Cond.methodLink RX6 76 yX5_build, Cond.instanceMethod yX5_build, Cond.selects RX5 yX5_build yX5_build, Cond.code yX5_build cX5_build 5 (some .int), Cond.methodLink RX5 44 yX5_isFull, Cond.methodLink RL 17 yX7_block, Cond.instanceMethod yX7_block, Cond.selects RX7 yX7_block yX7_block, Cond.code yX7_block cX7_block 4 (some .int), Cond.constant RX7 43 (-1000001), Cond.constant RX7 74 (-1000002), Cond.constant RX7 78 (-1000005), Cond.methodLink RX7 64 yX7_isKind, Cond.static yX7_isKind, Cond.code yX7_isKind cX7_isKind 1 (some .boolean), Cond.constantLong RX7 57 (6), Cond.methodLink RX7 51 yX7_in, Cond.static yX7_in, Cond.code yX7_in cX7_in 6 (some .boolean)]
def wsL_law_r7 : List Cond := [Cond.methodLink RX7 68 yX7_isCell, Cond.static yX7_isCell, Cond.code yX7_isCell cX7_isCell 1 (some .boolean), Cond.constantLong RX7 49 (47), Cond.methodLink RX7 71 yX7_isSome, Cond.static yX7_isSome, Cond.code yX7_isSome cX7_isSome 1 (some .boolean), Cond.constantLong RX7 59 (99), Cond.methodLink RX7 45 yX7_finds, Cond.instanceMethod yX7_finds, Cond.selects RX7 yX7_finds yX7_finds, Cond.code yX7_finds cX7_finds 2 (some .int), Cond.methodLink RX7 75 yX7_blockOn, Cond.instanceMethod yX7_blockOn, Cond.selects RX7 yX7_blockOn yX7_blockOn, Cond.code yX7_blockOn cX7_blockOn 3 (some .int), Cond.methodLink RX7 61 yX7_cellOf, Cond.instanceMethod yX7_cellOf, Cond.selects RX7 yX7_cellOf yX7_cellOf, Cond.code yX7_cellOf cX7_cellOf 2 (some .int), Cond.methodLink RX7 79 yX7_comes, Cond.instanceMethod yX7_comes, Cond.selects RX7 yX7_comes yX7_comes, Cond.code yX7_comes cX7_comes 5 (some .int)]
def wsL_law_r8 : List Cond := [Cond.methodLink RL 18 yX6_blockOf, Cond.instanceMethod yX6_blockOf, Cond.selects RX6 yX6_blockOf yX6_blockOf, Cond.code yX6_blockOf cX6_blockOf 4 (some .int), Cond.fieldLink RX6 83 "IcePalace$Wall" "kinds" "[I", Cond.fieldLink RX6 86 "IcePalace$Wall" "cells" "[I", Cond.fieldLink RX6 89 "IcePalace$Wall" "grains" "[I", Cond.methodLink RX6 80 yX5_isBlock, Cond.instanceMethod yX5_isBlock, Cond.selects RX5 yX5_isBlock yX5_isBlock, Cond.code yX5_isBlock cX5_isBlock 2 (some .boolean), Cond.methodLink RX6 92 yX5_isGone, Cond.instanceMethod yX5_isGone, Cond.selects RX5 yX5_isGone yX5_isGone, Cond.code yX5_isGone cX5_isGone 2 (some .boolean), Cond.methodLink RX6 95 yX5_standing, Cond.instanceMethod yX5_standing, Cond.selects RX5 yX5_standing yX5_standing, Cond.code yX5_standing cX5_standing 7 (some .long), Cond.methodLink RX5 61 yX5_standsBy, Cond.instanceMethod yX5_standsBy, Cond.selects RX5 yX5_standsBy yX5_standsBy, Cond.code yX5_standsBy cX5_standsBy 8 (some .boolean), Cond.methodLink RX5 57 yX5_cellBit]
def wsL_law_r9 : List Cond := [Cond.instanceMethod yX5_cellBit, Cond.selects RX5 yX5_cellBit yX5_cellBit, Cond.code yX5_cellBit cX5_cellBit 2 (some .long), Cond.methodLink RX6 99 yX5_cellBit, Cond.methodLink RX6 103 yX5_loadOf, Cond.instanceMethod yX5_loadOf, Cond.selects RX5 yX5_loadOf yX5_loadOf, Cond.code yX5_loadOf cX5_loadOf 5 (some .int), Cond.methodLink RX5 54 yX5_isGone, Cond.methodLink RX6 106 yX5_strengthOf, Cond.instanceMethod yX5_strengthOf, Cond.selects RX5 yX5_strengthOf yX5_strengthOf, Cond.code yX5_strengthOf cX5_strengthOf 3 (some .int), Cond.methodLink RL 22 yX7_blockOf, Cond.instanceMethod yX7_blockOf, Cond.selects RX7 yX7_blockOf yX7_blockOf, Cond.code yX7_blockOf cX7_blockOf 3 (some .int), Cond.methodLink RX7 114 yX7_isBlock, Cond.instanceMethod yX7_isBlock, Cond.selects RX7 yX7_isBlock yX7_isBlock, Cond.code yX7_isBlock cX7_isBlock 2 (some .boolean), Cond.methodLink RX7 87 yX7_kindOf, Cond.instanceMethod yX7_kindOf, Cond.selects RX7 yX7_kindOf yX7_kindOf]
def wsL_law_r10 : List Cond := [Cond.code yX7_kindOf cX7_kindOf 2 (some .int), Cond.methodLink RX7 111 yX7_grains, Cond.instanceMethod yX7_grains, Cond.selects RX7 yX7_grains yX7_grains, Cond.code yX7_grains cX7_grains 2 (some .int), Cond.methodLink RX7 105 yX7_isGone, Cond.instanceMethod yX7_isGone, Cond.selects RX7 yX7_isGone yX7_isGone, Cond.code yX7_isGone cX7_isGone 2 (some .boolean), Cond.methodLink RX7 117 yX7_standing, Cond.instanceMethod yX7_standing, Cond.selects RX7 yX7_standing yX7_standing, Cond.code yX7_standing cX7_standing 4 (some .int), Cond.methodLink RX7 108 yX7_standsBy, Cond.instanceMethod yX7_standsBy, Cond.selects RX7 yX7_standsBy yX7_standsBy, Cond.code yX7_standsBy cX7_standsBy 6 (some .boolean), Cond.methodLink RX7 90 yX7_above, Cond.static yX7_above, Cond.code yX7_above cX7_above 1 (some .int), Cond.methodLink RX7 93 yX7_isOf, Cond.instanceMethod yX7_isOf, Cond.selects RX7 yX7_isOf yX7_isOf, Cond.code yX7_isOf cX7_isOf 4 (some .boolean)]
def wsL_law_r11 : List Cond := [Cond.methodLink RX7 83 yX7_has, Cond.static yX7_has, Cond.code yX7_has cX7_has 2 (some .boolean), Cond.methodLink RX7 96 yX7_left, Cond.static yX7_left, Cond.code yX7_left cX7_left 1 (some .int), Cond.methodLink RX7 99 yX7_right, Cond.static yX7_right, Cond.code yX7_right cX7_right 1 (some .int), Cond.methodLink RX7 102 yX7_below, Cond.static yX7_below, Cond.code yX7_below cX7_below 1 (some .int), Cond.methodLink RX7 121 yX7_loadOf, Cond.instanceMethod yX7_loadOf, Cond.selects RX7 yX7_loadOf yX7_loadOf, Cond.code yX7_loadOf cX7_loadOf 4 (some .int), Cond.methodLink RX7 124 yX7_strongOf, Cond.instanceMethod yX7_strongOf, Cond.selects RX7 yX7_strongOf yX7_strongOf, Cond.code yX7_strongOf cX7_strongOf 3 (some .int), Cond.methodLink RL 23 yX6_turn, Cond.instanceMethod yX6_turn, Cond.selects RX6 yX6_turn yX6_turn, Cond.code yX6_turn cX6_turn 4 (some .int)]
def wsL_law_r12 : List Cond := [Cond.methodLink RL 26 yX7_turn, Cond.instanceMethod yX7_turn, Cond.selects RX7 yX7_turn yX7_turn, Cond.code yX7_turn cX7_turn 3 (some .int), Cond.methodLink RX7 127 yX7_becomes, Cond.instanceMethod yX7_becomes, Cond.selects RX7 yX7_becomes yX7_becomes, Cond.code yX7_becomes cX7_becomes 4 (some .int), Cond.methodLink RL 27 yX6_take, Cond.instanceMethod yX6_take, Cond.selects RX6 yX6_take yX6_take, Cond.code yX6_take cX6_take 5 (some .int), Cond.methodLink RX6 109 yX5_move, Cond.instanceMethod yX5_move, Cond.selects RX5 yX5_move yX5_move, Cond.code yX5_move cX5_move 4 (some .int), Cond.methodLink RL 30 yX7_take, Cond.instanceMethod yX7_take, Cond.selects RX7 yX7_take yX7_take, Cond.code yX7_take cX7_take 4 (some .int), Cond.methodLink RL 31 yX6_on, Cond.instanceMethod yX6_on, Cond.selects RX6 yX6_on yX6_on, Cond.code yX6_on cX6_on 2 (some .int)]
def wsL_law_r13 : List Cond := [Cond.methodLink RL 35 yX7_on, Cond.instanceMethod yX7_on, Cond.selects RX7 yX7_on yX7_on, Cond.code yX7_on cX7_on 2 (some .int), Cond.methodLink RL 36 yX6_water, Cond.instanceMethod yX6_water, Cond.selects RX6 yX6_water yX6_water, Cond.code yX6_water cX6_water 4 (some .int), Cond.fieldLink RX6 113 "IcePalace$Palace" "candles" "LIcePalace$Candles;", Cond.methodLink RX6 117 yX0_warmthAt, Cond.instanceMethod yX0_warmthAt, Cond.selects RX0 yX0_warmthAt yX0_warmthAt, Cond.code yX0_warmthAt cX0_warmthAt 4 (some .int), Cond.methodLink RX0 31 yX0_isLit, Cond.instanceMethod yX0_isLit, Cond.selects RX0 yX0_isLit yX0_isLit, Cond.code yX0_isLit cX0_isLit 2 (some .boolean), Cond.fieldLink RX0 28 "IcePalace$Candles" "litSet" "I", Cond.methodLink RX0 35 yX0_far, Cond.static yX0_far, Cond.code yX0_far cX0_far 2 (some .int), Cond.methodLink RX0 39 Lib.Math.abs.name, Cond.static Lib.Math.abs.name, Cond.initialized "java/lang/Math"]
def wsL_law_r14 : List Cond := [Cond.code Lib.Math.abs.name Lib.Math.abs.code 1 (some .int), Cond.methodLink RX6 122 yX5_thicken, Cond.instanceMethod yX5_thicken, Cond.selects RX5 yX5_thicken yX5_thicken, Cond.code yX5_thicken cX5_thicken 4 (some .int), Cond.methodLink RX5 48 Lib.Math.min.name, Cond.static Lib.Math.min.name, Cond.code Lib.Math.min.name Lib.Math.min.code 2 (some .int), Cond.methodLink RL 39 yX7_water, Cond.instanceMethod yX7_water, Cond.selects RX7 yX7_water yX7_water, Cond.code yX7_water cX7_water 5 (some .int), Cond.methodLink RX7 137 yX7_warmthOf, Cond.instanceMethod yX7_warmthOf, Cond.selects RX7 yX7_warmthOf yX7_warmthOf, Cond.code yX7_warmthOf cX7_warmthOf 4 (some .int), Cond.methodLink RX7 131 yX7_isLit, Cond.instanceMethod yX7_isLit, Cond.selects RX7 yX7_isLit yX7_isLit, Cond.code yX7_isLit cX7_isLit 2 (some .boolean), Cond.methodLink RX7 134 yX7_distance, Cond.static yX7_distance, Cond.code yX7_distance cX7_distance 4 (some .int), Cond.methodLink RX7 140 yX7_makes]
def wsL_law_r15 : List Cond := [Cond.instanceMethod yX7_makes, Cond.selects RX7 yX7_makes yX7_makes, Cond.code yX7_makes cX7_makes 3 none, Cond.methodLink RL 40 yX6_candle, Cond.instanceMethod yX6_candle, Cond.selects RX6 yX6_candle yX6_candle, Cond.code yX6_candle cX6_candle 6 (some .int), Cond.fieldLink RX6 128 "IcePalace$Candles" "cells" "[I", Cond.fieldLink RX6 129 "IcePalace$Candles" "powers" "[I", Cond.methodLink RX6 125 yX6_isCandle, Cond.static yX6_isCandle, Cond.code yX6_isCandle cX6_isCandle 1 (some .boolean), Cond.methodLink RL 43 yX7_candle, Cond.instanceMethod yX7_candle, Cond.selects RX7 yX7_candle yX7_candle, Cond.code yX7_candle cX7_candle 5 (some .int), Cond.constantLong RX7 144 (30), Cond.methodLink RX7 146 yX7_isCandle, Cond.static yX7_isCandle, Cond.code yX7_isCandle cX7_isCandle 1 (some .boolean), Cond.constantLong RX7 55 (5), Cond.methodLink RL 44 yX6_lit, Cond.instanceMethod yX6_lit, Cond.selects RX6 yX6_lit yX6_lit]
def wsL_law_r16 : List Cond := [Cond.code yX6_lit cX6_lit 4 (some .int), Cond.methodLink RX6 132 yX0_isLit, Cond.methodLink RX6 135 yX0_setLit, Cond.instanceMethod yX0_setLit, Cond.selects RX0 yX0_setLit yX0_setLit, Cond.code yX0_setLit cX0_setLit 4 none, Cond.methodLink RL 48 yX7_lit, Cond.instanceMethod yX7_lit, Cond.selects RX7 yX7_lit yX7_lit, Cond.code yX7_lit cX7_lit 3 (some .int), Cond.methodLink RL 49 yX6_cold, Cond.instanceMethod yX6_cold, Cond.selects RX6 yX6_cold yX6_cold, Cond.code yX6_cold cX6_cold 3 (some .int), Cond.fieldLink RX6 139 "IcePalace$Candles" "cold" "I", Cond.methodLink RL 52 yX7_cold, Cond.instanceMethod yX7_cold, Cond.selects RX7 yX7_cold yX7_cold, Cond.code yX7_cold cX7_cold 2 (some .int), Cond.constantLong RX7 149 (-20), Cond.constantLong RX7 151 (20), Cond.methodLink RL 53 yX6_warmth, Cond.instanceMethod yX6_warmth, Cond.selects RX6 yX6_warmth yX6_warmth]
def wsL_law_r17 : List Cond := [Cond.code yX6_warmth cX6_warmth 2 (some .int), Cond.methodLink RL 56 yX7_warmth, Cond.instanceMethod yX7_warmth, Cond.selects RX7 yX7_warmth yX7_warmth, Cond.code yX7_warmth cX7_warmth 2 (some .int), Cond.methodLink RL 57 yX6_light, Cond.instanceMethod yX6_light, Cond.selects RX6 yX6_light yX6_light, Cond.code yX6_light cX6_light 1 (some .int), Cond.fieldLink RX6 143 "IcePalace$Candles" "litSet" "I", Cond.methodLink RX6 146 yX0_lightOf, Cond.instanceMethod yX0_lightOf, Cond.selects RX0 yX0_lightOf yX0_lightOf, Cond.code yX0_lightOf cX0_lightOf 4 (some .int), Cond.methodLink RL 61 yX7_light, Cond.instanceMethod yX7_light, Cond.selects RX7 yX7_light yX7_light, Cond.code yX7_light cX7_light 3 (some .int), Cond.methodLink RL 62 yX6_hours, Cond.instanceMethod yX6_hours, Cond.selects RX6 yX6_hours yX6_hours, Cond.code yX6_hours cX6_hours 2 (some .int), Cond.methodLink RX6 149 yX6_hasHours, Cond.instanceMethod yX6_hasHours]
def wsL_law_r18 : List Cond := [Cond.selects RX6 yX6_hasHours yX6_hasHours, Cond.code yX6_hasHours cX6_hasHours 2 (some .boolean), Cond.fieldLink RX6 289 "IcePalace$Palace" "hour" "I", Cond.methodLink RX6 152 yX1_passHours, Cond.instanceMethod yX1_passHours, Cond.selects RX1 yX1_passHours yX1_passHours, Cond.code yX1_passHours cX1_passHours 4 (some .int), Cond.methodLink RX1 68 yX1_feelWarmth, Cond.instanceMethod yX1_feelWarmth, Cond.selects RX1 yX1_feelWarmth yX1_feelWarmth, Cond.code yX1_feelWarmth cX1_feelWarmth 2 none, Cond.fieldLink RX1 79 "IcePalace$Wall" "blocks" "I", Cond.fieldLink RX1 82 "IcePalace$Wall" "cells" "[I", Cond.methodLink RX1 75 yX5_isGone, Cond.methodLink RX1 85 yX0_warmthAt, Cond.methodLink RX1 71 yX1_passHour, Cond.instanceMethod yX1_passHour, Cond.selects RX1 yX1_passHour yX1_passHour, Cond.code yX1_passHour cX1_passHour 2 (some .int), Cond.fieldLink RX1 58 "IcePalace$Palace" "hour" "I", Cond.methodLink RX1 89 yX1_meltOrMend, Cond.instanceMethod yX1_meltOrMend, Cond.selects RX1 yX1_meltOrMend yX1_meltOrMend, Cond.code yX1_meltOrMend cX1_meltOrMend 4 none]
def wsL_law_r19 : List Cond := [Cond.fieldLink RX1 102 "IcePalace$Wall" "grains" "[I", Cond.methodLink RX1 105 Lib.Math.min.name, Cond.fieldLink RX1 61 "IcePalace$Palace" "air" "I", Cond.methodLink RX1 111 yX5_thicken, Cond.methodLink RX1 93 yX1_freezeDrip, Cond.instanceMethod yX1_freezeDrip, Cond.selects RX1 yX1_freezeDrip yX1_freezeDrip, Cond.code yX1_freezeDrip cX1_freezeDrip 5 none, Cond.fieldLink RX1 114 "IcePalace$Wall" "onCell" "[I", Cond.methodLink RX1 96 yX1_removeMelted, Cond.instanceMethod yX1_removeMelted, Cond.selects RX1 yX1_removeMelted yX1_removeMelted, Cond.code yX1_removeMelted cX1_removeMelted 3 (some .int), Cond.methodLink RX1 117 yX5_remove, Cond.instanceMethod yX5_remove, Cond.selects RX5 yX5_remove yX5_remove, Cond.code yX5_remove cX5_remove 4 (some .int), Cond.methodLink RX1 99 yX1_collapse, Cond.instanceMethod yX1_collapse, Cond.selects RX1 yX1_collapse yX1_collapse, Cond.code yX1_collapse cX1_collapse 5 (some .int), Cond.fieldLink RX1 64 "IcePalace$Palace" "rubble" "I", Cond.methodLink RX1 120 yX5_looseSet, Cond.instanceMethod yX5_looseSet]
def wsL_law_r20 : List Cond := [Cond.selects RX5 yX5_looseSet yX5_looseSet, Cond.code yX5_looseSet cX5_looseSet 5 (some .int), Cond.methodLink RX5 65 yX5_standing, Cond.methodLink RX1 123 yX5_weakSet, Cond.instanceMethod yX5_weakSet, Cond.selects RX5 yX5_weakSet yX5_weakSet, Cond.code yX5_weakSet cX5_weakSet 3 (some .int), Cond.methodLink RX5 69 yX5_loadOf, Cond.methodLink RX5 73 yX5_strengthOf, Cond.methodLink RL 65 yX7_hours, Cond.instanceMethod yX7_hours, Cond.selects RX7 yX7_hours yX7_hours, Cond.code yX7_hours cX7_hours 4 (some .int), Cond.constantLong RX7 172 (48), Cond.methodLink RX7 174 yX7_goneNow, Cond.instanceMethod yX7_goneNow, Cond.selects RX7 yX7_goneNow yX7_goneNow, Cond.code yX7_goneNow cX7_goneNow 3 (some .int), Cond.methodLink RX7 177 yX7_hour, Cond.instanceMethod yX7_hour, Cond.selects RX7 yX7_hour yX7_hour, Cond.code yX7_hour cX7_hour 2 none, Cond.methodLink RX7 159 yX7_melts, Cond.instanceMethod yX7_melts]
def wsL_law_r21 : List Cond := [Cond.selects RX7 yX7_melts yX7_melts, Cond.code yX7_melts cX7_melts 3 none, Cond.methodLink RX7 163 yX7_freezes, Cond.instanceMethod yX7_freezes, Cond.selects RX7 yX7_freezes yX7_freezes, Cond.code yX7_freezes cX7_freezes 6 none, Cond.methodLink RX7 166 yX7_emptyGo, Cond.instanceMethod yX7_emptyGo, Cond.selects RX7 yX7_emptyGo yX7_emptyGo, Cond.code yX7_emptyGo cX7_emptyGo 2 none, Cond.methodLink RX7 169 yX7_falls, Cond.instanceMethod yX7_falls, Cond.selects RX7 yX7_falls yX7_falls, Cond.code yX7_falls cX7_falls 3 none, Cond.methodLink RX7 153 yX7_looseNow, Cond.instanceMethod yX7_looseNow, Cond.selects RX7 yX7_looseNow yX7_looseNow, Cond.code yX7_looseNow cX7_looseNow 4 (some .int), Cond.methodLink RX7 156 yX7_weakNow, Cond.instanceMethod yX7_weakNow, Cond.selects RX7 yX7_weakNow yX7_weakNow, Cond.code yX7_weakNow cX7_weakNow 3 (some .int), Cond.methodLink RX7 180 yX7_many, Cond.static yX7_many]
def wsL_law_r22 : List Cond := [Cond.code yX7_many cX7_many 3 (some .int), Cond.methodLink RL 66 yX6_fall, Cond.instanceMethod yX6_fall, Cond.selects RX6 yX6_fall yX6_fall, Cond.code yX6_fall cX6_fall 1 (some .int), Cond.methodLink RX6 155 yX1_collapse, Cond.methodLink RL 69 yX7_fall, Cond.instanceMethod yX7_fall, Cond.selects RX7 yX7_fall yX7_fall, Cond.code yX7_fall cX7_fall 2 (some .int), Cond.methodLink RL 70 yX6_loose, Cond.instanceMethod yX6_loose, Cond.selects RX6 yX6_loose yX6_loose, Cond.code yX6_loose cX6_loose 1 (some .int), Cond.methodLink RX6 159 yX5_looseSet, Cond.methodLink RL 73 yX7_loose, Cond.instanceMethod yX7_loose, Cond.selects RX7 yX7_loose yX7_loose, Cond.code yX7_loose cX7_loose 1 (some .int), Cond.methodLink RL 74 yX6_weak, Cond.instanceMethod yX6_weak, Cond.selects RX6 yX6_weak yX6_weak, Cond.code yX6_weak cX6_weak 1 (some .int), Cond.methodLink RX6 162 yX5_weakSet]
def wsL_law_r23 : List Cond := [Cond.methodLink RL 77 yX7_weak, Cond.instanceMethod yX7_weak, Cond.selects RX7 yX7_weak yX7_weak, Cond.code yX7_weak cX7_weak 1 (some .int), Cond.methodLink RL 78 yX6_ahead, Cond.instanceMethod yX6_ahead, Cond.selects RX6 yX6_ahead yX6_ahead, Cond.code yX6_ahead cX6_ahead 5 (some .int), Cond.fieldLink RX6 172 "IcePalace$Palace" "air" "I", Cond.fieldLink RX6 175 "IcePalace$Palace" "rubble" "I", Cond.methodLink RX6 165 yX6_freshTrial, Cond.instanceMethod yX6_freshTrial, Cond.selects RX6 yX6_freshTrial yX6_freshTrial, Cond.code yX6_freshTrial cX6_freshTrial 1 (some (.object "IcePalace$Palace")), Cond.methodLink RX6 230 yX1_copyFrom, Cond.instanceMethod yX1_copyFrom, Cond.selects RX1 yX1_copyFrom yX1_copyFrom, Cond.code yX1_copyFrom cX1_copyFrom 2 none, Cond.methodLink RX1 52 arraycopyName, Cond.native arraycopyName, Cond.static arraycopyName, Cond.initialized "java/lang/System", Cond.methodLink RX1 45 yX5_copyFrom, Cond.instanceMethod yX5_copyFrom]
def wsL_law_r24 : List Cond := [Cond.selects RX5 yX5_copyFrom yX5_copyFrom, Cond.code yX5_copyFrom cX5_copyFrom 2 none, Cond.methodLink RX5 34 arraycopyName, Cond.methodLink RX1 49 yX0_copyFrom, Cond.instanceMethod yX0_copyFrom, Cond.selects RX0 yX0_copyFrom yX0_copyFrom, Cond.code yX0_copyFrom cX0_copyFrom 2 none, Cond.methodLink RX0 22 arraycopyName, Cond.methodLink RX6 169 yX5_allGrains, Cond.instanceMethod yX5_allGrains, Cond.selects RX5 yX5_allGrains yX5_allGrains, Cond.code yX5_allGrains cX5_allGrains 3 (some .int), Cond.methodLink RX6 178 yX5_goneSet, Cond.instanceMethod yX5_goneSet, Cond.selects RX5 yX5_goneSet yX5_goneSet, Cond.code yX5_goneSet cX5_goneSet 3 (some .int), Cond.methodLink RL 81 yX7_ahead, Cond.instanceMethod yX7_ahead, Cond.selects RX7 yX7_ahead yX7_ahead, Cond.code yX7_ahead cX7_ahead 5 (some .int), Cond.constantLong RX7 183 (96), Cond.constantLong RX7 185 (4), Cond.methodLink RX7 187 yX7_row, Cond.static yX7_row]
def wsL_law_r25 : List Cond := [Cond.code yX7_row cX7_row 3 none, Cond.methodLink RX7 191 yX7_allGrains, Cond.instanceMethod yX7_allGrains, Cond.selects RX7 yX7_allGrains yX7_allGrains, Cond.code yX7_allGrains cX7_allGrains 3 (some .int), Cond.methodLink RL 82 yX6_goes, Cond.instanceMethod yX6_goes, Cond.selects RX6 yX6_goes yX6_goes, Cond.code yX6_goes cX6_goes 3 (some .int), Cond.constant RX6 184 (-1000004), Cond.methodLink RX6 181 yX1_goneIn, Cond.instanceMethod yX1_goneIn, Cond.selects RX1 yX1_goneIn yX1_goneIn, Cond.code yX1_goneIn cX1_goneIn 4 (some .int), Cond.methodLink RL 85 yX7_goes, Cond.instanceMethod yX7_goes, Cond.selects RX7 yX7_goes yX7_goes, Cond.code yX7_goes cX7_goes 3 (some .int), Cond.constant RX7 44 (-1000004), Cond.methodLink RX7 194 yX7_isFarOn, Cond.instanceMethod yX7_isFarOn, Cond.selects RX7 yX7_isFarOn yX7_isFarOn, Cond.code yX7_isFarOn cX7_isFarOn 2 (some .boolean), Cond.methodLink RX7 197 yX7_goneIn]
def wsL_law_r26 : List Cond := [Cond.instanceMethod yX7_goneIn, Cond.selects RX7 yX7_goneIn yX7_goneIn, Cond.code yX7_goneIn cX7_goneIn 4 (some .int), Cond.methodLink RL 86 yX6_holds, Cond.instanceMethod yX6_holds, Cond.selects RX6 yX6_holds yX6_holds, Cond.code yX6_holds cX6_holds 1 (some .int), Cond.methodLink RX6 185 yX1_hoursHeld, Cond.instanceMethod yX1_hoursHeld, Cond.selects RX1 yX1_hoursHeld yX1_hoursHeld, Cond.code yX1_hoursHeld cX1_hoursHeld 3 (some .int), Cond.methodLink RL 89 yX7_holds, Cond.instanceMethod yX7_holds, Cond.selects RX7 yX7_holds yX7_holds, Cond.code yX7_holds cX7_holds 1 (some .int), Cond.methodLink RX7 200 yX7_held, Cond.instanceMethod yX7_held, Cond.selects RX7 yX7_held yX7_held, Cond.code yX7_held cX7_held 5 (some .int), Cond.methodLink RL 90 yX6_deal, Cond.instanceMethod yX6_deal, Cond.selects RX6 yX6_deal yX6_deal, Cond.code yX6_deal cX6_deal 7 (some .int), Cond.methodLink RL 93 yX7_deal]
def wsL_law_r27 : List Cond := [Cond.instanceMethod yX7_deal, Cond.selects RX7 yX7_deal yX7_deal, Cond.code yX7_deal cX7_deal 5 (some .int), Cond.methodLink RX7 203 yX7_lights, Cond.instanceMethod yX7_lights, Cond.selects RX7 yX7_lights yX7_lights, Cond.code yX7_lights cX7_lights 3 none, Cond.methodLink RX7 206 yX7_light, Cond.methodLink RX7 209 yX7_orNone, Cond.instanceMethod yX7_orNone, Cond.selects RX7 yX7_orNone yX7_orNone, Cond.code yX7_orNone cX7_orNone 2 (some .int), Cond.methodLink RL 94 yX6_bears, Cond.instanceMethod yX6_bears, Cond.selects RX6 yX6_bears yX6_bears, Cond.code yX6_bears cX6_bears 4 (some .int), Cond.methodLink RL 97 yX7_bears, Cond.instanceMethod yX7_bears, Cond.selects RX7 yX7_bears yX7_bears, Cond.code yX7_bears cX7_bears 5 (some .int), Cond.methodLink RL 98 yX6_needs, Cond.instanceMethod yX6_needs, Cond.selects RX6 yX6_needs yX6_needs, Cond.code yX6_needs cX6_needs 6 (some .int)]
def wsL_law_r28 : List Cond := [Cond.methodLink RL 101 yX7_needs, Cond.instanceMethod yX7_needs, Cond.selects RX7 yX7_needs yX7_needs, Cond.code yX7_needs cX7_needs 7 (some .int), Cond.methodLink RX7 212 yX7_wrongFor, Cond.instanceMethod yX7_wrongFor, Cond.selects RX7 yX7_wrongFor yX7_wrongFor, Cond.code yX7_wrongFor cX7_wrongFor 4 (some .int), Cond.methodLink RX7 216 yX7_capped, Cond.static yX7_capped, Cond.code yX7_capped cX7_capped 1 (some .int), Cond.methodLink RL 102 yX6_mend, Cond.instanceMethod yX6_mend, Cond.selects RX6 yX6_mend yX6_mend, Cond.code yX6_mend cX6_mend 7 (some .int), Cond.fieldLink RX6 188 "IcePalace$Wall" "blocks" "I", Cond.methodLink RL 105 yX7_mend, Cond.instanceMethod yX7_mend, Cond.selects RX7 yX7_mend yX7_mend, Cond.code yX7_mend cX7_mend 7 (some .int), Cond.constantLong RX7 219 (98), Cond.methodLink RL 106 yX6_whose, Cond.instanceMethod yX6_whose, Cond.selects RX6 yX6_whose yX6_whose]
def wsL_law_r29 : List Cond := [Cond.code yX6_whose cX6_whose 7 (some .int), Cond.methodLink RL 109 yX7_whose, Cond.instanceMethod yX7_whose, Cond.selects RX7 yX7_whose yX7_whose, Cond.code yX7_whose cX7_whose 7 (some .int), Cond.methodLink RL 110 yX6_drawing, Cond.instanceMethod yX6_drawing, Cond.selects RX6 yX6_drawing yX6_drawing, Cond.code yX6_drawing cX6_drawing 8 (some .int), Cond.methodLink RL 113 yX7_drawing, Cond.instanceMethod yX7_drawing, Cond.selects RX7 yX7_drawing yX7_drawing, Cond.code yX7_drawing cX7_drawing 9 (some .int), Cond.constantLong RX7 221 (24), Cond.methodLink RX7 223 yX7_grainsBehind, Cond.instanceMethod yX7_grainsBehind, Cond.selects RX7 yX7_grainsBehind yX7_grainsBehind, Cond.code yX7_grainsBehind cX7_grainsBehind 4 (some .int), Cond.methodLink RL 114 yX6_order, Cond.instanceMethod yX6_order, Cond.selects RX6 yX6_order yX6_order, Cond.code yX6_order cX6_order 10 (some .int), Cond.methodLink RX6 191 yX5_occupied, Cond.instanceMethod yX5_occupied]
def wsL_law_r30 : List Cond := [Cond.selects RX5 yX5_occupied yX5_occupied, Cond.code yX5_occupied cX5_occupied 4 (some .long), Cond.methodLink RX6 194 yX5_nextComer, Cond.instanceMethod yX5_nextComer, Cond.selects RX5 yX5_nextComer yX5_nextComer, Cond.code yX5_nextComer cX5_nextComer 5 (some .int), Cond.methodLink RX5 76 yX5_isComer, Cond.instanceMethod yX5_isComer, Cond.selects RX5 yX5_isComer yX5_isComer, Cond.code yX5_isComer cX5_isComer 4 (some .boolean), Cond.methodLink RL 117 yX7_order, Cond.instanceMethod yX7_order, Cond.selects RX7 yX7_order yX7_order, Cond.code yX7_order cX7_order 7 (some .int), Cond.constantLong RX7 226 (15), Cond.methodLink RX7 228 yX7_there, Cond.instanceMethod yX7_there, Cond.selects RX7 yX7_there yX7_there, Cond.code yX7_there cX7_there 1 (some .int), Cond.methodLink RL 118 yX6_steps, Cond.instanceMethod yX6_steps, Cond.selects RX6 yX6_steps yX6_steps, Cond.code yX6_steps cX6_steps 7 (some .int), Cond.methodLink RX6 198 yX5_comers]
def wsL_law_r31 : List Cond := [Cond.instanceMethod yX5_comers, Cond.selects RX5 yX5_comers yX5_comers, Cond.code yX5_comers cX5_comers 9 (some .long), Cond.methodLink RX5 79 yX5_nextComer, Cond.methodLink RL 121 yX7_steps, Cond.instanceMethod yX7_steps, Cond.selects RX7 yX7_steps yX7_steps, Cond.code yX7_steps cX7_steps 6 (some .int), Cond.constantLong RX7 231 (8), Cond.methodLink RL 122 yX6_shakes, Cond.instanceMethod yX6_shakes, Cond.selects RX6 yX6_shakes yX6_shakes, Cond.code yX6_shakes cX6_shakes 2 (some .int), Cond.methodLink RX6 202 yX6_isTune, Cond.static yX6_isTune, Cond.code yX6_isTune cX6_isTune 1 (some .boolean), Cond.methodLink RX6 205 yX5_shakenSet, Cond.instanceMethod yX5_shakenSet, Cond.selects RX5 yX5_shakenSet yX5_shakenSet, Cond.code yX5_shakenSet cX5_shakenSet 4 (some .int), Cond.methodLink RL 125 yX7_shakes, Cond.instanceMethod yX7_shakes, Cond.selects RX7 yX7_shakes yX7_shakes, Cond.code yX7_shakes cX7_shakes 2 (some .int)]
def wsL_law_r32 : List Cond := [Cond.methodLink RX7 237 yX7_isTune, Cond.static yX7_isTune, Cond.code yX7_isTune cX7_isTune 1 (some .boolean), Cond.constantLong RX7 233 (2), Cond.constantLong RX7 235 (9), Cond.methodLink RX7 240 yX7_shaken, Cond.instanceMethod yX7_shaken, Cond.selects RX7 yX7_shaken yX7_shaken, Cond.code yX7_shaken cX7_shaken 4 (some .int), Cond.methodLink RL 126 yX6_dance, Cond.instanceMethod yX6_dance, Cond.selects RX6 yX6_dance yX6_dance, Cond.code yX6_dance cX6_dance 2 (some .int), Cond.methodLink RX6 208 yX1_danceTo, Cond.instanceMethod yX1_danceTo, Cond.selects RX1 yX1_danceTo yX1_danceTo, Cond.code yX1_danceTo cX1_danceTo 4 (some .int), Cond.methodLink RX1 126 yX5_shakenSet, Cond.methodLink RL 129 yX7_dance, Cond.instanceMethod yX7_dance, Cond.selects RX7 yX7_dance yX7_dance, Cond.code yX7_dance cX7_dance 2 (some .int), Cond.methodLink RX7 243 yX7_danced, Cond.instanceMethod yX7_danced]
def wsL_law_r33 : List Cond := [Cond.selects RX7 yX7_danced yX7_danced, Cond.code yX7_danced cX7_danced 5 (some .int), Cond.methodLink RL 130 yX6_tune, Cond.instanceMethod yX6_tune, Cond.selects RX6 yX6_tune yX6_tune, Cond.code yX6_tune cX6_tune 5 (some .int), Cond.methodLink RL 133 yX7_tune, Cond.instanceMethod yX7_tune, Cond.selects RX7 yX7_tune yX7_tune, Cond.code yX7_tune cX7_tune 5 (some .int), Cond.methodLink RL 134 yX6_wind, Cond.instanceMethod yX6_wind, Cond.selects RX6 yX6_wind yX6_wind, Cond.code yX6_wind cX6_wind 4 (some .int), Cond.methodLink RX6 211 yX1_draw, Cond.instanceMethod yX1_draw, Cond.selects RX1 yX1_draw yX1_draw, Cond.code yX1_draw cX1_draw 1 (some .int), Cond.constant RX1 67 (1103515245), Cond.methodLink RL 137 yX7_wind, Cond.instanceMethod yX7_wind, Cond.selects RX7 yX7_wind yX7_wind, Cond.code yX7_wind cX7_wind 4 (some .int), Cond.methodLink RX7 247 yX7_draw]
def wsL_law_r34 : List Cond := [Cond.instanceMethod yX7_draw, Cond.selects RX7 yX7_draw yX7_draw, Cond.code yX7_draw cX7_draw 1 (some .int), Cond.constant RX7 246 (1103515245), Cond.methodLink RL 138 yX6_seed, Cond.instanceMethod yX6_seed, Cond.selects RX6 yX6_seed yX6_seed, Cond.code yX6_seed cX6_seed 3 (some .int), Cond.fieldLink RX6 214 "IcePalace$Palace" "z" "I", Cond.methodLink RL 141 yX7_seed, Cond.instanceMethod yX7_seed, Cond.selects RX7 yX7_seed yX7_seed, Cond.code yX7_seed cX7_seed 2 (some .int), Cond.methodLink RL 142 yX6_feed, Cond.instanceMethod yX6_feed, Cond.selects RX6 yX6_feed yX6_feed, Cond.code yX6_feed cX6_feed 4 (some .int), Cond.fieldLink RX6 217 "IcePalace$Tape" "size" "I", Cond.methodLink RX6 222 yX3_append, Cond.instanceMethod yX3_append, Cond.selects RX3 yX3_append yX3_append, Cond.code yX3_append cX3_append 2 none, Cond.fieldLink RX3 15 "IcePalace$Tape" "size" "I", Cond.methodLink RL 145 yX7_feed]
def wsL_law_r35 : List Cond := [Cond.instanceMethod yX7_feed, Cond.selects RX7 yX7_feed yX7_feed, Cond.code yX7_feed cX7_feed 4 (some .int), Cond.fieldLink RX7 250 "IcePalaceModel" "taped" "I", Cond.methodLink RL 146 yX6_wipe, Cond.instanceMethod yX6_wipe, Cond.selects RX6 yX6_wipe yX6_wipe, Cond.code yX6_wipe cX6_wipe 2 (some .int), Cond.methodLink RL 149 yX7_wipe, Cond.instanceMethod yX7_wipe, Cond.selects RX7 yX7_wipe yX7_wipe, Cond.code yX7_wipe cX7_wipe 2 (some .int), Cond.methodLink RL 150 yX6_text, Cond.instanceMethod yX6_text, Cond.selects RX6 yX6_text yX6_text, Cond.code yX6_text cX6_text 2 (some .int), Cond.methodLink RX6 226 yX4_readInto, Cond.instanceMethod yX4_readInto, Cond.selects RX4 yX4_readInto yX4_readInto, Cond.code yX4_readInto cX4_readInto 3 (some .int), Cond.fieldLink RX4 18 "IcePalace$TextReader" "end" "I", Cond.fieldLink RX4 29 "IcePalace$TextReader" "token" "I", Cond.fieldLink RX4 32 "IcePalace$TextReader" "start" "I", Cond.methodLink RX4 22 yX4_advance]
def wsL_law_r36 : List Cond := [Cond.instanceMethod yX4_advance, Cond.selects RX4 yX4_advance yX4_advance, Cond.code yX4_advance cX4_advance 2 none, Cond.fieldLink RX4 142 "IcePalace$Tape" "size" "I", Cond.methodLink RX4 135 yX3_byteAt, Cond.instanceMethod yX3_byteAt, Cond.selects RX3 yX3_byteAt yX3_byteAt, Cond.code yX3_byteAt cX3_byteAt 2 (some .int), Cond.methodLink RX4 145 yX4_isLetter, Cond.static yX4_isLetter, Cond.code yX4_isLetter cX4_isLetter 1 (some .boolean), Cond.methodLink RX4 149 yX4_isDigit, Cond.static yX4_isDigit, Cond.code yX4_isDigit cX4_isDigit 1 (some .boolean), Cond.methodLink RX4 152 yX4_takeNumber, Cond.instanceMethod yX4_takeNumber, Cond.selects RX4 yX4_takeNumber yX4_takeNumber, Cond.code yX4_takeNumber cX4_takeNumber 1 none, Cond.fieldLink RX4 78 "IcePalace$TextReader" "value" "I", Cond.methodLink RX4 155 Lib.Math.min.name, Cond.methodLink RX4 25 yX4_readItem, Cond.instanceMethod yX4_readItem, Cond.selects RX4 yX4_readItem yX4_readItem, Cond.code yX4_readItem cX4_readItem 3 (some .boolean)]
def wsL_law_r37 : List Cond := [Cond.fieldLink RX4 39 "IcePalace$Palace" "wall" "LIcePalace$Wall;", Cond.fieldLink RX4 55 "IcePalace$Palace" "candles" "LIcePalace$Candles;", Cond.methodLink RX4 35 yX4_kindOfWord, Cond.instanceMethod yX4_kindOfWord, Cond.selects RX4 yX4_kindOfWord yX4_kindOfWord, Cond.code yX4_kindOfWord cX4_kindOfWord 1 (some .int), Cond.methodLink RX4 51 yX4_isWord, Cond.instanceMethod yX4_isWord, Cond.selects RX4 yX4_isWord yX4_isWord, Cond.code yX4_isWord cX4_isWord 3 (some .boolean), Cond.methodLink RX4 130 yJ0_length_8abf5, Cond.instanceMethod yJ0_length_8abf5, Cond.selects RJ0 yJ0_length_8abf5 yJ0_length_8abf5, Cond.initialized RJ0, Cond.code yJ0_length_8abf5 cJ0_length_8abf5 1 (some .int), Cond.fieldLink RJ0 9 "java/lang/String" "value" "[B", Cond.methodLink RJ0 335 yJ0_coder_7d493, Cond.instanceMethod yJ0_coder_7d493, Cond.selects RJ0 yJ0_coder_7d493 yJ0_coder_7d493, Cond.code yJ0_coder_7d493 cJ0_coder_7d493 1 (some .byte), Cond.fieldLink RJ0 38 "java/lang/String" "COMPACT_STRINGS" "Z", Cond.fieldLink RJ0 15 "java/lang/String" "coder" "B", Cond.methodLink RX4 138 yJ0_charAt_5068e, Cond.instanceMethod yJ0_charAt_5068e]
def wsL_law_r38 : List Cond := [Cond.selects RJ0 yJ0_charAt_5068e yJ0_charAt_5068e, Cond.code yJ0_charAt_5068e cJ0_charAt_5068e 2 (some .char), Cond.methodLink RJ0 492 yJ0_isLatin1_aae02, Cond.instanceMethod yJ0_isLatin1_aae02, Cond.selects RJ0 yJ0_isLatin1_aae02 yJ0_isLatin1_aae02, Cond.code yJ0_isLatin1_aae02 cJ0_isLatin1_aae02 1 (some .boolean), Cond.methodLink RJ0 495 yJ1_charAt_3b067, Cond.static yJ1_charAt_3b067, Cond.initialized RJ1, Cond.code yJ1_charAt_3b067 cJ1_charAt_3b067 2 (some .char), Cond.methodLink RJ1 9 yJ0_checkIndex_df160, Cond.static yJ0_checkIndex_df160, Cond.code yJ0_checkIndex_df160 cJ0_checkIndex_df160 2 none, Cond.fieldLink RJ0 1053 "jdk/internal/util/Preconditions" "SIOOBE_FORMATTER" "Ljava/util/function/BiFunction;", Cond.methodLink RJ0 1059 yJ3_checkIndex_8e157, Cond.static yJ3_checkIndex_8e157, Cond.initialized RJ3, Cond.code yJ3_checkIndex_8e157 cJ3_checkIndex_8e157 3 (some .int), Cond.methodLink RJ0 498 yJ2_charAt_3b067, Cond.static yJ2_charAt_3b067, Cond.initialized RJ2, Cond.code yJ2_charAt_3b067 cJ2_charAt_3b067 2 (some .char), Cond.methodLink RJ2 67 yJ2_checkIndex_2214a, Cond.static yJ2_checkIndex_2214a]
def wsL_law_r39 : List Cond := [Cond.code yJ2_checkIndex_2214a cJ2_checkIndex_2214a 2 none, Cond.methodLink RJ2 48 yJ2_length_9d52b, Cond.static yJ2_length_9d52b, Cond.code yJ2_length_9d52b cJ2_length_9d52b 1 (some .int), Cond.methodLink RJ2 414 yJ0_checkIndex_df160, Cond.methodLink RJ2 71 yJ2_getChar_3b067, Cond.static yJ2_getChar_3b067, Cond.code yJ2_getChar_3b067 cJ2_getChar_3b067 2 (some .char), Cond.fieldLink RJ2 44 "java/lang/StringUTF16" "$assertionsDisabled" "Z", Cond.fieldLink RJ2 59 "java/lang/StringUTF16" "HI_BYTE_SHIFT" "I", Cond.fieldLink RJ2 63 "java/lang/StringUTF16" "LO_BYTE_SHIFT" "I", Cond.methodLink RX4 45 yX4_readBlock, Cond.instanceMethod yX4_readBlock, Cond.selects RX4 yX4_readBlock yX4_readBlock, Cond.code yX4_readBlock cX4_readBlock 5 (some .boolean), Cond.methodLink RX4 68 yX5_isFull, Cond.methodLink RX4 74 yX4_isNumber, Cond.instanceMethod yX4_isNumber, Cond.selects RX4 yX4_isNumber yX4_isNumber, Cond.code yX4_isNumber cX4_isNumber 3 (some .boolean), Cond.methodLink RX4 81 yX5_blockAt, Cond.methodLink RX4 87 yX5_build, Cond.methodLink RX4 59 yX4_readCandle, Cond.instanceMethod yX4_readCandle]
def wsL_law_r40 : List Cond := [Cond.selects RX4 yX4_readCandle yX4_readCandle, Cond.code yX4_readCandle cX4_readCandle 4 (some .boolean), Cond.fieldLink RX4 93 "IcePalace$Candles" "cells" "[I", Cond.fieldLink RX4 101 "IcePalace$Candles" "powers" "[I", Cond.methodLink RX4 106 yX0_setLit, Cond.methodLink RX4 65 yX4_readCold, Cond.instanceMethod yX4_readCold, Cond.selects RX4 yX4_readCold yX4_readCold, Cond.code yX4_readCold cX4_readCold 3 (some .boolean), Cond.fieldLink RX4 110 "IcePalace$Candles" "cold" "I", Cond.methodLink RL 153 yX7_text, Cond.instanceMethod yX7_text, Cond.selects RX7 yX7_text yX7_text, Cond.code yX7_text cX7_text 4 (some .int), Cond.fieldLink RX7 254 "IcePalaceModel" "to" "I", Cond.fieldLink RX7 270 "IcePalaceModel" "bad" "Z", Cond.fieldLink RX7 267 "IcePalaceModel" "sort" "I", Cond.fieldLink RX7 257 "IcePalaceModel" "from" "I", Cond.methodLink RX7 287 yX7_token, Cond.instanceMethod yX7_token, Cond.selects RX7 yX7_token yX7_token, Cond.code yX7_token cX7_token 1 none, Cond.fieldLink RX7 264 "IcePalaceModel" "value" "I", Cond.methodLink RX7 260 yX7_isByte]
def wsL_law_r41 : List Cond := [Cond.instanceMethod yX7_isByte, Cond.selects RX7 yX7_isByte yX7_isByte, Cond.code yX7_isByte cX7_isByte 4 (some .boolean), Cond.methodLink RX7 338 yX7_item, Cond.instanceMethod yX7_item, Cond.selects RX7 yX7_item yX7_item, Cond.code yX7_item cX7_item 1 none, Cond.methodLink RX7 308 yX7_takes, Cond.instanceMethod yX7_takes, Cond.selects RX7 yX7_takes yX7_takes, Cond.code yX7_takes cX7_takes 2 (some .boolean), Cond.methodLink RX7 283 yX7_isWord, Cond.instanceMethod yX7_isWord, Cond.selects RX7 yX7_isWord yX7_isWord, Cond.code yX7_isWord cX7_isWord 4 (some .boolean), Cond.methodLink RX7 274 yJ0_length_8abf5, Cond.methodLink RX7 279 yJ0_charAt_5068e, Cond.methodLink RX7 324 yX7_candleItem, Cond.instanceMethod yX7_candleItem, Cond.selects RX7 yX7_candleItem yX7_candleItem, Cond.code yX7_candleItem cX7_candleItem 2 none, Cond.methodLink RX7 304 yX7_number, Cond.instanceMethod yX7_number, Cond.selects RX7 yX7_number yX7_number]
def wsL_law_r42 : List Cond := [Cond.code yX7_number cX7_number 5 (some .int), Cond.methodLink RX7 311 yX7_tells, Cond.instanceMethod yX7_tells, Cond.selects RX7 yX7_tells yX7_tells, Cond.code yX7_tells cX7_tells 3 none, Cond.methodLink RX7 329 yX7_coldItem, Cond.instanceMethod yX7_coldItem, Cond.selects RX7 yX7_coldItem yX7_coldItem, Cond.code yX7_coldItem cX7_coldItem 3 none, Cond.methodLink RX7 318 yX7_isSign, Cond.instanceMethod yX7_isSign, Cond.selects RX7 yX7_isSign yX7_isSign, Cond.code yX7_isSign cX7_isSign 2 (some .boolean), Cond.methodLink RX7 332 yX7_kindHere, Cond.instanceMethod yX7_kindHere, Cond.selects RX7 yX7_kindHere yX7_kindHere, Cond.code yX7_kindHere cX7_kindHere 1 (some .int), Cond.methodLink RX7 335 yX7_blockItem, Cond.instanceMethod yX7_blockItem, Cond.selects RX7 yX7_blockItem yX7_blockItem, Cond.code yX7_blockItem cX7_blockItem 4 none, Cond.methodLink RL 154 yX6_hold, Cond.instanceMethod yX6_hold, Cond.selects RX6 yX6_hold yX6_hold]
def wsL_law_r43 : List Cond := [Cond.code yX6_hold cX6_hold 3 (some .int), Cond.fieldLink RX6 237 "IcePalace$Palace" "spots" "[I", Cond.methodLink RX6 234 yX6_isSpot, Cond.static yX6_isSpot, Cond.code yX6_isSpot cX6_isSpot 1 (some .boolean), Cond.methodLink RL 157 yX7_hold, Cond.instanceMethod yX7_hold, Cond.selects RX7 yX7_hold yX7_hold, Cond.code yX7_hold cX7_hold 3 (some .int), Cond.methodLink RL 158 yX6_as, Cond.instanceMethod yX6_as, Cond.selects RX6 yX6_as yX6_as, Cond.code yX6_as cX6_as 4 (some .int), Cond.constant RX6 240 (-1000006), Cond.constant RX6 245 (-1000003), Cond.methodLink RX6 241 yX6_isUnder, Cond.static yX6_isUnder, Cond.code yX6_isUnder cX6_isUnder 4 (some .boolean), Cond.fieldLink RX6 297 "IcePalace" "KIND_ABOVE" "[I", Cond.methodLink RL 161 yX7_as, Cond.instanceMethod yX7_as, Cond.selects RX7 yX7_as yX7_as, Cond.code yX7_as cX7_as 5 (some .int), Cond.constant RX7 341 (-1000006)]
def wsL_law_r44 : List Cond := [Cond.constant RX7 345 (-1000003), Cond.methodLink RX7 342 yX7_under, Cond.static yX7_under, Cond.code yX7_under cX7_under 1 (some .int), Cond.methodLink RL 162 yX6_sheet, Cond.instanceMethod yX6_sheet, Cond.selects RX6 yX6_sheet yX6_sheet, Cond.code yX6_sheet cX6_sheet 4 (some .int), Cond.constant RX6 249 (-1000007), Cond.methodLink RX6 246 yX6_isSheet, Cond.static yX6_isSheet, Cond.code yX6_isSheet cX6_isSheet 1 (some .boolean), Cond.methodLink RX6 250 yX2_lay, Cond.instanceMethod yX2_lay, Cond.selects RX2 yX2_lay yX2_lay, Cond.code yX2_lay cX2_lay 3 (some .int), Cond.fieldLink RX2 15 "IcePalace$Sheet" "bits" "I", Cond.fieldLink RX2 19 "IcePalace$Sheet" "size" "I", Cond.methodLink RX2 22 yJ7_fill_53178, Cond.methodLink RL 165 yX7_sheet, Cond.instanceMethod yX7_sheet, Cond.selects RX7 yX7_sheet yX7_sheet, Cond.code yX7_sheet cX7_sheet 5 (some .int), Cond.constant RX7 351 (-1000007)]
def wsL_law_r45 : List Cond := [Cond.methodLink RX7 348 yX7_isSheet, Cond.static yX7_isSheet, Cond.code yX7_isSheet cX7_isSheet 1 (some .boolean), Cond.constantLong RX7 346 (3), Cond.methodLink RL 166 yX6_write, Cond.instanceMethod yX6_write, Cond.selects RX6 yX6_write yX6_write, Cond.code yX6_write cX6_write 5 (some .int), Cond.fieldLink RX6 256 "IcePalace$Sheet" "size" "I", Cond.methodLink RX6 253 yX2_isMissing, Cond.instanceMethod yX2_isMissing, Cond.selects RX2 yX2_isMissing yX2_isMissing, Cond.code yX2_isMissing cX2_isMissing 1 (some .boolean), Cond.methodLink RX6 257 yX2_put, Cond.instanceMethod yX2_put, Cond.selects RX2 yX2_put yX2_put, Cond.code yX2_put cX2_put 3 none, Cond.methodLink RL 169 yX7_write, Cond.instanceMethod yX7_write, Cond.selects RX7 yX7_write yX7_write, Cond.code yX7_write cX7_write 4 (some .int), Cond.methodLink RL 170 yX6_copy, Cond.instanceMethod yX6_copy, Cond.selects RX6 yX6_copy yX6_copy]
def wsL_law_r46 : List Cond := [Cond.code yX6_copy cX6_copy 8 (some .int), Cond.fieldLink RX6 261 "IcePalace$Sheet" "bits" "I", Cond.fieldLink RX6 267 "IcePalace$Sheet" "numbers" "[I", Cond.methodLink RX6 270 arraycopyName, Cond.methodLink RX6 264 yX2_hasRange, Cond.instanceMethod yX2_hasRange, Cond.selects RX2 yX2_hasRange yX2_hasRange, Cond.code yX2_hasRange cX2_hasRange 3 (some .boolean), Cond.methodLink RL 174 yX7_copy, Cond.instanceMethod yX7_copy, Cond.selects RX7 yX7_copy yX7_copy, Cond.code yX7_copy cX7_copy 9 (some .int), Cond.methodLink RL 175 yX6_load, Cond.instanceMethod yX6_load, Cond.selects RX6 yX6_load yX6_load, Cond.code yX6_load cX6_load 5 (some .int), Cond.methodLink RX6 276 Lib.Math.min.name, Cond.methodLink RL 178 yX7_load, Cond.instanceMethod yX7_load, Cond.selects RX7 yX7_load yX7_load, Cond.code yX7_load cX7_load 3 (some .int), Cond.methodLink RL 179 yX6_judge, Cond.instanceMethod yX6_judge, Cond.selects RX6 yX6_judge yX6_judge]
def wsL_law_r47 : List Cond := [Cond.code yX6_judge cX6_judge 8 (some .int), Cond.methodLink RX6 281 yX5_isComer, Cond.methodLink RL 182 yX7_judge, Cond.instanceMethod yX7_judge, Cond.selects RX7 yX7_judge yX7_judge, Cond.code yX7_judge cX7_judge 5 (some .int), Cond.methodLink RL 183 yX6_image, Cond.instanceMethod yX6_image, Cond.selects RX6 yX6_image yX6_image, Cond.code yX6_image cX6_image 1 (some .int), Cond.fieldLink RX6 285 "IcePalace" "isKept" "Z", Cond.methodLink RL 186 yX7_image, Cond.instanceMethod yX7_image, Cond.selects RX7 yX7_image yX7_image, Cond.code yX7_image cX7_image 1 (some .int), Cond.fieldLink RX7 352 "IcePalaceModel" "isKept" "Z", Cond.methodLink RL 187 yX6_undo, Cond.instanceMethod yX6_undo, Cond.selects RX6 yX6_undo yX6_undo, Cond.code yX6_undo cX6_undo 1 (some .int), Cond.methodLink RL 190 yX7_undo, Cond.instanceMethod yX7_undo, Cond.selects RX7 yX7_undo yX7_undo, Cond.code yX7_undo cX7_undo 1 (some .int)]
def wsL_law_r48 : List Cond := [Cond.methodLink RL 191 yX6_tear, Cond.instanceMethod yX6_tear, Cond.selects RX6 yX6_tear yX6_tear, Cond.code yX6_tear cX6_tear 2 (some .int), Cond.methodLink RL 194 yX7_tear, Cond.instanceMethod yX7_tear, Cond.selects RX7 yX7_tear yX7_tear, Cond.code yX7_tear cX7_tear 2 (some .int), Cond.methodLink RL 195 yX6_count, Cond.instanceMethod yX6_count, Cond.selects RX6 yX6_count yX6_count, Cond.code yX6_count cX6_count 2 (some .int), Cond.methodLink RX6 292 yJ6_bitCount_0f7a4, Cond.static yJ6_bitCount_0f7a4, Cond.initialized RJ6, Cond.code yJ6_bitCount_0f7a4 cJ6_bitCount_0f7a4 1 (some .int), Cond.constant RJ6 265 (1431655765), Cond.constant RJ6 266 (858993459), Cond.constant RJ6 267 (252645135), Cond.methodLink RL 198 yX7_count, Cond.instanceMethod yX7_count, Cond.selects RX7 yX7_count yX7_count, Cond.code yX7_count cX7_count 2 (some .int), Cond.methodLink RL 199 yX6_status]
def wsL_law_r49 : List Cond := [Cond.instanceMethod yX6_status, Cond.selects RX6 yX6_status yX6_status, Cond.code yX6_status cX6_status 4 (some .int), Cond.methodLink RL 202 yX7_status, Cond.instanceMethod yX7_status, Cond.selects RX7 yX7_status yX7_status, Cond.code yX7_status cX7_status 4 (some .int), Cond.constantLong RX7 355 (-1)]
def wsL_law : List Cond := (wsL_law_r1 ++ (wsL_law_r2 ++ (wsL_law_r3 ++ (wsL_law_r4 ++ (wsL_law_r5 ++ (wsL_law_r6 ++ (wsL_law_r7 ++ (wsL_law_r8 ++ (wsL_law_r9 ++ (wsL_law_r10 ++ (wsL_law_r11 ++ (wsL_law_r12 ++ (wsL_law_r13 ++ (wsL_law_r14 ++ (wsL_law_r15 ++ (wsL_law_r16 ++ (wsL_law_r17 ++ (wsL_law_r18 ++ (wsL_law_r19 ++ (wsL_law_r20 ++ (wsL_law_r21 ++ (wsL_law_r22 ++ (wsL_law_r23 ++ (wsL_law_r24 ++ (wsL_law_r25 ++ (wsL_law_r26 ++ (wsL_law_r27 ++ (wsL_law_r28 ++ (wsL_law_r29 ++ (wsL_law_r30 ++ (wsL_law_r31 ++ (wsL_law_r32 ++ (wsL_law_r33 ++ (wsL_law_r34 ++ (wsL_law_r35 ++ (wsL_law_r36 ++ (wsL_law_r37 ++ (wsL_law_r38 ++ (wsL_law_r39 ++ (wsL_law_r40 ++ (wsL_law_r41 ++ (wsL_law_r42 ++ (wsL_law_r43 ++ (wsL_law_r44 ++ (wsL_law_r45 ++ (wsL_law_r46 ++ (wsL_law_r47 ++ (wsL_law_r48 ++ wsL_law_r49)))))))))))))))))))))))))))))))))))))))))))))))) ++ wsX60 ++ wsX70 ++ wsX10 ++ wsX40 ++ wsX20 ++ wsX50 ++ wsX00 ++ wsX30 ++ ([] : List Cond)
theorem inlX0 : ∀ w ∈ wsX00, w ∈ wsL_law := fun _ h => List.mem_append_left _ (List.mem_append_left _ (List.mem_append_right _ h))
theorem inlX1 : ∀ w ∈ wsX10, w ∈ wsL_law := fun _ h => List.mem_append_left _ (List.mem_append_left _ (List.mem_append_left _ (List.mem_append_left _ (List.mem_append_left _ (List.mem_append_left _ (List.mem_append_right _ h))))))
theorem inlX2 : ∀ w ∈ wsX20, w ∈ wsL_law := fun _ h => List.mem_append_left _ (List.mem_append_left _ (List.mem_append_left _ (List.mem_append_left _ (List.mem_append_right _ h))))
theorem inlX3 : ∀ w ∈ wsX30, w ∈ wsL_law := fun _ h => List.mem_append_left _ (List.mem_append_right _ h)
theorem inlX4 : ∀ w ∈ wsX40, w ∈ wsL_law := fun _ h => List.mem_append_left _ (List.mem_append_left _ (List.mem_append_left _ (List.mem_append_left _ (List.mem_append_left _ (List.mem_append_right _ h)))))
theorem inlX5 : ∀ w ∈ wsX50, w ∈ wsL_law := fun _ h => List.mem_append_left _ (List.mem_append_left _ (List.mem_append_left _ (List.mem_append_right _ h)))
theorem inlX6 : ∀ w ∈ wsX60, w ∈ wsL_law := fun _ h => List.mem_append_left _ (List.mem_append_left _ (List.mem_append_left _ (List.mem_append_left _ (List.mem_append_left _ (List.mem_append_left _ (List.mem_append_left _ (List.mem_append_left _ (List.mem_append_right _ h))))))))
theorem inlX7 : ∀ w ∈ wsX70, w ∈ wsL_law := fun _ h => List.mem_append_left _ (List.mem_append_left _ (List.mem_append_left _ (List.mem_append_left _ (List.mem_append_left _ (List.mem_append_left _ (List.mem_append_left _ (List.mem_append_right _ h)))))))
abbrev vwCl : List vw_C := [(RX0, TX0, 4), (RX1, TX1, 9), (RX2, TX2, 3), (RX3, TX3, 2), (RX4, TX4, 5), (RX5, TX5, 5), (RX6, TX6, 8), (RX7, TX7, 18)]
theorem wlc_1 : ∀ w ∈ wsL_law_r1, w ∈ wsL_law := fun _ h => List.mem_append_left _ (List.mem_append_left _ (List.mem_append_left _ (List.mem_append_left _ (List.mem_append_left _ (List.mem_append_left _ (List.mem_append_left _ (List.mem_append_left _ (List.mem_append_left _ (List.mem_append_left _ h)))))))))
theorem wlg_1 : ∀ w ∈ wsL_law_r1, (w.onTables && w.keeps) = true ∨ ∃ ty, w = .arrayClass ty := fun w h => good_of_word (List.all_eq_true.mp (show wsL_law_r1.all goodWord = true by decide +kernel) w h)
theorem wlc_2 : ∀ w ∈ wsL_law_r2, w ∈ wsL_law := fun _ h => List.mem_append_left _ (List.mem_append_left _ (List.mem_append_left _ (List.mem_append_left _ (List.mem_append_left _ (List.mem_append_left _ (List.mem_append_left _ (List.mem_append_left _ (List.mem_append_left _ (List.mem_append_right _ (List.mem_append_left _ h))))))))))
theorem wlg_2 : ∀ w ∈ wsL_law_r2, (w.onTables && w.keeps) = true ∨ ∃ ty, w = .arrayClass ty := fun w h => good_of_word (List.all_eq_true.mp (show wsL_law_r2.all goodWord = true by decide +kernel) w h)
theorem wlc_3 : ∀ w ∈ wsL_law_r3, w ∈ wsL_law := fun _ h => List.mem_append_left _ (List.mem_append_left _ (List.mem_append_left _ (List.mem_append_left _ (List.mem_append_left _ (List.mem_append_left _ (List.mem_append_left _ (List.mem_append_left _ (List.mem_append_left _ (List.mem_append_right _ (List.mem_append_right _ (List.mem_append_left _ h)))))))))))
theorem wlg_3 : ∀ w ∈ wsL_law_r3, (w.onTables && w.keeps) = true ∨ ∃ ty, w = .arrayClass ty := fun w h => good_of_word (List.all_eq_true.mp (show wsL_law_r3.all goodWord = true by decide +kernel) w h)
theorem wlc_4 : ∀ w ∈ wsL_law_r4, w ∈ wsL_law := fun _ h => List.mem_append_left _ (List.mem_append_left _ (List.mem_append_left _ (List.mem_append_left _ (List.mem_append_left _ (List.mem_append_left _ (List.mem_append_left _ (List.mem_append_left _ (List.mem_append_left _ (List.mem_append_right _ (List.mem_append_right _ (List.mem_append_right _ (List.mem_append_left _ h))))))))))))
theorem wlg_4 : ∀ w ∈ wsL_law_r4, (w.onTables && w.keeps) = true ∨ ∃ ty, w = .arrayClass ty := fun w h => good_of_word (List.all_eq_true.mp (show wsL_law_r4.all goodWord = true by decide +kernel) w h)
theorem wlc_5 : ∀ w ∈ wsL_law_r5, w ∈ wsL_law := fun _ h => List.mem_append_left _ (List.mem_append_left _ (List.mem_append_left _ (List.mem_append_left _ (List.mem_append_left _ (List.mem_append_left _ (List.mem_append_left _ (List.mem_append_left _ (List.mem_append_left _ (List.mem_append_right _ (List.mem_append_right _ (List.mem_append_right _ (List.mem_append_right _ (List.mem_append_left _ h)))))))))))))
theorem wlg_5 : ∀ w ∈ wsL_law_r5, (w.onTables && w.keeps) = true ∨ ∃ ty, w = .arrayClass ty := fun w h => good_of_word (List.all_eq_true.mp (show wsL_law_r5.all goodWord = true by decide +kernel) w h)
theorem wlc_6 : ∀ w ∈ wsL_law_r6, w ∈ wsL_law := fun _ h => List.mem_append_left _ (List.mem_append_left _ (List.mem_append_left _ (List.mem_append_left _ (List.mem_append_left _ (List.mem_append_left _ (List.mem_append_left _ (List.mem_append_left _ (List.mem_append_left _ (List.mem_append_right _ (List.mem_append_right _ (List.mem_append_right _ (List.mem_append_right _ (List.mem_append_right _ (List.mem_append_left _ h))))))))))))))
theorem wlg_6 : ∀ w ∈ wsL_law_r6, (w.onTables && w.keeps) = true ∨ ∃ ty, w = .arrayClass ty := fun w h => good_of_word (List.all_eq_true.mp (show wsL_law_r6.all goodWord = true by decide +kernel) w h)
theorem wlc_7 : ∀ w ∈ wsL_law_r7, w ∈ wsL_law := fun _ h => List.mem_append_left _ (List.mem_append_left _ (List.mem_append_left _ (List.mem_append_left _ (List.mem_append_left _ (List.mem_append_left _ (List.mem_append_left _ (List.mem_append_left _ (List.mem_append_left _ (List.mem_append_right _ (List.mem_append_right _ (List.mem_append_right _ (List.mem_append_right _ (List.mem_append_right _ (List.mem_append_right _ (List.mem_append_left _ h)))))))))))))))
theorem wlg_7 : ∀ w ∈ wsL_law_r7, (w.onTables && w.keeps) = true ∨ ∃ ty, w = .arrayClass ty := fun w h => good_of_word (List.all_eq_true.mp (show wsL_law_r7.all goodWord = true by decide +kernel) w h)
theorem wlc_8 : ∀ w ∈ wsL_law_r8, w ∈ wsL_law := fun _ h => List.mem_append_left _ (List.mem_append_left _ (List.mem_append_left _ (List.mem_append_left _ (List.mem_append_left _ (List.mem_append_left _ (List.mem_append_left _ (List.mem_append_left _ (List.mem_append_left _ (List.mem_append_right _ (List.mem_append_right _ (List.mem_append_right _ (List.mem_append_right _ (List.mem_append_right _ (List.mem_append_right _ (List.mem_append_right _ (List.mem_append_left _ h))))))))))))))))
theorem wlg_8 : ∀ w ∈ wsL_law_r8, (w.onTables && w.keeps) = true ∨ ∃ ty, w = .arrayClass ty := fun w h => good_of_word (List.all_eq_true.mp (show wsL_law_r8.all goodWord = true by decide +kernel) w h)
theorem wlc_9 : ∀ w ∈ wsL_law_r9, w ∈ wsL_law := fun _ h => List.mem_append_left _ (List.mem_append_left _ (List.mem_append_left _ (List.mem_append_left _ (List.mem_append_left _ (List.mem_append_left _ (List.mem_append_left _ (List.mem_append_left _ (List.mem_append_left _ (List.mem_append_right _ (List.mem_append_right _ (List.mem_append_right _ (List.mem_append_right _ (List.mem_append_right _ (List.mem_append_right _ (List.mem_append_right _ (List.mem_append_right _ (List.mem_append_left _ h)))))))))))))))))
theorem wlg_9 : ∀ w ∈ wsL_law_r9, (w.onTables && w.keeps) = true ∨ ∃ ty, w = .arrayClass ty := fun w h => good_of_word (List.all_eq_true.mp (show wsL_law_r9.all goodWord = true by decide +kernel) w h)
theorem wlc_10 : ∀ w ∈ wsL_law_r10, w ∈ wsL_law := fun _ h => List.mem_append_left _ (List.mem_append_left _ (List.mem_append_left _ (List.mem_append_left _ (List.mem_append_left _ (List.mem_append_left _ (List.mem_append_left _ (List.mem_append_left _ (List.mem_append_left _ (List.mem_append_right _ (List.mem_append_right _ (List.mem_append_right _ (List.mem_append_right _ (List.mem_append_right _ (List.mem_append_right _ (List.mem_append_right _ (List.mem_append_right _ (List.mem_append_right _ (List.mem_append_left _ h))))))))))))))))))
theorem wlg_10 : ∀ w ∈ wsL_law_r10, (w.onTables && w.keeps) = true ∨ ∃ ty, w = .arrayClass ty := fun w h => good_of_word (List.all_eq_true.mp (show wsL_law_r10.all goodWord = true by decide +kernel) w h)
theorem wlc_11 : ∀ w ∈ wsL_law_r11, w ∈ wsL_law := fun _ h => List.mem_append_left _ (List.mem_append_left _ (List.mem_append_left _ (List.mem_append_left _ (List.mem_append_left _ (List.mem_append_left _ (List.mem_append_left _ (List.mem_append_left _ (List.mem_append_left _ (List.mem_append_right _ (List.mem_append_right _ (List.mem_append_right _ (List.mem_append_right _ (List.mem_append_right _ (List.mem_append_right _ (List.mem_append_right _ (List.mem_append_right _ (List.mem_append_right _ (List.mem_append_right _ (List.mem_append_left _ h)))))))))))))))))))
theorem wlg_11 : ∀ w ∈ wsL_law_r11, (w.onTables && w.keeps) = true ∨ ∃ ty, w = .arrayClass ty := fun w h => good_of_word (List.all_eq_true.mp (show wsL_law_r11.all goodWord = true by decide +kernel) w h)
theorem wlc_12 : ∀ w ∈ wsL_law_r12, w ∈ wsL_law := fun _ h => List.mem_append_left _ (List.mem_append_left _ (List.mem_append_left _ (List.mem_append_left _ (List.mem_append_left _ (List.mem_append_left _ (List.mem_append_left _ (List.mem_append_left _ (List.mem_append_left _ (List.mem_append_right _ (List.mem_append_right _ (List.mem_append_right _ (List.mem_append_right _ (List.mem_append_right _ (List.mem_append_right _ (List.mem_append_right _ (List.mem_append_right _ (List.mem_append_right _ (List.mem_append_right _ (List.mem_append_right _ (List.mem_append_left _ h))))))))))))))))))))
theorem wlg_12 : ∀ w ∈ wsL_law_r12, (w.onTables && w.keeps) = true ∨ ∃ ty, w = .arrayClass ty := fun w h => good_of_word (List.all_eq_true.mp (show wsL_law_r12.all goodWord = true by decide +kernel) w h)
theorem wlc_13 : ∀ w ∈ wsL_law_r13, w ∈ wsL_law := fun _ h => List.mem_append_left _ (List.mem_append_left _ (List.mem_append_left _ (List.mem_append_left _ (List.mem_append_left _ (List.mem_append_left _ (List.mem_append_left _ (List.mem_append_left _ (List.mem_append_left _ (List.mem_append_right _ (List.mem_append_right _ (List.mem_append_right _ (List.mem_append_right _ (List.mem_append_right _ (List.mem_append_right _ (List.mem_append_right _ (List.mem_append_right _ (List.mem_append_right _ (List.mem_append_right _ (List.mem_append_right _ (List.mem_append_right _ (List.mem_append_left _ h)))))))))))))))))))))
theorem wlg_13 : ∀ w ∈ wsL_law_r13, (w.onTables && w.keeps) = true ∨ ∃ ty, w = .arrayClass ty := fun w h => good_of_word (List.all_eq_true.mp (show wsL_law_r13.all goodWord = true by decide +kernel) w h)
theorem wlc_14 : ∀ w ∈ wsL_law_r14, w ∈ wsL_law := fun _ h => List.mem_append_left _ (List.mem_append_left _ (List.mem_append_left _ (List.mem_append_left _ (List.mem_append_left _ (List.mem_append_left _ (List.mem_append_left _ (List.mem_append_left _ (List.mem_append_left _ (List.mem_append_right _ (List.mem_append_right _ (List.mem_append_right _ (List.mem_append_right _ (List.mem_append_right _ (List.mem_append_right _ (List.mem_append_right _ (List.mem_append_right _ (List.mem_append_right _ (List.mem_append_right _ (List.mem_append_right _ (List.mem_append_right _ (List.mem_append_right _ (List.mem_append_left _ h))))))))))))))))))))))
theorem wlg_14 : ∀ w ∈ wsL_law_r14, (w.onTables && w.keeps) = true ∨ ∃ ty, w = .arrayClass ty := fun w h => good_of_word (List.all_eq_true.mp (show wsL_law_r14.all goodWord = true by decide +kernel) w h)
theorem wlc_15 : ∀ w ∈ wsL_law_r15, w ∈ wsL_law := fun _ h => List.mem_append_left _ (List.mem_append_left _ (List.mem_append_left _ (List.mem_append_left _ (List.mem_append_left _ (List.mem_append_left _ (List.mem_append_left _ (List.mem_append_left _ (List.mem_append_left _ (List.mem_append_right _ (List.mem_append_right _ (List.mem_append_right _ (List.mem_append_right _ (List.mem_append_right _ (List.mem_append_right _ (List.mem_append_right _ (List.mem_append_right _ (List.mem_append_right _ (List.mem_append_right _ (List.mem_append_right _ (List.mem_append_right _ (List.mem_append_right _ (List.mem_append_right _ (List.mem_append_left _ h)))))))))))))))))))))))
theorem wlg_15 : ∀ w ∈ wsL_law_r15, (w.onTables && w.keeps) = true ∨ ∃ ty, w = .arrayClass ty := fun w h => good_of_word (List.all_eq_true.mp (show wsL_law_r15.all goodWord = true by decide +kernel) w h)
theorem wlc_16 : ∀ w ∈ wsL_law_r16, w ∈ wsL_law := fun _ h => List.mem_append_left _ (List.mem_append_left _ (List.mem_append_left _ (List.mem_append_left _ (List.mem_append_left _ (List.mem_append_left _ (List.mem_append_left _ (List.mem_append_left _ (List.mem_append_left _ (List.mem_append_right _ (List.mem_append_right _ (List.mem_append_right _ (List.mem_append_right _ (List.mem_append_right _ (List.mem_append_right _ (List.mem_append_right _ (List.mem_append_right _ (List.mem_append_right _ (List.mem_append_right _ (List.mem_append_right _ (List.mem_append_right _ (List.mem_append_right _ (List.mem_append_right _ (List.mem_append_right _ (List.mem_append_left _ h))))))))))))))))))))))))
theorem wlg_16 : ∀ w ∈ wsL_law_r16, (w.onTables && w.keeps) = true ∨ ∃ ty, w = .arrayClass ty := fun w h => good_of_word (List.all_eq_true.mp (show wsL_law_r16.all goodWord = true by decide +kernel) w h)
theorem wlc_17 : ∀ w ∈ wsL_law_r17, w ∈ wsL_law := fun _ h => List.mem_append_left _ (List.mem_append_left _ (List.mem_append_left _ (List.mem_append_left _ (List.mem_append_left _ (List.mem_append_left _ (List.mem_append_left _ (List.mem_append_left _ (List.mem_append_left _ (List.mem_append_right _ (List.mem_append_right _ (List.mem_append_right _ (List.mem_append_right _ (List.mem_append_right _ (List.mem_append_right _ (List.mem_append_right _ (List.mem_append_right _ (List.mem_append_right _ (List.mem_append_right _ (List.mem_append_right _ (List.mem_append_right _ (List.mem_append_right _ (List.mem_append_right _ (List.mem_append_right _ (List.mem_append_right _ (List.mem_append_left _ h)))))))))))))))))))))))))
theorem wlg_17 : ∀ w ∈ wsL_law_r17, (w.onTables && w.keeps) = true ∨ ∃ ty, w = .arrayClass ty := fun w h => good_of_word (List.all_eq_true.mp (show wsL_law_r17.all goodWord = true by decide +kernel) w h)
theorem wlc_18 : ∀ w ∈ wsL_law_r18, w ∈ wsL_law := fun _ h => List.mem_append_left _ (List.mem_append_left _ (List.mem_append_left _ (List.mem_append_left _ (List.mem_append_left _ (List.mem_append_left _ (List.mem_append_left _ (List.mem_append_left _ (List.mem_append_left _ (List.mem_append_right _ (List.mem_append_right _ (List.mem_append_right _ (List.mem_append_right _ (List.mem_append_right _ (List.mem_append_right _ (List.mem_append_right _ (List.mem_append_right _ (List.mem_append_right _ (List.mem_append_right _ (List.mem_append_right _ (List.mem_append_right _ (List.mem_append_right _ (List.mem_append_right _ (List.mem_append_right _ (List.mem_append_right _ (List.mem_append_right _ (List.mem_append_left _ h))))))))))))))))))))))))))
theorem wlg_18 : ∀ w ∈ wsL_law_r18, (w.onTables && w.keeps) = true ∨ ∃ ty, w = .arrayClass ty := fun w h => good_of_word (List.all_eq_true.mp (show wsL_law_r18.all goodWord = true by decide +kernel) w h)
theorem wlc_19 : ∀ w ∈ wsL_law_r19, w ∈ wsL_law := fun _ h => List.mem_append_left _ (List.mem_append_left _ (List.mem_append_left _ (List.mem_append_left _ (List.mem_append_left _ (List.mem_append_left _ (List.mem_append_left _ (List.mem_append_left _ (List.mem_append_left _ (List.mem_append_right _ (List.mem_append_right _ (List.mem_append_right _ (List.mem_append_right _ (List.mem_append_right _ (List.mem_append_right _ (List.mem_append_right _ (List.mem_append_right _ (List.mem_append_right _ (List.mem_append_right _ (List.mem_append_right _ (List.mem_append_right _ (List.mem_append_right _ (List.mem_append_right _ (List.mem_append_right _ (List.mem_append_right _ (List.mem_append_right _ (List.mem_append_right _ (List.mem_append_left _ h)))))))))))))))))))))))))))
theorem wlg_19 : ∀ w ∈ wsL_law_r19, (w.onTables && w.keeps) = true ∨ ∃ ty, w = .arrayClass ty := fun w h => good_of_word (List.all_eq_true.mp (show wsL_law_r19.all goodWord = true by decide +kernel) w h)
theorem wlc_20 : ∀ w ∈ wsL_law_r20, w ∈ wsL_law := fun _ h => List.mem_append_left _ (List.mem_append_left _ (List.mem_append_left _ (List.mem_append_left _ (List.mem_append_left _ (List.mem_append_left _ (List.mem_append_left _ (List.mem_append_left _ (List.mem_append_left _ (List.mem_append_right _ (List.mem_append_right _ (List.mem_append_right _ (List.mem_append_right _ (List.mem_append_right _ (List.mem_append_right _ (List.mem_append_right _ (List.mem_append_right _ (List.mem_append_right _ (List.mem_append_right _ (List.mem_append_right _ (List.mem_append_right _ (List.mem_append_right _ (List.mem_append_right _ (List.mem_append_right _ (List.mem_append_right _ (List.mem_append_right _ (List.mem_append_right _ (List.mem_append_right _ (List.mem_append_left _ h))))))))))))))))))))))))))))
theorem wlg_20 : ∀ w ∈ wsL_law_r20, (w.onTables && w.keeps) = true ∨ ∃ ty, w = .arrayClass ty := fun w h => good_of_word (List.all_eq_true.mp (show wsL_law_r20.all goodWord = true by decide +kernel) w h)
theorem wlc_21 : ∀ w ∈ wsL_law_r21, w ∈ wsL_law := fun _ h => List.mem_append_left _ (List.mem_append_left _ (List.mem_append_left _ (List.mem_append_left _ (List.mem_append_left _ (List.mem_append_left _ (List.mem_append_left _ (List.mem_append_left _ (List.mem_append_left _ (List.mem_append_right _ (List.mem_append_right _ (List.mem_append_right _ (List.mem_append_right _ (List.mem_append_right _ (List.mem_append_right _ (List.mem_append_right _ (List.mem_append_right _ (List.mem_append_right _ (List.mem_append_right _ (List.mem_append_right _ (List.mem_append_right _ (List.mem_append_right _ (List.mem_append_right _ (List.mem_append_right _ (List.mem_append_right _ (List.mem_append_right _ (List.mem_append_right _ (List.mem_append_right _ (List.mem_append_right _ (List.mem_append_left _ h)))))))))))))))))))))))))))))
theorem wlg_21 : ∀ w ∈ wsL_law_r21, (w.onTables && w.keeps) = true ∨ ∃ ty, w = .arrayClass ty := fun w h => good_of_word (List.all_eq_true.mp (show wsL_law_r21.all goodWord = true by decide +kernel) w h)
theorem wlc_22 : ∀ w ∈ wsL_law_r22, w ∈ wsL_law := fun _ h => List.mem_append_left _ (List.mem_append_left _ (List.mem_append_left _ (List.mem_append_left _ (List.mem_append_left _ (List.mem_append_left _ (List.mem_append_left _ (List.mem_append_left _ (List.mem_append_left _ (List.mem_append_right _ (List.mem_append_right _ (List.mem_append_right _ (List.mem_append_right _ (List.mem_append_right _ (List.mem_append_right _ (List.mem_append_right _ (List.mem_append_right _ (List.mem_append_right _ (List.mem_append_right _ (List.mem_append_right _ (List.mem_append_right _ (List.mem_append_right _ (List.mem_append_right _ (List.mem_append_right _ (List.mem_append_right _ (List.mem_append_right _ (List.mem_append_right _ (List.mem_append_right _ (List.mem_append_right _ (List.mem_append_right _ (List.mem_append_left _ h))))))))))))))))))))))))))))))
theorem wlg_22 : ∀ w ∈ wsL_law_r22, (w.onTables && w.keeps) = true ∨ ∃ ty, w = .arrayClass ty := fun w h => good_of_word (List.all_eq_true.mp (show wsL_law_r22.all goodWord = true by decide +kernel) w h)
theorem wlc_23 : ∀ w ∈ wsL_law_r23, w ∈ wsL_law := fun _ h => List.mem_append_left _ (List.mem_append_left _ (List.mem_append_left _ (List.mem_append_left _ (List.mem_append_left _ (List.mem_append_left _ (List.mem_append_left _ (List.mem_append_left _ (List.mem_append_left _ (List.mem_append_right _ (List.mem_append_right _ (List.mem_append_right _ (List.mem_append_right _ (List.mem_append_right _ (List.mem_append_right _ (List.mem_append_right _ (List.mem_append_right _ (List.mem_append_right _ (List.mem_append_right _ (List.mem_append_right _ (List.mem_append_right _ (List.mem_append_right _ (List.mem_append_right _ (List.mem_append_right _ (List.mem_append_right _ (List.mem_append_right _ (List.mem_append_right _ (List.mem_append_right _ (List.mem_append_right _ (List.mem_append_right _ (List.mem_append_right _ (List.mem_append_left _ h)))))))))))))))))))))))))))))))
theorem wlg_23 : ∀ w ∈ wsL_law_r23, (w.onTables && w.keeps) = true ∨ ∃ ty, w = .arrayClass ty := fun w h => good_of_word (List.all_eq_true.mp (show wsL_law_r23.all goodWord = true by decide +kernel) w h)
theorem wlc_24 : ∀ w ∈ wsL_law_r24, w ∈ wsL_law := fun _ h => List.mem_append_left _ (List.mem_append_left _ (List.mem_append_left _ (List.mem_append_left _ (List.mem_append_left _ (List.mem_append_left _ (List.mem_append_left _ (List.mem_append_left _ (List.mem_append_left _ (List.mem_append_right _ (List.mem_append_right _ (List.mem_append_right _ (List.mem_append_right _ (List.mem_append_right _ (List.mem_append_right _ (List.mem_append_right _ (List.mem_append_right _ (List.mem_append_right _ (List.mem_append_right _ (List.mem_append_right _ (List.mem_append_right _ (List.mem_append_right _ (List.mem_append_right _ (List.mem_append_right _ (List.mem_append_right _ (List.mem_append_right _ (List.mem_append_right _ (List.mem_append_right _ (List.mem_append_right _ (List.mem_append_right _ (List.mem_append_right _ (List.mem_append_right _ (List.mem_append_left _ h))))))))))))))))))))))))))))))))
theorem wlg_24 : ∀ w ∈ wsL_law_r24, (w.onTables && w.keeps) = true ∨ ∃ ty, w = .arrayClass ty := fun w h => good_of_word (List.all_eq_true.mp (show wsL_law_r24.all goodWord = true by decide +kernel) w h)
theorem wlc_25 : ∀ w ∈ wsL_law_r25, w ∈ wsL_law := fun _ h => List.mem_append_left _ (List.mem_append_left _ (List.mem_append_left _ (List.mem_append_left _ (List.mem_append_left _ (List.mem_append_left _ (List.mem_append_left _ (List.mem_append_left _ (List.mem_append_left _ (List.mem_append_right _ (List.mem_append_right _ (List.mem_append_right _ (List.mem_append_right _ (List.mem_append_right _ (List.mem_append_right _ (List.mem_append_right _ (List.mem_append_right _ (List.mem_append_right _ (List.mem_append_right _ (List.mem_append_right _ (List.mem_append_right _ (List.mem_append_right _ (List.mem_append_right _ (List.mem_append_right _ (List.mem_append_right _ (List.mem_append_right _ (List.mem_append_right _ (List.mem_append_right _ (List.mem_append_right _ (List.mem_append_right _ (List.mem_append_right _ (List.mem_append_right _ (List.mem_append_right _ (List.mem_append_left _ h)))))))))))))))))))))))))))))))))
theorem wlg_25 : ∀ w ∈ wsL_law_r25, (w.onTables && w.keeps) = true ∨ ∃ ty, w = .arrayClass ty := fun w h => good_of_word (List.all_eq_true.mp (show wsL_law_r25.all goodWord = true by decide +kernel) w h)
theorem wlc_26 : ∀ w ∈ wsL_law_r26, w ∈ wsL_law := fun _ h => List.mem_append_left _ (List.mem_append_left _ (List.mem_append_left _ (List.mem_append_left _ (List.mem_append_left _ (List.mem_append_left _ (List.mem_append_left _ (List.mem_append_left _ (List.mem_append_left _ (List.mem_append_right _ (List.mem_append_right _ (List.mem_append_right _ (List.mem_append_right _ (List.mem_append_right _ (List.mem_append_right _ (List.mem_append_right _ (List.mem_append_right _ (List.mem_append_right _ (List.mem_append_right _ (List.mem_append_right _ (List.mem_append_right _ (List.mem_append_right _ (List.mem_append_right _ (List.mem_append_right _ (List.mem_append_right _ (List.mem_append_right _ (List.mem_append_right _ (List.mem_append_right _ (List.mem_append_right _ (List.mem_append_right _ (List.mem_append_right _ (List.mem_append_right _ (List.mem_append_right _ (List.mem_append_right _ (List.mem_append_left _ h))))))))))))))))))))))))))))))))))
theorem wlg_26 : ∀ w ∈ wsL_law_r26, (w.onTables && w.keeps) = true ∨ ∃ ty, w = .arrayClass ty := fun w h => good_of_word (List.all_eq_true.mp (show wsL_law_r26.all goodWord = true by decide +kernel) w h)
theorem wlc_27 : ∀ w ∈ wsL_law_r27, w ∈ wsL_law := fun _ h => List.mem_append_left _ (List.mem_append_left _ (List.mem_append_left _ (List.mem_append_left _ (List.mem_append_left _ (List.mem_append_left _ (List.mem_append_left _ (List.mem_append_left _ (List.mem_append_left _ (List.mem_append_right _ (List.mem_append_right _ (List.mem_append_right _ (List.mem_append_right _ (List.mem_append_right _ (List.mem_append_right _ (List.mem_append_right _ (List.mem_append_right _ (List.mem_append_right _ (List.mem_append_right _ (List.mem_append_right _ (List.mem_append_right _ (List.mem_append_right _ (List.mem_append_right _ (List.mem_append_right _ (List.mem_append_right _ (List.mem_append_right _ (List.mem_append_right _ (List.mem_append_right _ (List.mem_append_right _ (List.mem_append_right _ (List.mem_append_right _ (List.mem_append_right _ (List.mem_append_right _ (List.mem_append_right _ (List.mem_append_right _ (List.mem_append_left _ h)))))))))))))))))))))))))))))))))))
theorem wlg_27 : ∀ w ∈ wsL_law_r27, (w.onTables && w.keeps) = true ∨ ∃ ty, w = .arrayClass ty := fun w h => good_of_word (List.all_eq_true.mp (show wsL_law_r27.all goodWord = true by decide +kernel) w h)
theorem wlc_28 : ∀ w ∈ wsL_law_r28, w ∈ wsL_law := fun _ h => List.mem_append_left _ (List.mem_append_left _ (List.mem_append_left _ (List.mem_append_left _ (List.mem_append_left _ (List.mem_append_left _ (List.mem_append_left _ (List.mem_append_left _ (List.mem_append_left _ (List.mem_append_right _ (List.mem_append_right _ (List.mem_append_right _ (List.mem_append_right _ (List.mem_append_right _ (List.mem_append_right _ (List.mem_append_right _ (List.mem_append_right _ (List.mem_append_right _ (List.mem_append_right _ (List.mem_append_right _ (List.mem_append_right _ (List.mem_append_right _ (List.mem_append_right _ (List.mem_append_right _ (List.mem_append_right _ (List.mem_append_right _ (List.mem_append_right _ (List.mem_append_right _ (List.mem_append_right _ (List.mem_append_right _ (List.mem_append_right _ (List.mem_append_right _ (List.mem_append_right _ (List.mem_append_right _ (List.mem_append_right _ (List.mem_append_right _ (List.mem_append_left _ h))))))))))))))))))))))))))))))))))))
theorem wlg_28 : ∀ w ∈ wsL_law_r28, (w.onTables && w.keeps) = true ∨ ∃ ty, w = .arrayClass ty := fun w h => good_of_word (List.all_eq_true.mp (show wsL_law_r28.all goodWord = true by decide +kernel) w h)
theorem wlc_29 : ∀ w ∈ wsL_law_r29, w ∈ wsL_law := fun _ h => List.mem_append_left _ (List.mem_append_left _ (List.mem_append_left _ (List.mem_append_left _ (List.mem_append_left _ (List.mem_append_left _ (List.mem_append_left _ (List.mem_append_left _ (List.mem_append_left _ (List.mem_append_right _ (List.mem_append_right _ (List.mem_append_right _ (List.mem_append_right _ (List.mem_append_right _ (List.mem_append_right _ (List.mem_append_right _ (List.mem_append_right _ (List.mem_append_right _ (List.mem_append_right _ (List.mem_append_right _ (List.mem_append_right _ (List.mem_append_right _ (List.mem_append_right _ (List.mem_append_right _ (List.mem_append_right _ (List.mem_append_right _ (List.mem_append_right _ (List.mem_append_right _ (List.mem_append_right _ (List.mem_append_right _ (List.mem_append_right _ (List.mem_append_right _ (List.mem_append_right _ (List.mem_append_right _ (List.mem_append_right _ (List.mem_append_right _ (List.mem_append_right _ (List.mem_append_left _ h)))))))))))))))))))))))))))))))))))))
theorem wlg_29 : ∀ w ∈ wsL_law_r29, (w.onTables && w.keeps) = true ∨ ∃ ty, w = .arrayClass ty := fun w h => good_of_word (List.all_eq_true.mp (show wsL_law_r29.all goodWord = true by decide +kernel) w h)
theorem wlc_30 : ∀ w ∈ wsL_law_r30, w ∈ wsL_law := fun _ h => List.mem_append_left _ (List.mem_append_left _ (List.mem_append_left _ (List.mem_append_left _ (List.mem_append_left _ (List.mem_append_left _ (List.mem_append_left _ (List.mem_append_left _ (List.mem_append_left _ (List.mem_append_right _ (List.mem_append_right _ (List.mem_append_right _ (List.mem_append_right _ (List.mem_append_right _ (List.mem_append_right _ (List.mem_append_right _ (List.mem_append_right _ (List.mem_append_right _ (List.mem_append_right _ (List.mem_append_right _ (List.mem_append_right _ (List.mem_append_right _ (List.mem_append_right _ (List.mem_append_right _ (List.mem_append_right _ (List.mem_append_right _ (List.mem_append_right _ (List.mem_append_right _ (List.mem_append_right _ (List.mem_append_right _ (List.mem_append_right _ (List.mem_append_right _ (List.mem_append_right _ (List.mem_append_right _ (List.mem_append_right _ (List.mem_append_right _ (List.mem_append_right _ (List.mem_append_right _ (List.mem_append_left _ h))))))))))))))))))))))))))))))))))))))
theorem wlg_30 : ∀ w ∈ wsL_law_r30, (w.onTables && w.keeps) = true ∨ ∃ ty, w = .arrayClass ty := fun w h => good_of_word (List.all_eq_true.mp (show wsL_law_r30.all goodWord = true by decide +kernel) w h)
theorem wlc_31 : ∀ w ∈ wsL_law_r31, w ∈ wsL_law := fun _ h => List.mem_append_left _ (List.mem_append_left _ (List.mem_append_left _ (List.mem_append_left _ (List.mem_append_left _ (List.mem_append_left _ (List.mem_append_left _ (List.mem_append_left _ (List.mem_append_left _ (List.mem_append_right _ (List.mem_append_right _ (List.mem_append_right _ (List.mem_append_right _ (List.mem_append_right _ (List.mem_append_right _ (List.mem_append_right _ (List.mem_append_right _ (List.mem_append_right _ (List.mem_append_right _ (List.mem_append_right _ (List.mem_append_right _ (List.mem_append_right _ (List.mem_append_right _ (List.mem_append_right _ (List.mem_append_right _ (List.mem_append_right _ (List.mem_append_right _ (List.mem_append_right _ (List.mem_append_right _ (List.mem_append_right _ (List.mem_append_right _ (List.mem_append_right _ (List.mem_append_right _ (List.mem_append_right _ (List.mem_append_right _ (List.mem_append_right _ (List.mem_append_right _ (List.mem_append_right _ (List.mem_append_right _ (List.mem_append_left _ h)))))))))))))))))))))))))))))))))))))))
theorem wlg_31 : ∀ w ∈ wsL_law_r31, (w.onTables && w.keeps) = true ∨ ∃ ty, w = .arrayClass ty := fun w h => good_of_word (List.all_eq_true.mp (show wsL_law_r31.all goodWord = true by decide +kernel) w h)
theorem wlc_32 : ∀ w ∈ wsL_law_r32, w ∈ wsL_law := fun _ h => List.mem_append_left _ (List.mem_append_left _ (List.mem_append_left _ (List.mem_append_left _ (List.mem_append_left _ (List.mem_append_left _ (List.mem_append_left _ (List.mem_append_left _ (List.mem_append_left _ (List.mem_append_right _ (List.mem_append_right _ (List.mem_append_right _ (List.mem_append_right _ (List.mem_append_right _ (List.mem_append_right _ (List.mem_append_right _ (List.mem_append_right _ (List.mem_append_right _ (List.mem_append_right _ (List.mem_append_right _ (List.mem_append_right _ (List.mem_append_right _ (List.mem_append_right _ (List.mem_append_right _ (List.mem_append_right _ (List.mem_append_right _ (List.mem_append_right _ (List.mem_append_right _ (List.mem_append_right _ (List.mem_append_right _ (List.mem_append_right _ (List.mem_append_right _ (List.mem_append_right _ (List.mem_append_right _ (List.mem_append_right _ (List.mem_append_right _ (List.mem_append_right _ (List.mem_append_right _ (List.mem_append_right _ (List.mem_append_right _ (List.mem_append_left _ h))))))))))))))))))))))))))))))))))))))))
theorem wlg_32 : ∀ w ∈ wsL_law_r32, (w.onTables && w.keeps) = true ∨ ∃ ty, w = .arrayClass ty := fun w h => good_of_word (List.all_eq_true.mp (show wsL_law_r32.all goodWord = true by decide +kernel) w h)
theorem wlc_33 : ∀ w ∈ wsL_law_r33, w ∈ wsL_law := fun _ h => List.mem_append_left _ (List.mem_append_left _ (List.mem_append_left _ (List.mem_append_left _ (List.mem_append_left _ (List.mem_append_left _ (List.mem_append_left _ (List.mem_append_left _ (List.mem_append_left _ (List.mem_append_right _ (List.mem_append_right _ (List.mem_append_right _ (List.mem_append_right _ (List.mem_append_right _ (List.mem_append_right _ (List.mem_append_right _ (List.mem_append_right _ (List.mem_append_right _ (List.mem_append_right _ (List.mem_append_right _ (List.mem_append_right _ (List.mem_append_right _ (List.mem_append_right _ (List.mem_append_right _ (List.mem_append_right _ (List.mem_append_right _ (List.mem_append_right _ (List.mem_append_right _ (List.mem_append_right _ (List.mem_append_right _ (List.mem_append_right _ (List.mem_append_right _ (List.mem_append_right _ (List.mem_append_right _ (List.mem_append_right _ (List.mem_append_right _ (List.mem_append_right _ (List.mem_append_right _ (List.mem_append_right _ (List.mem_append_right _ (List.mem_append_right _ (List.mem_append_left _ h)))))))))))))))))))))))))))))))))))))))))
theorem wlg_33 : ∀ w ∈ wsL_law_r33, (w.onTables && w.keeps) = true ∨ ∃ ty, w = .arrayClass ty := fun w h => good_of_word (List.all_eq_true.mp (show wsL_law_r33.all goodWord = true by decide +kernel) w h)
theorem wlc_34 : ∀ w ∈ wsL_law_r34, w ∈ wsL_law := fun _ h => List.mem_append_left _ (List.mem_append_left _ (List.mem_append_left _ (List.mem_append_left _ (List.mem_append_left _ (List.mem_append_left _ (List.mem_append_left _ (List.mem_append_left _ (List.mem_append_left _ (List.mem_append_right _ (List.mem_append_right _ (List.mem_append_right _ (List.mem_append_right _ (List.mem_append_right _ (List.mem_append_right _ (List.mem_append_right _ (List.mem_append_right _ (List.mem_append_right _ (List.mem_append_right _ (List.mem_append_right _ (List.mem_append_right _ (List.mem_append_right _ (List.mem_append_right _ (List.mem_append_right _ (List.mem_append_right _ (List.mem_append_right _ (List.mem_append_right _ (List.mem_append_right _ (List.mem_append_right _ (List.mem_append_right _ (List.mem_append_right _ (List.mem_append_right _ (List.mem_append_right _ (List.mem_append_right _ (List.mem_append_right _ (List.mem_append_right _ (List.mem_append_right _ (List.mem_append_right _ (List.mem_append_right _ (List.mem_append_right _ (List.mem_append_right _ (List.mem_append_right _ (List.mem_append_left _ h))))))))))))))))))))))))))))))))))))))))))
theorem wlg_34 : ∀ w ∈ wsL_law_r34, (w.onTables && w.keeps) = true ∨ ∃ ty, w = .arrayClass ty := fun w h => good_of_word (List.all_eq_true.mp (show wsL_law_r34.all goodWord = true by decide +kernel) w h)
theorem wlc_35 : ∀ w ∈ wsL_law_r35, w ∈ wsL_law := fun _ h => List.mem_append_left _ (List.mem_append_left _ (List.mem_append_left _ (List.mem_append_left _ (List.mem_append_left _ (List.mem_append_left _ (List.mem_append_left _ (List.mem_append_left _ (List.mem_append_left _ (List.mem_append_right _ (List.mem_append_right _ (List.mem_append_right _ (List.mem_append_right _ (List.mem_append_right _ (List.mem_append_right _ (List.mem_append_right _ (List.mem_append_right _ (List.mem_append_right _ (List.mem_append_right _ (List.mem_append_right _ (List.mem_append_right _ (List.mem_append_right _ (List.mem_append_right _ (List.mem_append_right _ (List.mem_append_right _ (List.mem_append_right _ (List.mem_append_right _ (List.mem_append_right _ (List.mem_append_right _ (List.mem_append_right _ (List.mem_append_right _ (List.mem_append_right _ (List.mem_append_right _ (List.mem_append_right _ (List.mem_append_right _ (List.mem_append_right _ (List.mem_append_right _ (List.mem_append_right _ (List.mem_append_right _ (List.mem_append_right _ (List.mem_append_right _ (List.mem_append_right _ (List.mem_append_right _ (List.mem_append_left _ h)))))))))))))))))))))))))))))))))))))))))))
theorem wlg_35 : ∀ w ∈ wsL_law_r35, (w.onTables && w.keeps) = true ∨ ∃ ty, w = .arrayClass ty := fun w h => good_of_word (List.all_eq_true.mp (show wsL_law_r35.all goodWord = true by decide +kernel) w h)
theorem wlc_36 : ∀ w ∈ wsL_law_r36, w ∈ wsL_law := fun _ h => List.mem_append_left _ (List.mem_append_left _ (List.mem_append_left _ (List.mem_append_left _ (List.mem_append_left _ (List.mem_append_left _ (List.mem_append_left _ (List.mem_append_left _ (List.mem_append_left _ (List.mem_append_right _ (List.mem_append_right _ (List.mem_append_right _ (List.mem_append_right _ (List.mem_append_right _ (List.mem_append_right _ (List.mem_append_right _ (List.mem_append_right _ (List.mem_append_right _ (List.mem_append_right _ (List.mem_append_right _ (List.mem_append_right _ (List.mem_append_right _ (List.mem_append_right _ (List.mem_append_right _ (List.mem_append_right _ (List.mem_append_right _ (List.mem_append_right _ (List.mem_append_right _ (List.mem_append_right _ (List.mem_append_right _ (List.mem_append_right _ (List.mem_append_right _ (List.mem_append_right _ (List.mem_append_right _ (List.mem_append_right _ (List.mem_append_right _ (List.mem_append_right _ (List.mem_append_right _ (List.mem_append_right _ (List.mem_append_right _ (List.mem_append_right _ (List.mem_append_right _ (List.mem_append_right _ (List.mem_append_right _ (List.mem_append_left _ h))))))))))))))))))))))))))))))))))))))))))))
theorem wlg_36 : ∀ w ∈ wsL_law_r36, (w.onTables && w.keeps) = true ∨ ∃ ty, w = .arrayClass ty := fun w h => good_of_word (List.all_eq_true.mp (show wsL_law_r36.all goodWord = true by decide +kernel) w h)
theorem wlc_37 : ∀ w ∈ wsL_law_r37, w ∈ wsL_law := fun _ h => List.mem_append_left _ (List.mem_append_left _ (List.mem_append_left _ (List.mem_append_left _ (List.mem_append_left _ (List.mem_append_left _ (List.mem_append_left _ (List.mem_append_left _ (List.mem_append_left _ (List.mem_append_right _ (List.mem_append_right _ (List.mem_append_right _ (List.mem_append_right _ (List.mem_append_right _ (List.mem_append_right _ (List.mem_append_right _ (List.mem_append_right _ (List.mem_append_right _ (List.mem_append_right _ (List.mem_append_right _ (List.mem_append_right _ (List.mem_append_right _ (List.mem_append_right _ (List.mem_append_right _ (List.mem_append_right _ (List.mem_append_right _ (List.mem_append_right _ (List.mem_append_right _ (List.mem_append_right _ (List.mem_append_right _ (List.mem_append_right _ (List.mem_append_right _ (List.mem_append_right _ (List.mem_append_right _ (List.mem_append_right _ (List.mem_append_right _ (List.mem_append_right _ (List.mem_append_right _ (List.mem_append_right _ (List.mem_append_right _ (List.mem_append_right _ (List.mem_append_right _ (List.mem_append_right _ (List.mem_append_right _ (List.mem_append_right _ (List.mem_append_left _ h)))))))))))))))))))))))))))))))))))))))))))))
theorem wlg_37 : ∀ w ∈ wsL_law_r37, (w.onTables && w.keeps) = true ∨ ∃ ty, w = .arrayClass ty := fun w h => good_of_word (List.all_eq_true.mp (show wsL_law_r37.all goodWord = true by decide +kernel) w h)
theorem wlc_38 : ∀ w ∈ wsL_law_r38, w ∈ wsL_law := fun _ h => List.mem_append_left _ (List.mem_append_left _ (List.mem_append_left _ (List.mem_append_left _ (List.mem_append_left _ (List.mem_append_left _ (List.mem_append_left _ (List.mem_append_left _ (List.mem_append_left _ (List.mem_append_right _ (List.mem_append_right _ (List.mem_append_right _ (List.mem_append_right _ (List.mem_append_right _ (List.mem_append_right _ (List.mem_append_right _ (List.mem_append_right _ (List.mem_append_right _ (List.mem_append_right _ (List.mem_append_right _ (List.mem_append_right _ (List.mem_append_right _ (List.mem_append_right _ (List.mem_append_right _ (List.mem_append_right _ (List.mem_append_right _ (List.mem_append_right _ (List.mem_append_right _ (List.mem_append_right _ (List.mem_append_right _ (List.mem_append_right _ (List.mem_append_right _ (List.mem_append_right _ (List.mem_append_right _ (List.mem_append_right _ (List.mem_append_right _ (List.mem_append_right _ (List.mem_append_right _ (List.mem_append_right _ (List.mem_append_right _ (List.mem_append_right _ (List.mem_append_right _ (List.mem_append_right _ (List.mem_append_right _ (List.mem_append_right _ (List.mem_append_right _ (List.mem_append_left _ h))))))))))))))))))))))))))))))))))))))))))))))
theorem wlg_38 : ∀ w ∈ wsL_law_r38, (w.onTables && w.keeps) = true ∨ ∃ ty, w = .arrayClass ty := fun w h => good_of_word (List.all_eq_true.mp (show wsL_law_r38.all goodWord = true by decide +kernel) w h)
theorem wlc_39 : ∀ w ∈ wsL_law_r39, w ∈ wsL_law := fun _ h => List.mem_append_left _ (List.mem_append_left _ (List.mem_append_left _ (List.mem_append_left _ (List.mem_append_left _ (List.mem_append_left _ (List.mem_append_left _ (List.mem_append_left _ (List.mem_append_left _ (List.mem_append_right _ (List.mem_append_right _ (List.mem_append_right _ (List.mem_append_right _ (List.mem_append_right _ (List.mem_append_right _ (List.mem_append_right _ (List.mem_append_right _ (List.mem_append_right _ (List.mem_append_right _ (List.mem_append_right _ (List.mem_append_right _ (List.mem_append_right _ (List.mem_append_right _ (List.mem_append_right _ (List.mem_append_right _ (List.mem_append_right _ (List.mem_append_right _ (List.mem_append_right _ (List.mem_append_right _ (List.mem_append_right _ (List.mem_append_right _ (List.mem_append_right _ (List.mem_append_right _ (List.mem_append_right _ (List.mem_append_right _ (List.mem_append_right _ (List.mem_append_right _ (List.mem_append_right _ (List.mem_append_right _ (List.mem_append_right _ (List.mem_append_right _ (List.mem_append_right _ (List.mem_append_right _ (List.mem_append_right _ (List.mem_append_right _ (List.mem_append_right _ (List.mem_append_right _ (List.mem_append_left _ h)))))))))))))))))))))))))))))))))))))))))))))))
theorem wlg_39 : ∀ w ∈ wsL_law_r39, (w.onTables && w.keeps) = true ∨ ∃ ty, w = .arrayClass ty := fun w h => good_of_word (List.all_eq_true.mp (show wsL_law_r39.all goodWord = true by decide +kernel) w h)
theorem wlc_40 : ∀ w ∈ wsL_law_r40, w ∈ wsL_law := fun _ h => List.mem_append_left _ (List.mem_append_left _ (List.mem_append_left _ (List.mem_append_left _ (List.mem_append_left _ (List.mem_append_left _ (List.mem_append_left _ (List.mem_append_left _ (List.mem_append_left _ (List.mem_append_right _ (List.mem_append_right _ (List.mem_append_right _ (List.mem_append_right _ (List.mem_append_right _ (List.mem_append_right _ (List.mem_append_right _ (List.mem_append_right _ (List.mem_append_right _ (List.mem_append_right _ (List.mem_append_right _ (List.mem_append_right _ (List.mem_append_right _ (List.mem_append_right _ (List.mem_append_right _ (List.mem_append_right _ (List.mem_append_right _ (List.mem_append_right _ (List.mem_append_right _ (List.mem_append_right _ (List.mem_append_right _ (List.mem_append_right _ (List.mem_append_right _ (List.mem_append_right _ (List.mem_append_right _ (List.mem_append_right _ (List.mem_append_right _ (List.mem_append_right _ (List.mem_append_right _ (List.mem_append_right _ (List.mem_append_right _ (List.mem_append_right _ (List.mem_append_right _ (List.mem_append_right _ (List.mem_append_right _ (List.mem_append_right _ (List.mem_append_right _ (List.mem_append_right _ (List.mem_append_right _ (List.mem_append_left _ h))))))))))))))))))))))))))))))))))))))))))))))))
theorem wlg_40 : ∀ w ∈ wsL_law_r40, (w.onTables && w.keeps) = true ∨ ∃ ty, w = .arrayClass ty := fun w h => good_of_word (List.all_eq_true.mp (show wsL_law_r40.all goodWord = true by decide +kernel) w h)
theorem wlc_41 : ∀ w ∈ wsL_law_r41, w ∈ wsL_law := fun _ h => List.mem_append_left _ (List.mem_append_left _ (List.mem_append_left _ (List.mem_append_left _ (List.mem_append_left _ (List.mem_append_left _ (List.mem_append_left _ (List.mem_append_left _ (List.mem_append_left _ (List.mem_append_right _ (List.mem_append_right _ (List.mem_append_right _ (List.mem_append_right _ (List.mem_append_right _ (List.mem_append_right _ (List.mem_append_right _ (List.mem_append_right _ (List.mem_append_right _ (List.mem_append_right _ (List.mem_append_right _ (List.mem_append_right _ (List.mem_append_right _ (List.mem_append_right _ (List.mem_append_right _ (List.mem_append_right _ (List.mem_append_right _ (List.mem_append_right _ (List.mem_append_right _ (List.mem_append_right _ (List.mem_append_right _ (List.mem_append_right _ (List.mem_append_right _ (List.mem_append_right _ (List.mem_append_right _ (List.mem_append_right _ (List.mem_append_right _ (List.mem_append_right _ (List.mem_append_right _ (List.mem_append_right _ (List.mem_append_right _ (List.mem_append_right _ (List.mem_append_right _ (List.mem_append_right _ (List.mem_append_right _ (List.mem_append_right _ (List.mem_append_right _ (List.mem_append_right _ (List.mem_append_right _ (List.mem_append_right _ (List.mem_append_left _ h)))))))))))))))))))))))))))))))))))))))))))))))))
theorem wlg_41 : ∀ w ∈ wsL_law_r41, (w.onTables && w.keeps) = true ∨ ∃ ty, w = .arrayClass ty := fun w h => good_of_word (List.all_eq_true.mp (show wsL_law_r41.all goodWord = true by decide +kernel) w h)
theorem wlc_42 : ∀ w ∈ wsL_law_r42, w ∈ wsL_law := fun _ h => List.mem_append_left _ (List.mem_append_left _ (List.mem_append_left _ (List.mem_append_left _ (List.mem_append_left _ (List.mem_append_left _ (List.mem_append_left _ (List.mem_append_left _ (List.mem_append_left _ (List.mem_append_right _ (List.mem_append_right _ (List.mem_append_right _ (List.mem_append_right _ (List.mem_append_right _ (List.mem_append_right _ (List.mem_append_right _ (List.mem_append_right _ (List.mem_append_right _ (List.mem_append_right _ (List.mem_append_right _ (List.mem_append_right _ (List.mem_append_right _ (List.mem_append_right _ (List.mem_append_right _ (List.mem_append_right _ (List.mem_append_right _ (List.mem_append_right _ (List.mem_append_right _ (List.mem_append_right _ (List.mem_append_right _ (List.mem_append_right _ (List.mem_append_right _ (List.mem_append_right _ (List.mem_append_right _ (List.mem_append_right _ (List.mem_append_right _ (List.mem_append_right _ (List.mem_append_right _ (List.mem_append_right _ (List.mem_append_right _ (List.mem_append_right _ (List.mem_append_right _ (List.mem_append_right _ (List.mem_append_right _ (List.mem_append_right _ (List.mem_append_right _ (List.mem_append_right _ (List.mem_append_right _ (List.mem_append_right _ (List.mem_append_right _ (List.mem_append_left _ h))))))))))))))))))))))))))))))))))))))))))))))))))
theorem wlg_42 : ∀ w ∈ wsL_law_r42, (w.onTables && w.keeps) = true ∨ ∃ ty, w = .arrayClass ty := fun w h => good_of_word (List.all_eq_true.mp (show wsL_law_r42.all goodWord = true by decide +kernel) w h)
theorem wlc_43 : ∀ w ∈ wsL_law_r43, w ∈ wsL_law := fun _ h => List.mem_append_left _ (List.mem_append_left _ (List.mem_append_left _ (List.mem_append_left _ (List.mem_append_left _ (List.mem_append_left _ (List.mem_append_left _ (List.mem_append_left _ (List.mem_append_left _ (List.mem_append_right _ (List.mem_append_right _ (List.mem_append_right _ (List.mem_append_right _ (List.mem_append_right _ (List.mem_append_right _ (List.mem_append_right _ (List.mem_append_right _ (List.mem_append_right _ (List.mem_append_right _ (List.mem_append_right _ (List.mem_append_right _ (List.mem_append_right _ (List.mem_append_right _ (List.mem_append_right _ (List.mem_append_right _ (List.mem_append_right _ (List.mem_append_right _ (List.mem_append_right _ (List.mem_append_right _ (List.mem_append_right _ (List.mem_append_right _ (List.mem_append_right _ (List.mem_append_right _ (List.mem_append_right _ (List.mem_append_right _ (List.mem_append_right _ (List.mem_append_right _ (List.mem_append_right _ (List.mem_append_right _ (List.mem_append_right _ (List.mem_append_right _ (List.mem_append_right _ (List.mem_append_right _ (List.mem_append_right _ (List.mem_append_right _ (List.mem_append_right _ (List.mem_append_right _ (List.mem_append_right _ (List.mem_append_right _ (List.mem_append_right _ (List.mem_append_right _ (List.mem_append_left _ h)))))))))))))))))))))))))))))))))))))))))))))))))))
theorem wlg_43 : ∀ w ∈ wsL_law_r43, (w.onTables && w.keeps) = true ∨ ∃ ty, w = .arrayClass ty := fun w h => good_of_word (List.all_eq_true.mp (show wsL_law_r43.all goodWord = true by decide +kernel) w h)
theorem wlc_44 : ∀ w ∈ wsL_law_r44, w ∈ wsL_law := fun _ h => List.mem_append_left _ (List.mem_append_left _ (List.mem_append_left _ (List.mem_append_left _ (List.mem_append_left _ (List.mem_append_left _ (List.mem_append_left _ (List.mem_append_left _ (List.mem_append_left _ (List.mem_append_right _ (List.mem_append_right _ (List.mem_append_right _ (List.mem_append_right _ (List.mem_append_right _ (List.mem_append_right _ (List.mem_append_right _ (List.mem_append_right _ (List.mem_append_right _ (List.mem_append_right _ (List.mem_append_right _ (List.mem_append_right _ (List.mem_append_right _ (List.mem_append_right _ (List.mem_append_right _ (List.mem_append_right _ (List.mem_append_right _ (List.mem_append_right _ (List.mem_append_right _ (List.mem_append_right _ (List.mem_append_right _ (List.mem_append_right _ (List.mem_append_right _ (List.mem_append_right _ (List.mem_append_right _ (List.mem_append_right _ (List.mem_append_right _ (List.mem_append_right _ (List.mem_append_right _ (List.mem_append_right _ (List.mem_append_right _ (List.mem_append_right _ (List.mem_append_right _ (List.mem_append_right _ (List.mem_append_right _ (List.mem_append_right _ (List.mem_append_right _ (List.mem_append_right _ (List.mem_append_right _ (List.mem_append_right _ (List.mem_append_right _ (List.mem_append_right _ (List.mem_append_right _ (List.mem_append_left _ h))))))))))))))))))))))))))))))))))))))))))))))))))))
theorem wlg_44 : ∀ w ∈ wsL_law_r44, (w.onTables && w.keeps) = true ∨ ∃ ty, w = .arrayClass ty := fun w h => good_of_word (List.all_eq_true.mp (show wsL_law_r44.all goodWord = true by decide +kernel) w h)
theorem wlc_45 : ∀ w ∈ wsL_law_r45, w ∈ wsL_law := fun _ h => List.mem_append_left _ (List.mem_append_left _ (List.mem_append_left _ (List.mem_append_left _ (List.mem_append_left _ (List.mem_append_left _ (List.mem_append_left _ (List.mem_append_left _ (List.mem_append_left _ (List.mem_append_right _ (List.mem_append_right _ (List.mem_append_right _ (List.mem_append_right _ (List.mem_append_right _ (List.mem_append_right _ (List.mem_append_right _ (List.mem_append_right _ (List.mem_append_right _ (List.mem_append_right _ (List.mem_append_right _ (List.mem_append_right _ (List.mem_append_right _ (List.mem_append_right _ (List.mem_append_right _ (List.mem_append_right _ (List.mem_append_right _ (List.mem_append_right _ (List.mem_append_right _ (List.mem_append_right _ (List.mem_append_right _ (List.mem_append_right _ (List.mem_append_right _ (List.mem_append_right _ (List.mem_append_right _ (List.mem_append_right _ (List.mem_append_right _ (List.mem_append_right _ (List.mem_append_right _ (List.mem_append_right _ (List.mem_append_right _ (List.mem_append_right _ (List.mem_append_right _ (List.mem_append_right _ (List.mem_append_right _ (List.mem_append_right _ (List.mem_append_right _ (List.mem_append_right _ (List.mem_append_right _ (List.mem_append_right _ (List.mem_append_right _ (List.mem_append_right _ (List.mem_append_right _ (List.mem_append_right _ (List.mem_append_left _ h)))))))))))))))))))))))))))))))))))))))))))))))))))))
theorem wlg_45 : ∀ w ∈ wsL_law_r45, (w.onTables && w.keeps) = true ∨ ∃ ty, w = .arrayClass ty := fun w h => good_of_word (List.all_eq_true.mp (show wsL_law_r45.all goodWord = true by decide +kernel) w h)
theorem wlc_46 : ∀ w ∈ wsL_law_r46, w ∈ wsL_law := fun _ h => List.mem_append_left _ (List.mem_append_left _ (List.mem_append_left _ (List.mem_append_left _ (List.mem_append_left _ (List.mem_append_left _ (List.mem_append_left _ (List.mem_append_left _ (List.mem_append_left _ (List.mem_append_right _ (List.mem_append_right _ (List.mem_append_right _ (List.mem_append_right _ (List.mem_append_right _ (List.mem_append_right _ (List.mem_append_right _ (List.mem_append_right _ (List.mem_append_right _ (List.mem_append_right _ (List.mem_append_right _ (List.mem_append_right _ (List.mem_append_right _ (List.mem_append_right _ (List.mem_append_right _ (List.mem_append_right _ (List.mem_append_right _ (List.mem_append_right _ (List.mem_append_right _ (List.mem_append_right _ (List.mem_append_right _ (List.mem_append_right _ (List.mem_append_right _ (List.mem_append_right _ (List.mem_append_right _ (List.mem_append_right _ (List.mem_append_right _ (List.mem_append_right _ (List.mem_append_right _ (List.mem_append_right _ (List.mem_append_right _ (List.mem_append_right _ (List.mem_append_right _ (List.mem_append_right _ (List.mem_append_right _ (List.mem_append_right _ (List.mem_append_right _ (List.mem_append_right _ (List.mem_append_right _ (List.mem_append_right _ (List.mem_append_right _ (List.mem_append_right _ (List.mem_append_right _ (List.mem_append_right _ (List.mem_append_right _ (List.mem_append_left _ h))))))))))))))))))))))))))))))))))))))))))))))))))))))
theorem wlg_46 : ∀ w ∈ wsL_law_r46, (w.onTables && w.keeps) = true ∨ ∃ ty, w = .arrayClass ty := fun w h => good_of_word (List.all_eq_true.mp (show wsL_law_r46.all goodWord = true by decide +kernel) w h)
theorem wlc_47 : ∀ w ∈ wsL_law_r47, w ∈ wsL_law := fun _ h => List.mem_append_left _ (List.mem_append_left _ (List.mem_append_left _ (List.mem_append_left _ (List.mem_append_left _ (List.mem_append_left _ (List.mem_append_left _ (List.mem_append_left _ (List.mem_append_left _ (List.mem_append_right _ (List.mem_append_right _ (List.mem_append_right _ (List.mem_append_right _ (List.mem_append_right _ (List.mem_append_right _ (List.mem_append_right _ (List.mem_append_right _ (List.mem_append_right _ (List.mem_append_right _ (List.mem_append_right _ (List.mem_append_right _ (List.mem_append_right _ (List.mem_append_right _ (List.mem_append_right _ (List.mem_append_right _ (List.mem_append_right _ (List.mem_append_right _ (List.mem_append_right _ (List.mem_append_right _ (List.mem_append_right _ (List.mem_append_right _ (List.mem_append_right _ (List.mem_append_right _ (List.mem_append_right _ (List.mem_append_right _ (List.mem_append_right _ (List.mem_append_right _ (List.mem_append_right _ (List.mem_append_right _ (List.mem_append_right _ (List.mem_append_right _ (List.mem_append_right _ (List.mem_append_right _ (List.mem_append_right _ (List.mem_append_right _ (List.mem_append_right _ (List.mem_append_right _ (List.mem_append_right _ (List.mem_append_right _ (List.mem_append_right _ (List.mem_append_right _ (List.mem_append_right _ (List.mem_append_right _ (List.mem_append_right _ (List.mem_append_right _ (List.mem_append_left _ h)))))))))))))))))))))))))))))))))))))))))))))))))))))))
theorem wlg_47 : ∀ w ∈ wsL_law_r47, (w.onTables && w.keeps) = true ∨ ∃ ty, w = .arrayClass ty := fun w h => good_of_word (List.all_eq_true.mp (show wsL_law_r47.all goodWord = true by decide +kernel) w h)
theorem wlc_48 : ∀ w ∈ wsL_law_r48, w ∈ wsL_law := fun _ h => List.mem_append_left _ (List.mem_append_left _ (List.mem_append_left _ (List.mem_append_left _ (List.mem_append_left _ (List.mem_append_left _ (List.mem_append_left _ (List.mem_append_left _ (List.mem_append_left _ (List.mem_append_right _ (List.mem_append_right _ (List.mem_append_right _ (List.mem_append_right _ (List.mem_append_right _ (List.mem_append_right _ (List.mem_append_right _ (List.mem_append_right _ (List.mem_append_right _ (List.mem_append_right _ (List.mem_append_right _ (List.mem_append_right _ (List.mem_append_right _ (List.mem_append_right _ (List.mem_append_right _ (List.mem_append_right _ (List.mem_append_right _ (List.mem_append_right _ (List.mem_append_right _ (List.mem_append_right _ (List.mem_append_right _ (List.mem_append_right _ (List.mem_append_right _ (List.mem_append_right _ (List.mem_append_right _ (List.mem_append_right _ (List.mem_append_right _ (List.mem_append_right _ (List.mem_append_right _ (List.mem_append_right _ (List.mem_append_right _ (List.mem_append_right _ (List.mem_append_right _ (List.mem_append_right _ (List.mem_append_right _ (List.mem_append_right _ (List.mem_append_right _ (List.mem_append_right _ (List.mem_append_right _ (List.mem_append_right _ (List.mem_append_right _ (List.mem_append_right _ (List.mem_append_right _ (List.mem_append_right _ (List.mem_append_right _ (List.mem_append_right _ (List.mem_append_right _ (List.mem_append_left _ h))))))))))))))))))))))))))))))))))))))))))))))))))))))))
theorem wlg_48 : ∀ w ∈ wsL_law_r48, (w.onTables && w.keeps) = true ∨ ∃ ty, w = .arrayClass ty := fun w h => good_of_word (List.all_eq_true.mp (show wsL_law_r48.all goodWord = true by decide +kernel) w h)
theorem wlc_49 : ∀ w ∈ wsL_law_r49, w ∈ wsL_law := fun _ h => List.mem_append_left _ (List.mem_append_left _ (List.mem_append_left _ (List.mem_append_left _ (List.mem_append_left _ (List.mem_append_left _ (List.mem_append_left _ (List.mem_append_left _ (List.mem_append_left _ (List.mem_append_right _ (List.mem_append_right _ (List.mem_append_right _ (List.mem_append_right _ (List.mem_append_right _ (List.mem_append_right _ (List.mem_append_right _ (List.mem_append_right _ (List.mem_append_right _ (List.mem_append_right _ (List.mem_append_right _ (List.mem_append_right _ (List.mem_append_right _ (List.mem_append_right _ (List.mem_append_right _ (List.mem_append_right _ (List.mem_append_right _ (List.mem_append_right _ (List.mem_append_right _ (List.mem_append_right _ (List.mem_append_right _ (List.mem_append_right _ (List.mem_append_right _ (List.mem_append_right _ (List.mem_append_right _ (List.mem_append_right _ (List.mem_append_right _ (List.mem_append_right _ (List.mem_append_right _ (List.mem_append_right _ (List.mem_append_right _ (List.mem_append_right _ (List.mem_append_right _ (List.mem_append_right _ (List.mem_append_right _ (List.mem_append_right _ (List.mem_append_right _ (List.mem_append_right _ (List.mem_append_right _ (List.mem_append_right _ (List.mem_append_right _ (List.mem_append_right _ (List.mem_append_right _ (List.mem_append_right _ (List.mem_append_right _ (List.mem_append_right _ (List.mem_append_right _ (List.mem_append_right _ (h)))))))))))))))))))))))))))))))))))))))))))))))))))))))))
theorem wlg_49 : ∀ w ∈ wsL_law_r49, (w.onTables && w.keeps) = true ∨ ∃ ty, w = .arrayClass ty := fun w h => good_of_word (List.all_eq_true.mp (show wsL_law_r49.all goodWord = true by decide +kernel) w h)
theorem wlx_0 : ∀ w ∈ wsX00, (w.onTables && w.keeps) = true ∨ ∃ ty, w = .arrayClass ty := fun w h => good_of_word (List.all_eq_true.mp (show wsX00.all goodWord = true by decide +kernel) w h)
theorem wlx_1 : ∀ w ∈ wsX10, (w.onTables && w.keeps) = true ∨ ∃ ty, w = .arrayClass ty := fun w h => good_of_word (List.all_eq_true.mp (show wsX10.all goodWord = true by decide +kernel) w h)
theorem wlx_2 : ∀ w ∈ wsX20, (w.onTables && w.keeps) = true ∨ ∃ ty, w = .arrayClass ty := fun w h => good_of_word (List.all_eq_true.mp (show wsX20.all goodWord = true by decide +kernel) w h)
theorem wlx_3 : ∀ w ∈ wsX30, (w.onTables && w.keeps) = true ∨ ∃ ty, w = .arrayClass ty := fun w h => good_of_word (List.all_eq_true.mp (show wsX30.all goodWord = true by decide +kernel) w h)
theorem wlx_4 : ∀ w ∈ wsX40, (w.onTables && w.keeps) = true ∨ ∃ ty, w = .arrayClass ty := fun w h => good_of_word (List.all_eq_true.mp (show wsX40.all goodWord = true by decide +kernel) w h)
theorem wlx_5 : ∀ w ∈ wsX50, (w.onTables && w.keeps) = true ∨ ∃ ty, w = .arrayClass ty := fun w h => good_of_word (List.all_eq_true.mp (show wsX50.all goodWord = true by decide +kernel) w h)
theorem wlx_6 : ∀ w ∈ wsX60, (w.onTables && w.keeps) = true ∨ ∃ ty, w = .arrayClass ty := fun w h => good_of_word (List.all_eq_true.mp (show wsX60.all goodWord = true by decide +kernel) w h)
theorem wlx_7 : ∀ w ∈ wsX70, (w.onTables && w.keeps) = true ∨ ∃ ty, w = .arrayClass ty := fun w h => good_of_word (List.all_eq_true.mp (show wsX70.all goodWord = true by decide +kernel) w h)
theorem ik_good : ∀ w ∈ wsL_law, (w.onTables && w.keeps) = true ∨ ∃ ty, w = .arrayClass ty := fun w => (fun h => (List.mem_append.mp h).elim (fun h => (List.mem_append.mp h).elim (fun h => (List.mem_append.mp h).elim (fun h => (List.mem_append.mp h).elim (fun h => (List.mem_append.mp h).elim (fun h => (List.mem_append.mp h).elim (fun h => (List.mem_append.mp h).elim (fun h => (List.mem_append.mp h).elim (fun h => (List.mem_append.mp h).elim (fun h => (List.mem_append.mp h).elim (wlg_1 w) (fun h => (List.mem_append.mp h).elim (wlg_2 w) (fun h => (List.mem_append.mp h).elim (wlg_3 w) (fun h => (List.mem_append.mp h).elim (wlg_4 w) (fun h => (List.mem_append.mp h).elim (wlg_5 w) (fun h => (List.mem_append.mp h).elim (wlg_6 w) (fun h => (List.mem_append.mp h).elim (wlg_7 w) (fun h => (List.mem_append.mp h).elim (wlg_8 w) (fun h => (List.mem_append.mp h).elim (wlg_9 w) (fun h => (List.mem_append.mp h).elim (wlg_10 w) (fun h => (List.mem_append.mp h).elim (wlg_11 w) (fun h => (List.mem_append.mp h).elim (wlg_12 w) (fun h => (List.mem_append.mp h).elim (wlg_13 w) (fun h => (List.mem_append.mp h).elim (wlg_14 w) (fun h => (List.mem_append.mp h).elim (wlg_15 w) (fun h => (List.mem_append.mp h).elim (wlg_16 w) (fun h => (List.mem_append.mp h).elim (wlg_17 w) (fun h => (List.mem_append.mp h).elim (wlg_18 w) (fun h => (List.mem_append.mp h).elim (wlg_19 w) (fun h => (List.mem_append.mp h).elim (wlg_20 w) (fun h => (List.mem_append.mp h).elim (wlg_21 w) (fun h => (List.mem_append.mp h).elim (wlg_22 w) (fun h => (List.mem_append.mp h).elim (wlg_23 w) (fun h => (List.mem_append.mp h).elim (wlg_24 w) (fun h => (List.mem_append.mp h).elim (wlg_25 w) (fun h => (List.mem_append.mp h).elim (wlg_26 w) (fun h => (List.mem_append.mp h).elim (wlg_27 w) (fun h => (List.mem_append.mp h).elim (wlg_28 w) (fun h => (List.mem_append.mp h).elim (wlg_29 w) (fun h => (List.mem_append.mp h).elim (wlg_30 w) (fun h => (List.mem_append.mp h).elim (wlg_31 w) (fun h => (List.mem_append.mp h).elim (wlg_32 w) (fun h => (List.mem_append.mp h).elim (wlg_33 w) (fun h => (List.mem_append.mp h).elim (wlg_34 w) (fun h => (List.mem_append.mp h).elim (wlg_35 w) (fun h => (List.mem_append.mp h).elim (wlg_36 w) (fun h => (List.mem_append.mp h).elim (wlg_37 w) (fun h => (List.mem_append.mp h).elim (wlg_38 w) (fun h => (List.mem_append.mp h).elim (wlg_39 w) (fun h => (List.mem_append.mp h).elim (wlg_40 w) (fun h => (List.mem_append.mp h).elim (wlg_41 w) (fun h => (List.mem_append.mp h).elim (wlg_42 w) (fun h => (List.mem_append.mp h).elim (wlg_43 w) (fun h => (List.mem_append.mp h).elim (wlg_44 w) (fun h => (List.mem_append.mp h).elim (wlg_45 w) (fun h => (List.mem_append.mp h).elim (wlg_46 w) (fun h => (List.mem_append.mp h).elim (wlg_47 w) (fun h => (List.mem_append.mp h).elim (wlg_48 w) (fun h => wlg_49 w h))))))))))))))))))))))))))))))))))))))))))))))))) (wlx_6 w)) (wlx_7 w)) (wlx_1 w)) (wlx_4 w)) (wlx_2 w)) (wlx_5 w)) (wlx_0 w)) (wlx_3 w)) (fun h => absurd h List.not_mem_nil))
