def RX0 : String := "SpanFacts$Facts"
def TX0 : u_T := fun k => match k with
  | 0 => ("SpanFacts$Facts", "items", "I", false)
  | 1 => ("SpanFacts$Facts", "count", "I", false)
  | 2 => ("SpanFacts$Facts", "kinds", "[I", true)
  | 3 => ("SpanFacts$Facts", "firsts", "[I", true)
  | _ => ("SpanFacts$Facts", "seconds", "[I", true)
def tyX0 : Nat → FieldType := fun k => match k with
  | 0 => .int
  | 1 => .int
  | 2 => .array .int
  | 3 => .array .int
  | _ => .array .int
abbrev wsX00 : List Cond := u_ws RX0 TX0 5
theorem nmX0 : ∀ a, a < 5 → ∀ b, b < 5 → a ≠ b → (TX0 a).2.1 ≠ (TX0 b).2.1 := by decide +kernel
theorem tyX0_ok : ∀ k, k < 5 → parseFieldDescriptor (TX0 k).2.2.1 = some (tyX0 k) := by decide +kernel
abbrev cX0_init : ByteArray := prog_2_method_1_code
def yX0_init : MethodName := ⟨RX0, "<init>", "()V"⟩
abbrev cX0_copyFrom : ByteArray := prog_2_method_2_code
def yX0_copyFrom : MethodName := ⟨RX0, "copyFrom", "(LSpanFacts$Facts;)V"⟩
abbrev cX0_clear : ByteArray := prog_2_method_3_code
def yX0_clear : MethodName := ⟨RX0, "clear", "()V"⟩
abbrev cX0_hasItem : ByteArray := prog_2_method_4_code
def yX0_hasItem : MethodName := ⟨RX0, "hasItem", "(I)Z"⟩
abbrev cX0_hasPair : ByteArray := prog_2_method_5_code
def yX0_hasPair : MethodName := ⟨RX0, "hasPair", "(II)Z"⟩
abbrev cX0_hasFact : ByteArray := prog_2_method_6_code
def yX0_hasFact : MethodName := ⟨RX0, "hasFact", "(I)Z"⟩
abbrev cX0_target : ByteArray := prog_2_method_7_code
def yX0_target : MethodName := ⟨RX0, "target", "(II)I"⟩
abbrev cX0_indexOf : ByteArray := prog_2_method_8_code
def yX0_indexOf : MethodName := ⟨RX0, "indexOf", "(II)I"⟩
abbrev cX0_beforeBits : ByteArray := prog_2_method_9_code
def yX0_beforeBits : MethodName := ⟨RX0, "beforeBits", "()I"⟩
abbrev cX0_add : ByteArray := prog_2_method_10_code
def yX0_add : MethodName := ⟨RX0, "add", "(III)V"⟩
abbrev cX0_remove : ByteArray := prog_2_method_11_code
def yX0_remove : MethodName := ⟨RX0, "remove", "(I)V"⟩
abbrev cX0_removeItem : ByteArray := prog_2_method_12_code
def yX0_removeItem : MethodName := ⟨RX0, "removeItem", "(I)V"⟩
abbrev cX0_turnBefores : ByteArray := prog_2_method_13_code
def yX0_turnBefores : MethodName := ⟨RX0, "turnBefores", "()I"⟩
def RX1 : String := "SpanFacts$Order"
def TX1 : u_T := fun k => match k with
  | 0 => ("SpanFacts$Order", "least", "I", false)
  | 1 => ("SpanFacts$Order", "rooms", "I", false)
  | 2 => ("SpanFacts$Order", "roomOf", "[I", true)
  | 3 => ("SpanFacts$Order", "profile", "[I", true)
  | 4 => ("SpanFacts$Order", "items", "I", false)
  | 5 => ("SpanFacts$Order", "starts", "[I", true)
  | 6 => ("SpanFacts$Order", "queue", "[I", true)
  | _ => ("SpanFacts$Order", "spans", "LSpanFacts$Reach;", true)
def tyX1 : Nat → FieldType := fun k => match k with
  | 0 => .int
  | 1 => .int
  | 2 => .array .int
  | 3 => .array .int
  | 4 => .int
  | 5 => .array .int
  | 6 => .array .int
  | _ => .object "SpanFacts$Reach"
abbrev wsX10 : List Cond := u_ws RX1 TX1 8
theorem nmX1 : ∀ a, a < 8 → ∀ b, b < 8 → a ≠ b → (TX1 a).2.1 ≠ (TX1 b).2.1 := by decide +kernel
theorem tyX1_ok : ∀ k, k < 8 → parseFieldDescriptor (TX1 k).2.2.1 = some (tyX1 k) := by decide +kernel
abbrev cX1_init : ByteArray := prog_3_method_1_code
def yX1_init : MethodName := ⟨RX1, "<init>", "()V"⟩
abbrev cX1_lay : ByteArray := prog_3_method_2_code
def yX1_lay : MethodName := ⟨RX1, "lay", "(LSpanFacts$Facts;)V"⟩
abbrev cX1_precedes : ByteArray := prog_3_method_3_code
def yX1_precedes : MethodName := ⟨RX1, "precedes", "(II)Z"⟩
abbrev cX1_greatestSet : ByteArray := prog_3_method_4_code
def yX1_greatestSet : MethodName := ⟨RX1, "greatestSet", "(Z)I"⟩
abbrev cX1_isUniform : ByteArray := prog_3_method_5_code
def yX1_isUniform : MethodName := ⟨RX1, "isUniform", "(IZ)Z"⟩
abbrev cX1_fillRooms : ByteArray := prog_3_method_6_code
def yX1_fillRooms : MethodName := ⟨RX1, "fillRooms", "()V"⟩
abbrev cX1_isFree : ByteArray := prog_3_method_7_code
def yX1_isFree : MethodName := ⟨RX1, "isFree", "(II)Z"⟩
abbrev cX1_fillQueue : ByteArray := prog_3_method_8_code
def yX1_fillQueue : MethodName := ⟨RX1, "fillQueue", "()V"⟩
abbrev cX1_fillProfile : ByteArray := prog_3_method_9_code
def yX1_fillProfile : MethodName := ⟨RX1, "fillProfile", "()V"⟩
def RX2 : String := "SpanFacts$Past"
def TX2 : u_T := fun k => match k with
  | 0 => ("SpanFacts$Past", "count", "I", false)
  | _ => ("SpanFacts$Past", "kept", "[LSpanFacts$Facts;", true)
def tyX2 : Nat → FieldType := fun k => match k with
  | 0 => .int
  | _ => .array (.object "SpanFacts$Facts")
abbrev wsX20 : List Cond := u_ws RX2 TX2 2
theorem nmX2 : ∀ a, a < 2 → ∀ b, b < 2 → a ≠ b → (TX2 a).2.1 ≠ (TX2 b).2.1 := by decide +kernel
theorem tyX2_ok : ∀ k, k < 2 → parseFieldDescriptor (TX2 k).2.2.1 = some (tyX2 k) := by decide +kernel
abbrev cX2_init : ByteArray := prog_4_method_1_code
def yX2_init : MethodName := ⟨RX2, "<init>", "()V"⟩
abbrev cX2_push : ByteArray := prog_4_method_2_code
def yX2_push : MethodName := ⟨RX2, "push", "(LSpanFacts$Facts;)V"⟩
abbrev cX2_popInto : ByteArray := prog_4_method_3_code
def yX2_popInto : MethodName := ⟨RX2, "popInto", "(LSpanFacts$Facts;)V"⟩
abbrev cX2_forgetOldest : ByteArray := prog_4_method_4_code
def yX2_forgetOldest : MethodName := ⟨RX2, "forgetOldest", "()V"⟩
def RX3 : String := "SpanFacts$Reach"
def TX3 : u_T := fun k => match k with
  | 0 => ("SpanFacts$Reach", "items", "I", false)
  | _ => ("SpanFacts$Reach", "most", "[I", true)
def tyX3 : Nat → FieldType := fun k => match k with
  | 0 => .int
  | _ => .array .int
abbrev wsX30 : List Cond := u_ws RX3 TX3 2
theorem nmX3 : ∀ a, a < 2 → ∀ b, b < 2 → a ≠ b → (TX3 a).2.1 ≠ (TX3 b).2.1 := by decide +kernel
theorem tyX3_ok : ∀ k, k < 2 → parseFieldDescriptor (TX3 k).2.2.1 = some (tyX3 k) := by decide +kernel
abbrev cX3_init : ByteArray := prog_5_method_1_code
def yX3_init : MethodName := ⟨RX3, "<init>", "()V"⟩
abbrev cX3_copyFrom : ByteArray := prog_5_method_2_code
def yX3_copyFrom : MethodName := ⟨RX3, "copyFrom", "(LSpanFacts$Reach;)V"⟩
abbrev cX3_weigh : ByteArray := prog_5_method_3_code
def yX3_weigh : MethodName := ⟨RX3, "weigh", "(LSpanFacts$Facts;I)V"⟩
abbrev cX3_stretch : ByteArray := prog_5_method_4_code
def yX3_stretch : MethodName := ⟨RX3, "stretch", "(LSpanFacts$Facts;I)Z"⟩
abbrev cX3_between : ByteArray := prog_5_method_5_code
def yX3_between : MethodName := ⟨RX3, "between", "(II)I"⟩
abbrev cX3_earliest : ByteArray := prog_5_method_6_code
def yX3_earliest : MethodName := ⟨RX3, "earliest", "(I)I"⟩
abbrev cX3_options : ByteArray := prog_5_method_7_code
def yX3_options : MethodName := ⟨RX3, "options", "(II)I"⟩
abbrev cX3_join : ByteArray := prog_5_method_8_code
def yX3_join : MethodName := ⟨RX3, "join", "(III)V"⟩
abbrev cX3_lay : ByteArray := prog_5_method_9_code
def yX3_lay : MethodName := ⟨RX3, "lay", "(LSpanFacts$Facts;III)V"⟩
abbrev cX3_close : ByteArray := prog_5_method_10_code
def yX3_close : MethodName := ⟨RX3, "close", "()V"⟩
abbrev cX3_link : ByteArray := prog_5_method_11_code
def yX3_link : MethodName := ⟨RX3, "link", "(III)V"⟩
abbrev cX3_raiseRow : ByteArray := prog_5_method_12_code
def yX3_raiseRow : MethodName := ⟨RX3, "raiseRow", "(III)V"⟩
def RX4 : String := "SpanFacts$Reader"
def TX4 : u_T := fun k => match k with
  | 0 => ("SpanFacts$Reader", "fault", "I", false)
  | 1 => ("SpanFacts$Reader", "draft", "LSpanFacts$Facts;", true)
  | 2 => ("SpanFacts$Reader", "faultPlace", "I", false)
  | 3 => ("SpanFacts$Reader", "limit", "I", false)
  | 4 => ("SpanFacts$Reader", "place", "I", false)
  | 5 => ("SpanFacts$Reader", "next", "I", false)
  | 6 => ("SpanFacts$Reader", "token", "I", false)
  | 7 => ("SpanFacts$Reader", "word", "J", false)
  | 8 => ("SpanFacts$Reader", "names", "[J", true)
  | 9 => ("SpanFacts$Reader", "tape", "LSpanFacts$Tape;", true)
  | _ => ("SpanFacts$Reader", "proof", "LSpanFacts$Ring;", true)
def tyX4 : Nat → FieldType := fun k => match k with
  | 0 => .int
  | 1 => .object "SpanFacts$Facts"
  | 2 => .int
  | 3 => .int
  | 4 => .int
  | 5 => .int
  | 6 => .int
  | 7 => .long
  | 8 => .array .long
  | 9 => .object "SpanFacts$Tape"
  | _ => .object "SpanFacts$Ring"
abbrev wsX40 : List Cond := u_ws RX4 TX4 11
theorem nmX4 : ∀ a, a < 11 → ∀ b, b < 11 → a ≠ b → (TX4 a).2.1 ≠ (TX4 b).2.1 := by decide +kernel
theorem tyX4_ok : ∀ k, k < 11 → parseFieldDescriptor (TX4 k).2.2.1 = some (tyX4 k) := by decide +kernel
abbrev cX4_init : ByteArray := prog_6_method_1_code
def yX4_init : MethodName := ⟨RX4, "<init>", "(LSpanFacts$Tape;LSpanFacts$Ring;)V"⟩
abbrev cX4_read : ByteArray := prog_6_method_2_code
def yX4_read : MethodName := ⟨RX4, "read", "()I"⟩
abbrev cX4_isItemRow : ByteArray := prog_6_method_3_code
def yX4_isItemRow : MethodName := ⟨RX4, "isItemRow", "()Z"⟩
abbrev cX4_readItem : ByteArray := prog_6_method_4_code
def yX4_readItem : MethodName := ⟨RX4, "readItem", "()Z"⟩
abbrev cX4_readFact : ByteArray := prog_6_method_5_code
def yX4_readFact : MethodName := ⟨RX4, "readFact", "()Z"⟩
abbrev cX4_readStop : ByteArray := prog_6_method_6_code
def yX4_readStop : MethodName := ⟨RX4, "readStop", "()Z"⟩
abbrev cX4_isName : ByteArray := prog_6_method_7_code
def yX4_isName : MethodName := ⟨RX4, "isName", "()Z"⟩
abbrev cX4_itemNamed : ByteArray := prog_6_method_8_code
def yX4_itemNamed : MethodName := ⟨RX4, "itemNamed", "()I"⟩
abbrev cX4_fail : ByteArray := prog_6_method_9_code
def yX4_fail : MethodName := ⟨RX4, "fail", "(II)Z"⟩
abbrev cX4_step : ByteArray := prog_6_method_10_code
def yX4_step : MethodName := ⟨RX4, "step", "()V"⟩
abbrev cX4_readWord : ByteArray := prog_6_method_11_code
def yX4_readWord : MethodName := ⟨RX4, "readWord", "()V"⟩
abbrev cX4_isBlank : ByteArray := prog_6_method_12_code
def yX4_isBlank : MethodName := ⟨RX4, "isBlank", "(I)Z"⟩
abbrev cX4_isLetter : ByteArray := prog_6_method_13_code
def yX4_isLetter : MethodName := ⟨RX4, "isLetter", "(I)Z"⟩
def RX5 : String := "SpanFacts$Ring"
def TX5 : u_T := fun k => match k with
  | 0 => ("SpanFacts$Ring", "size", "I", false)
  | 1 => ("SpanFacts$Ring", "befores", "I", false)
  | 2 => ("SpanFacts$Ring", "from", "I", false)
  | 3 => ("SpanFacts$Ring", "to", "I", false)
  | 4 => ("SpanFacts$Ring", "row", "[I", true)
  | _ => ("SpanFacts$Ring", "sums", "[I", true)
def tyX5 : Nat → FieldType := fun k => match k with
  | 0 => .int
  | 1 => .int
  | 2 => .int
  | 3 => .int
  | 4 => .array .int
  | _ => .array .int
abbrev wsX50 : List Cond := u_ws RX5 TX5 6
theorem nmX5 : ∀ a, a < 6 → ∀ b, b < 6 → a ≠ b → (TX5 a).2.1 ≠ (TX5 b).2.1 := by decide +kernel
theorem tyX5_ok : ∀ k, k < 6 → parseFieldDescriptor (TX5 k).2.2.1 = some (tyX5 k) := by decide +kernel
abbrev cX5_init : ByteArray := prog_7_method_1_code
def yX5_init : MethodName := ⟨RX5, "<init>", "()V"⟩
abbrev cX5_seek : ByteArray := prog_7_method_2_code
def yX5_seek : MethodName := ⟨RX5, "seek", "(LSpanFacts$Facts;IIII)Z"⟩
abbrev cX5_bits : ByteArray := prog_7_method_3_code
def yX5_bits : MethodName := ⟨RX5, "bits", "()I"⟩
abbrev cX5_fewest : ByteArray := prog_7_method_4_code
def yX5_fewest : MethodName := ⟨RX5, "fewest", "(LSpanFacts$Facts;IIII)I"⟩
abbrev cX5_raise : ByteArray := prog_7_method_5_code
def yX5_raise : MethodName := ⟨RX5, "raise", "(IIII)V"⟩
abbrev cX5_trace : ByteArray := prog_7_method_6_code
def yX5_trace : MethodName := ⟨RX5, "trace", "(LSpanFacts$Facts;IIIII)V"⟩
abbrev cX5_firstStep : ByteArray := prog_7_method_7_code
def yX5_firstStep : MethodName := ⟨RX5, "firstStep", "(LSpanFacts$Facts;IIII)I"⟩
abbrev cX5_weight : ByteArray := prog_7_method_8_code
def yX5_weight : MethodName := ⟨RX5, "weight", "(I)I"⟩
def RX6 : String := "SpanFacts$Shapes"
def TX6 : u_T := fun k => match k with
  | _ => ("SpanFacts$Shapes", "tails", "[I", true)
def tyX6 : Nat → FieldType := fun k => match k with
  | _ => .array .int
abbrev wsX60 : List Cond := u_ws RX6 TX6 1
theorem nmX6 : ∀ a, a < 1 → ∀ b, b < 1 → a ≠ b → (TX6 a).2.1 ≠ (TX6 b).2.1 := by decide +kernel
theorem tyX6_ok : ∀ k, k < 1 → parseFieldDescriptor (TX6 k).2.2.1 = some (tyX6 k) := by decide +kernel
abbrev cX6_init : ByteArray := prog_8_method_1_code
def yX6_init : MethodName := ⟨RX6, "<init>", "()V"⟩
abbrev cX6_howMany : ByteArray := prog_8_method_2_code
def yX6_howMany : MethodName := ⟨RX6, "howMany", "(I)I"⟩
abbrev cX6_rankOf : ByteArray := prog_8_method_3_code
def yX6_rankOf : MethodName := ⟨RX6, "rankOf", "([II)I"⟩
abbrev cX6_spell : ByteArray := prog_8_method_4_code
def yX6_spell : MethodName := ⟨RX6, "spell", "(II[I)V"⟩
abbrev cX6_tailAt : ByteArray := prog_8_method_5_code
def yX6_tailAt : MethodName := ⟨RX6, "tailAt", "(II)I"⟩
abbrev cX6_fillTails : ByteArray := prog_8_method_6_code
def yX6_fillTails : MethodName := ⟨RX6, "fillTails", "(I)V"⟩
def RX7 : String := "SpanFacts$Tape"
def TX7 : u_T := fun k => match k with
  | 0 => ("SpanFacts$Tape", "size", "I", false)
  | _ => ("SpanFacts$Tape", "bytes", "[I", true)
def tyX7 : Nat → FieldType := fun k => match k with
  | 0 => .int
  | _ => .array .int
abbrev wsX70 : List Cond := u_ws RX7 TX7 2
theorem nmX7 : ∀ a, a < 2 → ∀ b, b < 2 → a ≠ b → (TX7 a).2.1 ≠ (TX7 b).2.1 := by decide +kernel
theorem tyX7_ok : ∀ k, k < 2 → parseFieldDescriptor (TX7 k).2.2.1 = some (tyX7 k) := by decide +kernel
abbrev cX7_init : ByteArray := prog_9_method_1_code
def yX7_init : MethodName := ⟨RX7, "<init>", "()V"⟩
abbrev cX7_put : ByteArray := prog_9_method_2_code
def yX7_put : MethodName := ⟨RX7, "put", "(I)V"⟩
def RX8 : String := "SpanFacts$Ways"
def TX8 : u_T := fun k => match k with
  | 0 => ("SpanFacts$Ways", "pairs", "I", false)
  | 1 => ("SpanFacts$Ways", "firsts", "[I", true)
  | 2 => ("SpanFacts$Ways", "seconds", "[I", true)
  | _ => ("SpanFacts$Ways", "layers", "[LSpanFacts$Reach;", true)
def tyX8 : Nat → FieldType := fun k => match k with
  | 0 => .int
  | 1 => .array .int
  | 2 => .array .int
  | _ => .array (.object "SpanFacts$Reach")
abbrev wsX80 : List Cond := u_ws RX8 TX8 4
theorem nmX8 : ∀ a, a < 4 → ∀ b, b < 4 → a ≠ b → (TX8 a).2.1 ≠ (TX8 b).2.1 := by decide +kernel
theorem tyX8_ok : ∀ k, k < 4 → parseFieldDescriptor (TX8 k).2.2.1 = some (tyX8 k) := by decide +kernel
abbrev cX8_init : ByteArray := prog_10_method_1_code
def yX8_init : MethodName := ⟨RX8, "<init>", "()V"⟩
abbrev cX8_count : ByteArray := prog_10_method_2_code
def yX8_count : MethodName := ⟨RX8, "count", "(LSpanFacts$Facts;)I"⟩
abbrev cX8_follow : ByteArray := prog_10_method_3_code
def yX8_follow : MethodName := ⟨RX8, "follow", "(III)I"⟩
abbrev cX8_nextOpen : ByteArray := prog_10_method_4_code
def yX8_nextOpen : MethodName := ⟨RX8, "nextOpen", "(II)I"⟩
abbrev cX8_branch : ByteArray := prog_10_method_5_code
def yX8_branch : MethodName := ⟨RX8, "branch", "(IIII)I"⟩
abbrev cX8_optionsOf : ByteArray := prog_10_method_6_code
def yX8_optionsOf : MethodName := ⟨RX8, "optionsOf", "(II)I"⟩
def RX9 : String := "SpanFacts"
def TX9 : u_T := fun k => match k with
  | 0 => ("SpanFacts", "facts", "LSpanFacts$Facts;", true)
  | 1 => ("SpanFacts", "mark", "LSpanFacts$Facts;", true)
  | 2 => ("SpanFacts", "past", "LSpanFacts$Past;", true)
  | 3 => ("SpanFacts", "images", "[LSpanFacts$Facts;", true)
  | 4 => ("SpanFacts", "imageKept", "[Z", true)
  | 5 => ("SpanFacts", "proof", "LSpanFacts$Ring;", true)
  | 6 => ("SpanFacts", "sketch", "LSpanFacts$Ring;", true)
  | 7 => ("SpanFacts", "reach", "LSpanFacts$Reach;", true)
  | 8 => ("SpanFacts", "order", "LSpanFacts$Order;", true)
  | 9 => ("SpanFacts", "wayCounter", "LSpanFacts$Ways;", true)
  | 10 => ("SpanFacts", "catalogue", "LSpanFacts$Shapes;", true)
  | 11 => ("SpanFacts", "spelled", "[I", true)
  | 12 => ("SpanFacts", "tape", "LSpanFacts$Tape;", true)
  | 13 => ("SpanFacts", "reader", "LSpanFacts$Reader;", true)
  | _ => ("SpanFacts", "seedNow", "I", false)
def tyX9 : Nat → FieldType := fun k => match k with
  | 0 => .object "SpanFacts$Facts"
  | 1 => .object "SpanFacts$Facts"
  | 2 => .object "SpanFacts$Past"
  | 3 => .array (.object "SpanFacts$Facts")
  | 4 => .array .boolean
  | 5 => .object "SpanFacts$Ring"
  | 6 => .object "SpanFacts$Ring"
  | 7 => .object "SpanFacts$Reach"
  | 8 => .object "SpanFacts$Order"
  | 9 => .object "SpanFacts$Ways"
  | 10 => .object "SpanFacts$Shapes"
  | 11 => .array .int
  | 12 => .object "SpanFacts$Tape"
  | 13 => .object "SpanFacts$Reader"
  | _ => .int
abbrev wsX90 : List Cond := u_ws RX9 TX9 15
theorem nmX9 : ∀ a, a < 15 → ∀ b, b < 15 → a ≠ b → (TX9 a).2.1 ≠ (TX9 b).2.1 := by decide +kernel
theorem tyX9_ok : ∀ k, k < 15 → parseFieldDescriptor (TX9 k).2.2.1 = some (tyX9 k) := by decide +kernel
abbrev cX9_init : ByteArray := prog_1_method_1_code
def yX9_init : MethodName := ⟨RX9, "<init>", "()V"⟩
abbrev cX9_feed : ByteArray := prog_1_method_2_code
def yX9_feed : MethodName := ⟨RX9, "feed", "(IIIII)I"⟩
abbrev cX9_end : ByteArray := prog_1_method_3_code
def yX9_end : MethodName := ⟨RX9, "end", "(I)Z"⟩
abbrev cX9_notes : ByteArray := prog_1_method_4_code
def yX9_notes : MethodName := ⟨RX9, "notes", "()I"⟩
abbrev cX9_fault : ByteArray := prog_1_method_5_code
def yX9_fault : MethodName := ⟨RX9, "fault", "()I"⟩
abbrev cX9_now : ByteArray := prog_1_method_6_code
def yX9_now : MethodName := ⟨RX9, "now", "(I)I"⟩
abbrev cX9_fact : ByteArray := prog_1_method_7_code
def yX9_fact : MethodName := ⟨RX9, "fact", "(II)I"⟩
abbrev cX9_about : ByteArray := prog_1_method_8_code
def yX9_about : MethodName := ⟨RX9, "about", "(II)I"⟩
abbrev cX9_tell : ByteArray := prog_1_method_9_code
def yX9_tell : MethodName := ⟨RX9, "tell", "(III)I"⟩
abbrev cX9_refuted : ByteArray := prog_1_method_10_code
def yX9_refuted : MethodName := ⟨RX9, "refuted", "(I)I"⟩
abbrev cX9_ring : ByteArray := prog_1_method_11_code
def yX9_ring : MethodName := ⟨RX9, "ring", "(I)I"⟩
abbrev cX9_forget : ByteArray := prog_1_method_12_code
def yX9_forget : MethodName := ⟨RX9, "forget", "(I)I"⟩
abbrev cX9_begin : ByteArray := prog_1_method_13_code
def yX9_begin : MethodName := ⟨RX9, "begin", "(II)I"⟩
abbrev cX9_gap : ByteArray := prog_1_method_14_code
def yX9_gap : MethodName := ⟨RX9, "gap", "(IIII)I"⟩
abbrev cX9_tight : ByteArray := prog_1_method_15_code
def yX9_tight : MethodName := ⟨RX9, "tight", "(I)I"⟩
abbrev cX9_may : ByteArray := prog_1_method_16_code
def yX9_may : MethodName := ⟨RX9, "may", "(II)I"⟩
abbrev cX9_ways : ByteArray := prog_1_method_17_code
def yX9_ways : MethodName := ⟨RX9, "ways", "()I"⟩
abbrev cX9_test : ByteArray := prog_1_method_18_code
def yX9_test : MethodName := ⟨RX9, "test", "(III)I"⟩
abbrev cX9_yields : ByteArray := prog_1_method_19_code
def yX9_yields : MethodName := ⟨RX9, "yields", "(III)I"⟩
abbrev cX9_idle : ByteArray := prog_1_method_20_code
def yX9_idle : MethodName := ⟨RX9, "idle", "()I"⟩
abbrev cX9_late : ByteArray := prog_1_method_21_code
def yX9_late : MethodName := ⟨RX9, "late", "(III)I"⟩
abbrev cX9_ahead : ByteArray := prog_1_method_22_code
def yX9_ahead : MethodName := ⟨RX9, "ahead", "(II)I"⟩
abbrev cX9_chain : ByteArray := prog_1_method_23_code
def yX9_chain : MethodName := ⟨RX9, "chain", "(I)I"⟩
abbrev cX9_crowd : ByteArray := prog_1_method_24_code
def yX9_crowd : MethodName := ⟨RX9, "crowd", "(I)I"⟩
abbrev cX9_room : ByteArray := prog_1_method_25_code
def yX9_room : MethodName := ⟨RX9, "room", "(I)I"⟩
abbrev cX9_shape : ByteArray := prog_1_method_26_code
def yX9_shape : MethodName := ⟨RX9, "shape", "(I)I"⟩
abbrev cX9_rank : ByteArray := prog_1_method_27_code
def yX9_rank : MethodName := ⟨RX9, "rank", "()I"⟩
abbrev cX9_shapes : ByteArray := prog_1_method_28_code
def yX9_shapes : MethodName := ⟨RX9, "shapes", "(I)I"⟩
abbrev cX9_make : ByteArray := prog_1_method_29_code
def yX9_make : MethodName := ⟨RX9, "make", "(II)I"⟩
abbrev cX9_finish : ByteArray := prog_1_method_30_code
def yX9_finish : MethodName := ⟨RX9, "finish", "()I"⟩
abbrev cX9_grow : ByteArray := prog_1_method_31_code
def yX9_grow : MethodName := ⟨RX9, "grow", "()I"⟩
abbrev cX9_drop : ByteArray := prog_1_method_32_code
def yX9_drop : MethodName := ⟨RX9, "drop", "(I)I"⟩
abbrev cX9_turn : ByteArray := prog_1_method_33_code
def yX9_turn : MethodName := ⟨RX9, "turn", "()I"⟩
abbrev cX9_drawn : ByteArray := prog_1_method_34_code
def yX9_drawn : MethodName := ⟨RX9, "drawn", "(II)I"⟩
abbrev cX9_undo : ByteArray := prog_1_method_35_code
def yX9_undo : MethodName := ⟨RX9, "undo", "()I"⟩
abbrev cX9_image : ByteArray := prog_1_method_36_code
def yX9_image : MethodName := ⟨RX9, "image", "(I)Z"⟩
abbrev cX9_restore : ByteArray := prog_1_method_37_code
def yX9_restore : MethodName := ⟨RX9, "restore", "(I)Z"⟩
abbrev cX9_canBeNamed : ByteArray := prog_1_method_38_code
def yX9_canBeNamed : MethodName := ⟨RX9, "canBeNamed", "(III)Z"⟩
abbrev cX9_layOut : ByteArray := prog_1_method_39_code
def yX9_layOut : MethodName := ⟨RX9, "layOut", "(I)Z"⟩
abbrev cX9_openTo : ByteArray := prog_1_method_40_code
def yX9_openTo : MethodName := ⟨RX9, "openTo", "(II)I"⟩
abbrev cX9_leastYield : ByteArray := prog_1_method_41_code
def yX9_leastYield : MethodName := ⟨RX9, "leastYield", "(IIIII)I"⟩
abbrev cX9_leastOfRing : ByteArray := prog_1_method_42_code
def yX9_leastOfRing : MethodName := ⟨RX9, "leastOfRing", "(IIIII)I"⟩
abbrev cX9_greatest : ByteArray := prog_1_method_43_code
def yX9_greatest : MethodName := ⟨RX9, "greatest", "(IZ)I"⟩
abbrev cX9_tellFirstOpen : ByteArray := prog_1_method_44_code
def yX9_tellFirstOpen : MethodName := ⟨RX9, "tellFirstOpen", "(II)V"⟩
abbrev cX9_tellWeighed : ByteArray := prog_1_method_45_code
def yX9_tellWeighed : MethodName := ⟨RX9, "tellWeighed", "(III)V"⟩
abbrev cX9_keepMarkIf : ByteArray := prog_1_method_46_code
def yX9_keepMarkIf : MethodName := ⟨RX9, "keepMarkIf", "(Z)V"⟩
abbrev cX9_draw : ByteArray := prog_1_method_47_code
def yX9_draw : MethodName := ⟨RX9, "draw", "(I)I"⟩
abbrev cX9_drawForgotten : ByteArray := prog_1_method_48_code
def yX9_drawForgotten : MethodName := ⟨RX9, "drawForgotten", "()Z"⟩
abbrev cX9_drawTold : ByteArray := prog_1_method_49_code
def yX9_drawTold : MethodName := ⟨RX9, "drawTold", "()Z"⟩
def RX10 : String := "SpanFactsModel"
def TX10 : u_T := fun k => match k with
  | 0 => ("SpanFactsModel", "thrown", "I", false)
  | 1 => ("SpanFactsModel", "tape", "[I", true)
  | 2 => ("SpanFactsModel", "taped", "I", false)
  | 3 => ("SpanFactsModel", "size", "I", false)
  | 4 => ("SpanFactsModel", "at", "I", false)
  | 5 => ("SpanFactsModel", "from", "I", false)
  | 6 => ("SpanFactsModel", "sort", "I", false)
  | 7 => ("SpanFactsModel", "fault", "I", false)
  | 8 => ("SpanFactsModel", "place", "I", false)
  | 9 => ("SpanFactsModel", "word", "J", false)
  | 10 => ("SpanFactsModel", "now", "[I", true)
  | 11 => ("SpanFactsModel", "read", "[I", true)
  | 12 => ("SpanFactsModel", "kept", "[I", true)
  | 13 => ("SpanFactsModel", "snaps", "[I", true)
  | 14 => ("SpanFactsModel", "before", "[I", true)
  | 15 => ("SpanFactsModel", "live", "[I", true)
  | 16 => ("SpanFactsModel", "trial", "[I", true)
  | 17 => ("SpanFactsModel", "names", "[J", true)
  | 18 => ("SpanFactsModel", "isKept", "[Z", true)
  | 19 => ("SpanFactsModel", "snapMany", "I", false)
  | 20 => ("SpanFactsModel", "step", "[I", true)
  | 21 => ("SpanFactsModel", "best", "[I", true)
  | 22 => ("SpanFactsModel", "ringRow", "[I", true)
  | 23 => ("SpanFactsModel", "toldRing", "[I", true)
  | 24 => ("SpanFactsModel", "ringMany", "I", false)
  | 25 => ("SpanFactsModel", "ringFrom", "I", false)
  | 26 => ("SpanFactsModel", "ringTo", "I", false)
  | 27 => ("SpanFactsModel", "ringBefore", "I", false)
  | 28 => ("SpanFactsModel", "toldMany", "I", false)
  | 29 => ("SpanFactsModel", "toldFrom", "I", false)
  | 30 => ("SpanFactsModel", "toldTo", "I", false)
  | 31 => ("SpanFactsModel", "toldBefore", "I", false)
  | 32 => ("SpanFactsModel", "begins", "[I", true)
  | 33 => ("SpanFactsModel", "found", "I", false)
  | 34 => ("SpanFactsModel", "leastNow", "I", false)
  | 35 => ("SpanFactsModel", "roomOf", "[I", true)
  | 36 => ("SpanFactsModel", "shapeRow", "[I", true)
  | _ => ("SpanFactsModel", "seed", "I", false)
def tyX10 : Nat → FieldType := fun k => match k with
  | 0 => .int
  | 1 => .array .int
  | 2 => .int
  | 3 => .int
  | 4 => .int
  | 5 => .int
  | 6 => .int
  | 7 => .int
  | 8 => .int
  | 9 => .long
  | 10 => .array .int
  | 11 => .array .int
  | 12 => .array .int
  | 13 => .array .int
  | 14 => .array .int
  | 15 => .array .int
  | 16 => .array .int
  | 17 => .array .long
  | 18 => .array .boolean
  | 19 => .int
  | 20 => .array .int
  | 21 => .array .int
  | 22 => .array .int
  | 23 => .array .int
  | 24 => .int
  | 25 => .int
  | 26 => .int
  | 27 => .int
  | 28 => .int
  | 29 => .int
  | 30 => .int
  | 31 => .int
  | 32 => .array .int
  | 33 => .int
  | 34 => .int
  | 35 => .array .int
  | 36 => .array .int
  | _ => .int
abbrev wsX100 : List Cond := u_ws RX10 TX10 38
theorem nmX10 : ∀ a, a < 38 → ∀ b, b < 38 → a ≠ b → (TX10 a).2.1 ≠ (TX10 b).2.1 := by decide +kernel
theorem tyX10_ok : ∀ k, k < 38 → parseFieldDescriptor (TX10 k).2.2.1 = some (tyX10 k) := by decide +kernel
abbrev cX10_thrown : ByteArray := prog_12_method_1_code
def yX10_thrown : MethodName := ⟨RX10, "thrown", "()I"⟩
abbrev cX10_refuse : ByteArray := prog_12_method_2_code
def yX10_refuse : MethodName := ⟨RX10, "refuse", "()I"⟩
abbrev cX10_isIn : ByteArray := prog_12_method_3_code
def yX10_isIn : MethodName := ⟨RX10, "isIn", "(III)Z"⟩
abbrev cX10_has : ByteArray := prog_12_method_4_code
def yX10_has : MethodName := ⟨RX10, "has", "(II)Z"⟩
abbrev cX10_bits : ByteArray := prog_12_method_5_code
def yX10_bits : MethodName := ⟨RX10, "bits", "(I)I"⟩
abbrev cX10_lay : ByteArray := prog_12_method_6_code
def yX10_lay : MethodName := ⟨RX10, "lay", "(I)V"⟩
abbrev cX10_feed : ByteArray := prog_12_method_7_code
def yX10_feed : MethodName := ⟨RX10, "feed", "(IIIII)I"⟩
abbrev cX10_end : ByteArray := prog_12_method_8_code
def yX10_end : MethodName := ⟨RX10, "end", "(I)Z"⟩
abbrev cX10_tapeAt : ByteArray := prog_12_method_9_code
def yX10_tapeAt : MethodName := ⟨RX10, "tapeAt", "(I)I"⟩
abbrev cX10_isLetter : ByteArray := prog_12_method_10_code
def yX10_isLetter : MethodName := ⟨RX10, "isLetter", "(I)Z"⟩
abbrev cX10_next : ByteArray := prog_12_method_11_code
def yX10_next : MethodName := ⟨RX10, "next", "()V"⟩
abbrev cX10_spelt : ByteArray := prog_12_method_12_code
def yX10_spelt : MethodName := ⟨RX10, "spelt", "(IIIIII)J"⟩
abbrev cX10_isItemWord : ByteArray := prog_12_method_13_code
def yX10_isItemWord : MethodName := ⟨RX10, "isItemWord", "()Z"⟩
abbrev cX10_kindWord : ByteArray := prog_12_method_14_code
def yX10_kindWord : MethodName := ⟨RX10, "kindWord", "()I"⟩
abbrev cX10_isName : ByteArray := prog_12_method_15_code
def yX10_isName : MethodName := ⟨RX10, "isName", "()Z"⟩
abbrev cX10_badAt : ByteArray := prog_12_method_16_code
def yX10_badAt : MethodName := ⟨RX10, "badAt", "(II)Z"⟩
abbrev cX10_bad : ByteArray := prog_12_method_17_code
def yX10_bad : MethodName := ⟨RX10, "bad", "(I)Z"⟩
abbrev cX10_init : ByteArray := prog_12_method_18_code
def yX10_init : MethodName := ⟨RX10, "<init>", "()V"⟩
abbrev cX10_copy : ByteArray := prog_12_method_19_code
def yX10_copy : MethodName := ⟨RX10, "copy", "([II[II)V"⟩
abbrev cX10_tells : ByteArray := prog_12_method_20_code
def yX10_tells : MethodName := ⟨RX10, "tells", "([IIII)V"⟩
abbrev cX10_forgets : ByteArray := prog_12_method_21_code
def yX10_forgets : MethodName := ⟨RX10, "forgets", "([II)V"⟩
abbrev cX10_factOf : ByteArray := prog_12_method_22_code
def yX10_factOf : MethodName := ⟨RX10, "factOf", "([III)I"⟩
abbrev cX10_named : ByteArray := prog_12_method_23_code
def yX10_named : MethodName := ⟨RX10, "named", "()I"⟩
abbrev cX10_readItem : ByteArray := prog_12_method_24_code
def yX10_readItem : MethodName := ⟨RX10, "readItem", "()Z"⟩
abbrev cX10_readFact : ByteArray := prog_12_method_25_code
def yX10_readFact : MethodName := ⟨RX10, "readFact", "()Z"⟩
abbrev cX10_readEnd : ByteArray := prog_12_method_26_code
def yX10_readEnd : MethodName := ⟨RX10, "readEnd", "()Z"⟩
abbrev cX10_notes : ByteArray := prog_12_method_27_code
def yX10_notes : MethodName := ⟨RX10, "notes", "()I"⟩
abbrev cX10_fault : ByteArray := prog_12_method_28_code
def yX10_fault : MethodName := ⟨RX10, "fault", "()I"⟩
abbrev cX10_weight : ByteArray := prog_12_method_29_code
def yX10_weight : MethodName := ⟨RX10, "weight", "(II)I"⟩
abbrev cX10_longer : ByteArray := prog_12_method_30_code
def yX10_longer : MethodName := ⟨RX10, "longer", "(III)V"⟩
abbrev cX10_laysSteps : ByteArray := prog_12_method_31_code
def yX10_laysSteps : MethodName := ⟨RX10, "laysSteps", "([II)V"⟩
abbrev cX10_isEven : ByteArray := prog_12_method_32_code
def yX10_isEven : MethodName := ⟨RX10, "isEven", "([II)Z"⟩
abbrev cX10_isGood : ByteArray := prog_12_method_33_code
def yX10_isGood : MethodName := ⟨RX10, "isGood", "([I)Z"⟩
abbrev cX10_leastOf : ByteArray := prog_12_method_34_code
def yX10_leastOf : MethodName := ⟨RX10, "leastOf", "([I)I"⟩
abbrev cX10_sign : ByteArray := prog_12_method_35_code
def yX10_sign : MethodName := ⟨RX10, "sign", "(I)I"⟩
abbrev cX10_leads : ByteArray := prog_12_method_36_code
def yX10_leads : MethodName := ⟨RX10, "leads", "([III)I"⟩
abbrev cX10_laysBest : ByteArray := prog_12_method_37_code
def yX10_laysBest : MethodName := ⟨RX10, "laysBest", "([II)V"⟩
abbrev cX10_laysRing : ByteArray := prog_12_method_38_code
def yX10_laysRing : MethodName := ⟨RX10, "laysRing", "([IIIII)Z"⟩
abbrev cX10_isOn : ByteArray := prog_12_method_39_code
def yX10_isOn : MethodName := ⟨RX10, "isOn", "([IIIII)Z"⟩
abbrev cX10_isRefuted : ByteArray := prog_12_method_40_code
def yX10_isRefuted : MethodName := ⟨RX10, "isRefuted", "([IIII)Z"⟩
abbrev cX10_keepsRing : ByteArray := prog_12_method_41_code
def yX10_keepsRing : MethodName := ⟨RX10, "keepsRing", "()V"⟩
abbrev cX10_refuted : ByteArray := prog_12_method_42_code
def yX10_refuted : MethodName := ⟨RX10, "refuted", "(I)I"⟩
abbrev cX10_ring : ByteArray := prog_12_method_43_code
def yX10_ring : MethodName := ⟨RX10, "ring", "(I)I"⟩
abbrev cX10_items : ByteArray := prog_12_method_44_code
def yX10_items : MethodName := ⟨RX10, "items", "()I"⟩
abbrev cX10_facts : ByteArray := prog_12_method_45_code
def yX10_facts : MethodName := ⟨RX10, "facts", "()I"⟩
abbrev cX10_isItem : ByteArray := prog_12_method_46_code
def yX10_isItem : MethodName := ⟨RX10, "isItem", "(I)Z"⟩
abbrev cX10_areTwo : ByteArray := prog_12_method_47_code
def yX10_areTwo : MethodName := ⟨RX10, "areTwo", "(II)Z"⟩
abbrev cX10_mayTell : ByteArray := prog_12_method_48_code
def yX10_mayTell : MethodName := ⟨RX10, "mayTell", "(III)Z"⟩
abbrev cX10_befores : ByteArray := prog_12_method_49_code
def yX10_befores : MethodName := ⟨RX10, "befores", "()I"⟩
abbrev cX10_now : ByteArray := prog_12_method_50_code
def yX10_now : MethodName := ⟨RX10, "now", "(I)I"⟩
abbrev cX10_fact : ByteArray := prog_12_method_51_code
def yX10_fact : MethodName := ⟨RX10, "fact", "(II)I"⟩
abbrev cX10_about : ByteArray := prog_12_method_52_code
def yX10_about : MethodName := ⟨RX10, "about", "(II)I"⟩
abbrev cX10_snap : ByteArray := prog_12_method_53_code
def yX10_snap : MethodName := ⟨RX10, "snap", "()V"⟩
abbrev cX10_stay : ByteArray := prog_12_method_54_code
def yX10_stay : MethodName := ⟨RX10, "stay", "()V"⟩
abbrev cX10_tell : ByteArray := prog_12_method_55_code
def yX10_tell : MethodName := ⟨RX10, "tell", "(III)I"⟩
abbrev cX10_test : ByteArray := prog_12_method_56_code
def yX10_test : MethodName := ⟨RX10, "test", "(III)I"⟩
abbrev cX10_forget : ByteArray := prog_12_method_57_code
def yX10_forget : MethodName := ⟨RX10, "forget", "(I)I"⟩
abbrev cX10_isLength : ByteArray := prog_12_method_58_code
def yX10_isLength : MethodName := ⟨RX10, "isLength", "(I)Z"⟩
abbrev cX10_laysBegins : ByteArray := prog_12_method_59_code
def yX10_laysBegins : MethodName := ⟨RX10, "laysBegins", "(I)V"⟩
abbrev cX10_begin : ByteArray := prog_12_method_60_code
def yX10_begin : MethodName := ⟨RX10, "begin", "(II)I"⟩
abbrev cX10_gap : ByteArray := prog_12_method_61_code
def yX10_gap : MethodName := ⟨RX10, "gap", "(IIII)I"⟩
abbrev cX10_tight : ByteArray := prog_12_method_62_code
def yX10_tight : MethodName := ⟨RX10, "tight", "(I)I"⟩
abbrev cX10_late : ByteArray := prog_12_method_63_code
def yX10_late : MethodName := ⟨RX10, "late", "(III)I"⟩
abbrev cX10_isGoodWith : ByteArray := prog_12_method_64_code
def yX10_isGoodWith : MethodName := ⟨RX10, "isGoodWith", "([IIII)Z"⟩
abbrev cX10_mays : ByteArray := prog_12_method_65_code
def yX10_mays : MethodName := ⟨RX10, "mays", "(II)I"⟩
abbrev cX10_may : ByteArray := prog_12_method_66_code
def yX10_may : MethodName := ⟨RX10, "may", "(II)I"⟩
abbrev cX10_idle : ByteArray := prog_12_method_67_code
def yX10_idle : MethodName := ⟨RX10, "idle", "()I"⟩
abbrev cX10_goesOn : ByteArray := prog_12_method_68_code
def yX10_goesOn : MethodName := ⟨RX10, "goesOn", "(II)V"⟩
abbrev cX10_ways : ByteArray := prog_12_method_69_code
def yX10_ways : MethodName := ⟨RX10, "ways", "()I"⟩
abbrev cX10_isGoodWithout : ByteArray := prog_12_method_70_code
def yX10_isGoodWithout : MethodName := ⟨RX10, "isGoodWithout", "(IIII)Z"⟩
abbrev cX10_yields : ByteArray := prog_12_method_71_code
def yX10_yields : MethodName := ⟨RX10, "yields", "(III)I"⟩
abbrev cX10_laysOrder : ByteArray := prog_12_method_72_code
def yX10_laysOrder : MethodName := ⟨RX10, "laysOrder", "()V"⟩
abbrev cX10_isAhead : ByteArray := prog_12_method_73_code
def yX10_isAhead : MethodName := ⟨RX10, "isAhead", "(II)Z"⟩
abbrev cX10_ahead : ByteArray := prog_12_method_74_code
def yX10_ahead : MethodName := ⟨RX10, "ahead", "(II)I"⟩
abbrev cX10_isAlike : ByteArray := prog_12_method_75_code
def yX10_isAlike : MethodName := ⟨RX10, "isAlike", "(IZ)Z"⟩
abbrev cX10_most : ByteArray := prog_12_method_76_code
def yX10_most : MethodName := ⟨RX10, "most", "(ZI)I"⟩
abbrev cX10_chain : ByteArray := prog_12_method_77_code
def yX10_chain : MethodName := ⟨RX10, "chain", "(I)I"⟩
abbrev cX10_crowd : ByteArray := prog_12_method_78_code
def yX10_crowd : MethodName := ⟨RX10, "crowd", "(I)I"⟩
abbrev cX10_laysRooms : ByteArray := prog_12_method_79_code
def yX10_laysRooms : MethodName := ⟨RX10, "laysRooms", "()I"⟩
abbrev cX10_isFree : ByteArray := prog_12_method_80_code
def yX10_isFree : MethodName := ⟨RX10, "isFree", "(III)Z"⟩
abbrev cX10_room : ByteArray := prog_12_method_81_code
def yX10_room : MethodName := ⟨RX10, "room", "(I)I"⟩
abbrev cX10_laysShape : ByteArray := prog_12_method_82_code
def yX10_laysShape : MethodName := ⟨RX10, "laysShape", "()V"⟩
abbrev cX10_shape : ByteArray := prog_12_method_83_code
def yX10_shape : MethodName := ⟨RX10, "shape", "(I)I"⟩
abbrev cX10_rowsFrom : ByteArray := prog_12_method_84_code
def yX10_rowsFrom : MethodName := ⟨RX10, "rowsFrom", "(III)I"⟩
abbrev cX10_rank : ByteArray := prog_12_method_85_code
def yX10_rank : MethodName := ⟨RX10, "rank", "()I"⟩
abbrev cX10_shapes : ByteArray := prog_12_method_86_code
def yX10_shapes : MethodName := ⟨RX10, "shapes", "(I)I"⟩
abbrev cX10_make : ByteArray := prog_12_method_87_code
def yX10_make : MethodName := ⟨RX10, "make", "(II)I"⟩
abbrev cX10_finish : ByteArray := prog_12_method_88_code
def yX10_finish : MethodName := ⟨RX10, "finish", "()I"⟩
abbrev cX10_grow : ByteArray := prog_12_method_89_code
def yX10_grow : MethodName := ⟨RX10, "grow", "()I"⟩
abbrev cX10_drop : ByteArray := prog_12_method_90_code
def yX10_drop : MethodName := ⟨RX10, "drop", "(I)I"⟩
abbrev cX10_turn : ByteArray := prog_12_method_91_code
def yX10_turn : MethodName := ⟨RX10, "turn", "()I"⟩
abbrev cX10_draw : ByteArray := prog_12_method_92_code
def yX10_draw : MethodName := ⟨RX10, "draw", "(I)I"⟩
abbrev cX10_does : ByteArray := prog_12_method_93_code
def yX10_does : MethodName := ⟨RX10, "does", "()Z"⟩
abbrev cX10_drawn : ByteArray := prog_12_method_94_code
def yX10_drawn : MethodName := ⟨RX10, "drawn", "(II)I"⟩
abbrev cX10_undo : ByteArray := prog_12_method_95_code
def yX10_undo : MethodName := ⟨RX10, "undo", "()I"⟩
abbrev cX10_image : ByteArray := prog_12_method_96_code
def yX10_image : MethodName := ⟨RX10, "image", "(I)Z"⟩
abbrev cX10_restore : ByteArray := prog_12_method_97_code
def yX10_restore : MethodName := ⟨RX10, "restore", "(I)Z"⟩
def RJx145de : String := "java/io/Serializable"
def RJ6 : String := "java/lang/Integer"
abbrev cJ6_bitCount_0f7a4 : ByteArray := prog_15_method_49_code
def yJ6_bitCount_0f7a4 : MethodName := ⟨RJ6, "bitCount", "(I)I"⟩
def RJ9 : String := "java/lang/Math"
abbrev cJ9_abs_0f7a4 : ByteArray := prog_16_method_59_code
def yJ9_abs_0f7a4 : MethodName := ⟨RJ9, "abs", "(I)I"⟩
abbrev cJ9_max_7cf53 : ByteArray := prog_16_method_65_code
def yJ9_max_7cf53 : MethodName := ⟨RJ9, "max", "(II)I"⟩
abbrev cJ9_min_7cf53 : ByteArray := prog_16_method_69_code
def yJ9_min_7cf53 : MethodName := ⟨RJ9, "min", "(II)I"⟩
def RJ0 : String := "java/lang/String"
def RJ10 : String := "java/lang/System"
def RJ7 : String := "java/util/Arrays"
abbrev cJ7_fill_53178 : ByteArray := prog_21_method_103_code
def yJ7_fill_53178 : MethodName := ⟨RJ7, "fill", "([II)V"⟩
def RL : String := "SpanFactsLaw"
abbrev cL_fact : ByteArray := method_3_code
def yL_fact : MethodName := ⟨RL, "fact", "(LSpanFacts;II[J)I"⟩
abbrev cL_law : ByteArray := code
def yL_law : MethodName := ⟨RL, "law", "([I)Z"⟩
abbrev vwCl : List vw_C := [(RX0, TX0, 5), (RX1, TX1, 8), (RX2, TX2, 2), (RX3, TX3, 2), (RX4, TX4, 11), (RX5, TX5, 6), (RX6, TX6, 1), (RX7, TX7, 2), (RX8, TX8, 4), (RX9, TX9, 15), (RX10, TX10, 38)]
def TB : List Cond := lw_tbl.filter goodWord
theorem tbm {w : Cond} (i : Nat) (h : tables_1[i]? = some w) (g : goodWord w = true) : w ∈ TB := List.mem_filter.mpr ⟨List.mem_append_right _ (List.mem_of_getElem? h), g⟩
theorem tbs {q : MethodName × Nat} (i : Nat) (h : lw_privs[i]? = some q) (g : goodWord (Cond.selects q.1.cls q.1 q.1) = true) : Cond.selects q.1.cls q.1 q.1 ∈ TB := List.mem_filter.mpr ⟨List.mem_append_left _ (List.mem_map_of_mem (List.mem_of_getElem? h)), g⟩
theorem tb_l {args : Array Value} {s : State} (h : ∀ w ∈ lw_tbl, w.before args s = true) : ∀ w ∈ TB, w.before args s = true := fun w hw => h w (List.mem_filter.mp hw).1
theorem tb_good : ∀ w ∈ TB, goodWord w = true := fun _ hw => (List.mem_filter.mp hw).2
/-- what a callee needs of the tables: an instance method, a constructor, a static one; n parameters -/
def VO (y : MethodName) (cc : ByteArray) (nL : Nat) (ret : Option FieldType) (n : Nat) : Prop := Cond.instanceMethod y ∈ TB ∧ Cond.selects y.cls y y ∈ TB ∧ Cond.code y cc nL ret ∈ TB ∧ Cond.initialized y.cls ∈ TB ∧ (y.cls ≠ "java/lang/invoke/MethodHandle" ∧ y.cls ≠ "java/lang/invoke/VarHandle" ∧ (parseMethodDescriptor y.desc).map (fun d => d.parameters.length) = some n) ∧ plainName y.cls = true ∧ nL ≤ 22
def NO1 (y : MethodName) (cc : ByteArray) (nL n : Nat) : Prop := Cond.instanceMethod y ∈ TB ∧ Cond.code y cc nL none ∈ TB ∧ Cond.initialized y.cls ∈ TB ∧ (y.cls ≠ "java/lang/invoke/MethodHandle" ∧ y.cls ≠ "java/lang/invoke/VarHandle" ∧ (parseMethodDescriptor y.desc).map (fun d => d.parameters.length) = some n) ∧ plainName y.cls = true ∧ nL ≤ 22 ∧ y.name = "<init>"
def SO (y : MethodName) (cc : ByteArray) (nL : Nat) (ret : Option FieldType) (n : Nat) : Prop := Cond.static y ∈ TB ∧ Cond.code y cc nL ret ∈ TB ∧ Cond.initialized y.cls ∈ TB ∧ (y.cls ≠ "java/lang/invoke/MethodHandle" ∧ y.cls ≠ "java/lang/invoke/VarHandle" ∧ (parseMethodDescriptor y.desc).map (fun d => d.parameters.length) = some n) ∧ plainName y.cls = true ∧ nL ≤ 22
theorem ini_X0 : Cond.initialized RX0 ∈ TB := tbm 2 (by decide +kernel) (by decide +kernel)
theorem ini_X1 : Cond.initialized RX1 ∈ TB := tbm 6 (by decide +kernel) (by decide +kernel)
theorem ini_X2 : Cond.initialized RX2 ∈ TB := tbm 3 (by decide +kernel) (by decide +kernel)
theorem ini_X3 : Cond.initialized RX3 ∈ TB := tbm 5 (by decide +kernel) (by decide +kernel)
theorem ini_X4 : Cond.initialized RX4 ∈ TB := tbm 10 (by decide +kernel) (by decide +kernel)
theorem ini_X5 : Cond.initialized RX5 ∈ TB := tbm 4 (by decide +kernel) (by decide +kernel)
theorem ini_X6 : Cond.initialized RX6 ∈ TB := tbm 8 (by decide +kernel) (by decide +kernel)
theorem ini_X7 : Cond.initialized RX7 ∈ TB := tbm 9 (by decide +kernel) (by decide +kernel)
theorem ini_X8 : Cond.initialized RX8 ∈ TB := tbm 7 (by decide +kernel) (by decide +kernel)
theorem ini_X9 : Cond.initialized RX9 ∈ TB := tbm 1 (by decide +kernel) (by decide +kernel)
theorem ini_X10 : Cond.initialized RX10 ∈ TB := tbm 11 (by decide +kernel) (by decide +kernel)
theorem ini_J6 : Cond.initialized RJ6 ∈ TB := tbm 19 (by decide +kernel) (by decide +kernel)
theorem ini_J9 : Cond.initialized RJ9 ∈ TB := tbm 12 (by decide +kernel) (by decide +kernel)
theorem ini_J10 : Cond.initialized RJ10 ∈ TB := tbm 14 (by decide +kernel) (by decide +kernel)
theorem ini_J7 : Cond.initialized RJ7 ∈ TB := tbm 13 (by decide +kernel) (by decide +kernel)
theorem ini_L : Cond.initialized RL ∈ TB := tbm 0 (by decide +kernel) (by decide +kernel)
theorem kl_L_8 : Cond.classLink RL 8 RX9 ∈ TB := tbm 20 (by decide +kernel) (by decide +kernel)
theorem ins_X9 : Cond.instantiable RX9 15 ∈ TB := tbm 21 (by decide +kernel) (by decide +kernel)
theorem ml_L_15 : Cond.methodLink RL 15 yX9_init ∈ TB := tbm 22 (by decide +kernel) (by decide +kernel)
theorem ml_X9_3 : Cond.methodLink RX9 3 objectInit ∈ TB := tbm 25 (by decide +kernel) (by decide +kernel)
theorem kl_X9_9 : Cond.classLink RX9 9 RX0 ∈ TB := tbm 28 (by decide +kernel) (by decide +kernel)
theorem ins_X0 : Cond.instantiable RX0 5 ∈ TB := tbm 29 (by decide +kernel) (by decide +kernel)
theorem ml_X0_3 : Cond.methodLink RX0 3 objectInit ∈ TB := tbm 33 (by decide +kernel) (by decide +kernel)
theorem fl_X0_21 : Cond.fieldLink RX0 21 "SpanFacts$Facts" "items" "I" ∈ TB := tbm 34 (by decide +kernel) (by decide +kernel)
theorem fl_X1_31 : Cond.fieldLink RX1 31 "SpanFacts$Facts" "items" "I" ∈ TB := tbm 35 (by decide +kernel) (by decide +kernel)
theorem fl_X8_29 : Cond.fieldLink RX8 29 "SpanFacts$Facts" "items" "I" ∈ TB := tbm 36 (by decide +kernel) (by decide +kernel)
theorem fl_X4_83 : Cond.fieldLink RX4 83 "SpanFacts$Facts" "items" "I" ∈ TB := tbm 37 (by decide +kernel) (by decide +kernel)
theorem fl_X5_37 : Cond.fieldLink RX5 37 "SpanFacts$Facts" "items" "I" ∈ TB := tbm 38 (by decide +kernel) (by decide +kernel)
theorem fl_X9_120 : Cond.fieldLink RX9 120 "SpanFacts$Facts" "items" "I" ∈ TB := tbm 39 (by decide +kernel) (by decide +kernel)
theorem fl_X3_45 : Cond.fieldLink RX3 45 "SpanFacts$Facts" "items" "I" ∈ TB := tbm 40 (by decide +kernel) (by decide +kernel)
theorem fl_X0_25 : Cond.fieldLink RX0 25 "SpanFacts$Facts" "count" "I" ∈ TB := tbm 41 (by decide +kernel) (by decide +kernel)
theorem fl_X5_42 : Cond.fieldLink RX5 42 "SpanFacts$Facts" "count" "I" ∈ TB := tbm 42 (by decide +kernel) (by decide +kernel)
theorem fl_X9_123 : Cond.fieldLink RX9 123 "SpanFacts$Facts" "count" "I" ∈ TB := tbm 43 (by decide +kernel) (by decide +kernel)
theorem fl_X3_49 : Cond.fieldLink RX3 49 "SpanFacts$Facts" "count" "I" ∈ TB := tbm 44 (by decide +kernel) (by decide +kernel)
theorem fl_X0_9 : Cond.fieldLink RX0 9 "SpanFacts$Facts" "kinds" "[I" ∈ TB := tbm 45 (by decide +kernel) (by decide +kernel)
theorem fl_X5_51 : Cond.fieldLink RX5 51 "SpanFacts$Facts" "kinds" "[I" ∈ TB := tbm 46 (by decide +kernel) (by decide +kernel)
theorem fl_X9_144 : Cond.fieldLink RX9 144 "SpanFacts$Facts" "kinds" "[I" ∈ TB := tbm 47 (by decide +kernel) (by decide +kernel)
theorem fl_X3_58 : Cond.fieldLink RX3 58 "SpanFacts$Facts" "kinds" "[I" ∈ TB := tbm 48 (by decide +kernel) (by decide +kernel)
theorem fl_X0_15 : Cond.fieldLink RX0 15 "SpanFacts$Facts" "firsts" "[I" ∈ TB := tbm 49 (by decide +kernel) (by decide +kernel)
theorem fl_X5_45 : Cond.fieldLink RX5 45 "SpanFacts$Facts" "firsts" "[I" ∈ TB := tbm 50 (by decide +kernel) (by decide +kernel)
theorem fl_X9_147 : Cond.fieldLink RX9 147 "SpanFacts$Facts" "firsts" "[I" ∈ TB := tbm 51 (by decide +kernel) (by decide +kernel)
theorem fl_X3_52 : Cond.fieldLink RX3 52 "SpanFacts$Facts" "firsts" "[I" ∈ TB := tbm 52 (by decide +kernel) (by decide +kernel)
theorem fl_X0_18 : Cond.fieldLink RX0 18 "SpanFacts$Facts" "seconds" "[I" ∈ TB := tbm 53 (by decide +kernel) (by decide +kernel)
theorem fl_X5_48 : Cond.fieldLink RX5 48 "SpanFacts$Facts" "seconds" "[I" ∈ TB := tbm 54 (by decide +kernel) (by decide +kernel)
theorem fl_X9_150 : Cond.fieldLink RX9 150 "SpanFacts$Facts" "seconds" "[I" ∈ TB := tbm 55 (by decide +kernel) (by decide +kernel)
theorem fl_X3_55 : Cond.fieldLink RX3 55 "SpanFacts$Facts" "seconds" "[I" ∈ TB := tbm 56 (by decide +kernel) (by decide +kernel)
theorem ac_int : Cond.arrayClass .int ∈ TB := tbm 68 (by decide +kernel) (by decide +kernel)
theorem kl_X9_19 : Cond.classLink RX9 19 RX2 ∈ TB := tbm 69 (by decide +kernel) (by decide +kernel)
theorem ins_X2 : Cond.instantiable RX2 2 ∈ TB := tbm 70 (by decide +kernel) (by decide +kernel)
theorem ml_X9_21 : Cond.methodLink RX9 21 yX2_init ∈ TB := tbm 71 (by decide +kernel) (by decide +kernel)
theorem ml_X2_3 : Cond.methodLink RX2 3 objectInit ∈ TB := tbm 74 (by decide +kernel) (by decide +kernel)
theorem kl_X2_9 : Cond.classLink RX2 9 RX0 ∈ TB := tbm 75 (by decide +kernel) (by decide +kernel)
theorem fl_X2_18 : Cond.fieldLink RX2 18 "SpanFacts$Past" "count" "I" ∈ TB := tbm 78 (by decide +kernel) (by decide +kernel)
theorem fl_X9_117 : Cond.fieldLink RX9 117 "SpanFacts$Past" "count" "I" ∈ TB := tbm 79 (by decide +kernel) (by decide +kernel)
theorem fl_X2_11 : Cond.fieldLink RX2 11 "SpanFacts$Past" "kept" "[LSpanFacts$Facts;" ∈ TB := tbm 80 (by decide +kernel) (by decide +kernel)
theorem kl_X9_34 : Cond.classLink RX9 34 RX5 ∈ TB := tbm 86 (by decide +kernel) (by decide +kernel)
theorem ins_X5 : Cond.instantiable RX5 6 ∈ TB := tbm 87 (by decide +kernel) (by decide +kernel)
theorem ml_X5_3 : Cond.methodLink RX5 3 objectInit ∈ TB := tbm 91 (by decide +kernel) (by decide +kernel)
theorem fl_X5_26 : Cond.fieldLink RX5 26 "SpanFacts$Ring" "size" "I" ∈ TB := tbm 92 (by decide +kernel) (by decide +kernel)
theorem fl_X9_176 : Cond.fieldLink RX9 176 "SpanFacts$Ring" "size" "I" ∈ TB := tbm 93 (by decide +kernel) (by decide +kernel)
theorem fl_X5_62 : Cond.fieldLink RX5 62 "SpanFacts$Ring" "befores" "I" ∈ TB := tbm 94 (by decide +kernel) (by decide +kernel)
theorem fl_X9_177 : Cond.fieldLink RX9 177 "SpanFacts$Ring" "befores" "I" ∈ TB := tbm 95 (by decide +kernel) (by decide +kernel)
theorem fl_X5_65 : Cond.fieldLink RX5 65 "SpanFacts$Ring" "from" "I" ∈ TB := tbm 96 (by decide +kernel) (by decide +kernel)
theorem fl_X9_180 : Cond.fieldLink RX9 180 "SpanFacts$Ring" "from" "I" ∈ TB := tbm 97 (by decide +kernel) (by decide +kernel)
theorem fl_X5_68 : Cond.fieldLink RX5 68 "SpanFacts$Ring" "to" "I" ∈ TB := tbm 98 (by decide +kernel) (by decide +kernel)
theorem fl_X9_183 : Cond.fieldLink RX9 183 "SpanFacts$Ring" "to" "I" ∈ TB := tbm 99 (by decide +kernel) (by decide +kernel)
theorem fl_X5_9 : Cond.fieldLink RX5 9 "SpanFacts$Ring" "row" "[I" ∈ TB := tbm 100 (by decide +kernel) (by decide +kernel)
theorem fl_X9_186 : Cond.fieldLink RX9 186 "SpanFacts$Ring" "row" "[I" ∈ TB := tbm 101 (by decide +kernel) (by decide +kernel)
theorem fl_X5_15 : Cond.fieldLink RX5 15 "SpanFacts$Ring" "sums" "[I" ∈ TB := tbm 102 (by decide +kernel) (by decide +kernel)
theorem ac_boolean : Cond.arrayClass .boolean ∈ TB := tbm 116 (by decide +kernel) (by decide +kernel)
theorem kl_X9_44 : Cond.classLink RX9 44 RX3 ∈ TB := tbm 117 (by decide +kernel) (by decide +kernel)
theorem ins_X3 : Cond.instantiable RX3 2 ∈ TB := tbm 118 (by decide +kernel) (by decide +kernel)
theorem ml_X3_3 : Cond.methodLink RX3 3 objectInit ∈ TB := tbm 122 (by decide +kernel) (by decide +kernel)
theorem fl_X3_15 : Cond.fieldLink RX3 15 "SpanFacts$Reach" "items" "I" ∈ TB := tbm 123 (by decide +kernel) (by decide +kernel)
theorem fl_X3_9 : Cond.fieldLink RX3 9 "SpanFacts$Reach" "most" "[I" ∈ TB := tbm 124 (by decide +kernel) (by decide +kernel)
theorem kl_X9_51 : Cond.classLink RX9 51 RX1 ∈ TB := tbm 130 (by decide +kernel) (by decide +kernel)
theorem ins_X1 : Cond.instantiable RX1 8 ∈ TB := tbm 131 (by decide +kernel) (by decide +kernel)
theorem ml_X1_3 : Cond.methodLink RX1 3 objectInit ∈ TB := tbm 135 (by decide +kernel) (by decide +kernel)
theorem kl_X1_24 : Cond.classLink RX1 24 RX3 ∈ TB := tbm 136 (by decide +kernel) (by decide +kernel)
theorem fl_X1_38 : Cond.fieldLink RX1 38 "SpanFacts$Order" "least" "I" ∈ TB := tbm 138 (by decide +kernel) (by decide +kernel)
theorem fl_X9_130 : Cond.fieldLink RX9 130 "SpanFacts$Order" "least" "I" ∈ TB := tbm 139 (by decide +kernel) (by decide +kernel)
theorem fl_X1_62 : Cond.fieldLink RX1 62 "SpanFacts$Order" "rooms" "I" ∈ TB := tbm 140 (by decide +kernel) (by decide +kernel)
theorem fl_X9_240 : Cond.fieldLink RX9 240 "SpanFacts$Order" "rooms" "I" ∈ TB := tbm 141 (by decide +kernel) (by decide +kernel)
theorem fl_X1_9 : Cond.fieldLink RX1 9 "SpanFacts$Order" "roomOf" "[I" ∈ TB := tbm 142 (by decide +kernel) (by decide +kernel)
theorem fl_X9_243 : Cond.fieldLink RX9 243 "SpanFacts$Order" "roomOf" "[I" ∈ TB := tbm 143 (by decide +kernel) (by decide +kernel)
theorem fl_X1_15 : Cond.fieldLink RX1 15 "SpanFacts$Order" "profile" "[I" ∈ TB := tbm 144 (by decide +kernel) (by decide +kernel)
theorem fl_X9_249 : Cond.fieldLink RX9 249 "SpanFacts$Order" "profile" "[I" ∈ TB := tbm 145 (by decide +kernel) (by decide +kernel)
theorem fl_X1_37 : Cond.fieldLink RX1 37 "SpanFacts$Order" "items" "I" ∈ TB := tbm 146 (by decide +kernel) (by decide +kernel)
theorem fl_X1_18 : Cond.fieldLink RX1 18 "SpanFacts$Order" "starts" "[I" ∈ TB := tbm 147 (by decide +kernel) (by decide +kernel)
theorem fl_X1_21 : Cond.fieldLink RX1 21 "SpanFacts$Order" "queue" "[I" ∈ TB := tbm 148 (by decide +kernel) (by decide +kernel)
theorem fl_X1_27 : Cond.fieldLink RX1 27 "SpanFacts$Order" "spans" "LSpanFacts$Reach;" ∈ TB := tbm 149 (by decide +kernel) (by decide +kernel)
theorem kl_X9_58 : Cond.classLink RX9 58 RX8 ∈ TB := tbm 167 (by decide +kernel) (by decide +kernel)
theorem ins_X8 : Cond.instantiable RX8 4 ∈ TB := tbm 168 (by decide +kernel) (by decide +kernel)
theorem ml_X9_60 : Cond.methodLink RX9 60 yX8_init ∈ TB := tbm 169 (by decide +kernel) (by decide +kernel)
theorem ml_X8_3 : Cond.methodLink RX8 3 objectInit ∈ TB := tbm 172 (by decide +kernel) (by decide +kernel)
theorem kl_X8_18 : Cond.classLink RX8 18 RX3 ∈ TB := tbm 173 (by decide +kernel) (by decide +kernel)
theorem fl_X8_25 : Cond.fieldLink RX8 25 "SpanFacts$Ways" "pairs" "I" ∈ TB := tbm 176 (by decide +kernel) (by decide +kernel)
theorem fl_X8_9 : Cond.fieldLink RX8 9 "SpanFacts$Ways" "firsts" "[I" ∈ TB := tbm 177 (by decide +kernel) (by decide +kernel)
theorem fl_X8_15 : Cond.fieldLink RX8 15 "SpanFacts$Ways" "seconds" "[I" ∈ TB := tbm 178 (by decide +kernel) (by decide +kernel)
theorem fl_X8_20 : Cond.fieldLink RX8 20 "SpanFacts$Ways" "layers" "[LSpanFacts$Reach;" ∈ TB := tbm 179 (by decide +kernel) (by decide +kernel)
theorem kl_X9_65 : Cond.classLink RX9 65 RX6 ∈ TB := tbm 189 (by decide +kernel) (by decide +kernel)
theorem ins_X6 : Cond.instantiable RX6 1 ∈ TB := tbm 190 (by decide +kernel) (by decide +kernel)
theorem ml_X6_3 : Cond.methodLink RX6 3 objectInit ∈ TB := tbm 194 (by decide +kernel) (by decide +kernel)
theorem fl_X6_9 : Cond.fieldLink RX6 9 "SpanFacts$Shapes" "tails" "[I" ∈ TB := tbm 195 (by decide +kernel) (by decide +kernel)
theorem kl_X9_76 : Cond.classLink RX9 76 RX7 ∈ TB := tbm 199 (by decide +kernel) (by decide +kernel)
theorem ins_X7 : Cond.instantiable RX7 2 ∈ TB := tbm 200 (by decide +kernel) (by decide +kernel)
theorem ml_X7_1 : Cond.methodLink RX7 1 objectInit ∈ TB := tbm 204 (by decide +kernel) (by decide +kernel)
theorem fl_X9_96 : Cond.fieldLink RX9 96 "SpanFacts$Tape" "size" "I" ∈ TB := tbm 205 (by decide +kernel) (by decide +kernel)
theorem fl_X7_13 : Cond.fieldLink RX7 13 "SpanFacts$Tape" "size" "I" ∈ TB := tbm 206 (by decide +kernel) (by decide +kernel)
theorem fl_X4_37 : Cond.fieldLink RX4 37 "SpanFacts$Tape" "size" "I" ∈ TB := tbm 207 (by decide +kernel) (by decide +kernel)
theorem fl_X7_9 : Cond.fieldLink RX7 9 "SpanFacts$Tape" "bytes" "[I" ∈ TB := tbm 208 (by decide +kernel) (by decide +kernel)
theorem fl_X4_116 : Cond.fieldLink RX4 116 "SpanFacts$Tape" "bytes" "[I" ∈ TB := tbm 209 (by decide +kernel) (by decide +kernel)
theorem kl_X9_83 : Cond.classLink RX9 83 RX4 ∈ TB := tbm 215 (by decide +kernel) (by decide +kernel)
theorem ins_X4 : Cond.instantiable RX4 11 ∈ TB := tbm 216 (by decide +kernel) (by decide +kernel)
theorem ml_X9_85 : Cond.methodLink RX9 85 yX4_init ∈ TB := tbm 217 (by decide +kernel) (by decide +kernel)
theorem ml_X4_5 : Cond.methodLink RX4 5 objectInit ∈ TB := tbm 220 (by decide +kernel) (by decide +kernel)
theorem kl_X4_11 : Cond.classLink RX4 11 RX0 ∈ TB := tbm 221 (by decide +kernel) (by decide +kernel)
theorem fl_X4_30 : Cond.fieldLink RX4 30 "SpanFacts$Reader" "fault" "I" ∈ TB := tbm 223 (by decide +kernel) (by decide +kernel)
theorem fl_X9_107 : Cond.fieldLink RX9 107 "SpanFacts$Reader" "fault" "I" ∈ TB := tbm 224 (by decide +kernel) (by decide +kernel)
theorem fl_X4_14 : Cond.fieldLink RX4 14 "SpanFacts$Reader" "draft" "LSpanFacts$Facts;" ∈ TB := tbm 225 (by decide +kernel) (by decide +kernel)
theorem fl_X9_110 : Cond.fieldLink RX9 110 "SpanFacts$Reader" "draft" "LSpanFacts$Facts;" ∈ TB := tbm 226 (by decide +kernel) (by decide +kernel)
theorem fl_X4_74 : Cond.fieldLink RX4 74 "SpanFacts$Reader" "faultPlace" "I" ∈ TB := tbm 227 (by decide +kernel) (by decide +kernel)
theorem fl_X4_48 : Cond.fieldLink RX4 48 "SpanFacts$Reader" "limit" "I" ∈ TB := tbm 228 (by decide +kernel) (by decide +kernel)
theorem fl_X4_86 : Cond.fieldLink RX4 86 "SpanFacts$Reader" "place" "I" ∈ TB := tbm 229 (by decide +kernel) (by decide +kernel)
theorem fl_X4_34 : Cond.fieldLink RX4 34 "SpanFacts$Reader" "next" "I" ∈ TB := tbm 230 (by decide +kernel) (by decide +kernel)
theorem fl_X4_57 : Cond.fieldLink RX4 57 "SpanFacts$Reader" "token" "I" ∈ TB := tbm 231 (by decide +kernel) (by decide +kernel)
theorem fl_X4_77 : Cond.fieldLink RX4 77 "SpanFacts$Reader" "word" "J" ∈ TB := tbm 232 (by decide +kernel) (by decide +kernel)
theorem fl_X4_18 : Cond.fieldLink RX4 18 "SpanFacts$Reader" "names" "[J" ∈ TB := tbm 233 (by decide +kernel) (by decide +kernel)
theorem fl_X4_22 : Cond.fieldLink RX4 22 "SpanFacts$Reader" "tape" "LSpanFacts$Tape;" ∈ TB := tbm 234 (by decide +kernel) (by decide +kernel)
theorem fl_X4_26 : Cond.fieldLink RX4 26 "SpanFacts$Reader" "proof" "LSpanFacts$Ring;" ∈ TB := tbm 235 (by decide +kernel) (by decide +kernel)
theorem ac_long : Cond.arrayClass .long ∈ TB := tbm 259 (by decide +kernel) (by decide +kernel)
theorem fl_X9_12 : Cond.fieldLink RX9 12 "SpanFacts" "facts" "LSpanFacts$Facts;" ∈ TB := tbm 260 (by decide +kernel) (by decide +kernel)
theorem fl_X9_16 : Cond.fieldLink RX9 16 "SpanFacts" "mark" "LSpanFacts$Facts;" ∈ TB := tbm 261 (by decide +kernel) (by decide +kernel)
theorem fl_X9_22 : Cond.fieldLink RX9 22 "SpanFacts" "past" "LSpanFacts$Past;" ∈ TB := tbm 262 (by decide +kernel) (by decide +kernel)
theorem fl_X9_26 : Cond.fieldLink RX9 26 "SpanFacts" "images" "[LSpanFacts$Facts;" ∈ TB := tbm 263 (by decide +kernel) (by decide +kernel)
theorem fl_X9_30 : Cond.fieldLink RX9 30 "SpanFacts" "imageKept" "[Z" ∈ TB := tbm 264 (by decide +kernel) (by decide +kernel)
theorem fl_X9_37 : Cond.fieldLink RX9 37 "SpanFacts" "proof" "LSpanFacts$Ring;" ∈ TB := tbm 265 (by decide +kernel) (by decide +kernel)
theorem fl_X9_41 : Cond.fieldLink RX9 41 "SpanFacts" "sketch" "LSpanFacts$Ring;" ∈ TB := tbm 266 (by decide +kernel) (by decide +kernel)
theorem fl_X9_47 : Cond.fieldLink RX9 47 "SpanFacts" "reach" "LSpanFacts$Reach;" ∈ TB := tbm 267 (by decide +kernel) (by decide +kernel)
theorem fl_X9_54 : Cond.fieldLink RX9 54 "SpanFacts" "order" "LSpanFacts$Order;" ∈ TB := tbm 268 (by decide +kernel) (by decide +kernel)
theorem fl_X9_61 : Cond.fieldLink RX9 61 "SpanFacts" "wayCounter" "LSpanFacts$Ways;" ∈ TB := tbm 269 (by decide +kernel) (by decide +kernel)
theorem fl_X9_68 : Cond.fieldLink RX9 68 "SpanFacts" "catalogue" "LSpanFacts$Shapes;" ∈ TB := tbm 270 (by decide +kernel) (by decide +kernel)
theorem fl_X9_72 : Cond.fieldLink RX9 72 "SpanFacts" "spelled" "[I" ∈ TB := tbm 271 (by decide +kernel) (by decide +kernel)
theorem fl_X9_79 : Cond.fieldLink RX9 79 "SpanFacts" "tape" "LSpanFacts$Tape;" ∈ TB := tbm 272 (by decide +kernel) (by decide +kernel)
theorem fl_X9_88 : Cond.fieldLink RX9 88 "SpanFacts" "reader" "LSpanFacts$Reader;" ∈ TB := tbm 273 (by decide +kernel) (by decide +kernel)
theorem fl_X9_92 : Cond.fieldLink RX9 92 "SpanFacts" "seedNow" "I" ∈ TB := tbm 274 (by decide +kernel) (by decide +kernel)
theorem ml_L_19 : Cond.methodLink RL 19 yX9_feed ∈ TB := tbm 306 (by decide +kernel) (by decide +kernel)
theorem ml_X9_99 : Cond.methodLink RX9 99 yX7_put ∈ TB := tbm 310 (by decide +kernel) (by decide +kernel)
theorem ml_L_24 : Cond.methodLink RL 24 yX9_end ∈ TB := tbm 314 (by decide +kernel) (by decide +kernel)
theorem ml_L_29 : Cond.methodLink RL 29 yX9_notes ∈ TB := tbm 318 (by decide +kernel) (by decide +kernel)
theorem ml_X9_103 : Cond.methodLink RX9 103 yX4_read ∈ TB := tbm 322 (by decide +kernel) (by decide +kernel)
theorem ml_X4_42 : Cond.methodLink RX4 42 yJ9_min_7cf53 ∈ TB := tbm 326 (by decide +kernel) (by decide +kernel)
theorem ml_X4_51 : Cond.methodLink RX4 51 yX0_clear ∈ TB := tbm 329 (by decide +kernel) (by decide +kernel)
theorem ml_X4_54 : Cond.methodLink RX4 54 yX4_step ∈ TB := tbm 333 (by decide +kernel) (by decide +kernel)
theorem ml_X4_120 : Cond.methodLink RX4 120 yX4_isBlank ∈ TB := tbm 337 (by decide +kernel) (by decide +kernel)
theorem ml_X4_124 : Cond.methodLink RX4 124 yX4_isLetter ∈ TB := tbm 340 (by decide +kernel) (by decide +kernel)
theorem ml_X4_127 : Cond.methodLink RX4 127 yX4_readWord ∈ TB := tbm 343 (by decide +kernel) (by decide +kernel)
theorem cn_X4_130 : Cond.constantLong RX4 130 (32) ∈ TB := tbm 347 (by decide +kernel) (by decide +kernel)
theorem ml_X4_60 : Cond.methodLink RX4 60 yX4_isItemRow ∈ TB := tbm 348 (by decide +kernel) (by decide +kernel)
theorem cn_X4_81 : Cond.constantLong RX4 81 (315565) ∈ TB := tbm 352 (by decide +kernel) (by decide +kernel)
theorem ml_X4_64 : Cond.methodLink RX4 64 yX4_readItem ∈ TB := tbm 353 (by decide +kernel) (by decide +kernel)
theorem ml_X4_70 : Cond.methodLink RX4 70 yX4_fail ∈ TB := tbm 357 (by decide +kernel) (by decide +kernel)
theorem ml_X4_89 : Cond.methodLink RX4 89 yX4_isName ∈ TB := tbm 361 (by decide +kernel) (by decide +kernel)
theorem cn_X4_99 : Cond.constantLong RX4 99 (72564293) ∈ TB := tbm 365 (by decide +kernel) (by decide +kernel)
theorem cn_X4_101 : Cond.constantLong RX4 101 (72983685) ∈ TB := tbm 366 (by decide +kernel) (by decide +kernel)
theorem ml_X4_92 : Cond.methodLink RX4 92 yX4_itemNamed ∈ TB := tbm 367 (by decide +kernel) (by decide +kernel)
theorem ml_X4_96 : Cond.methodLink RX4 96 yX4_readStop ∈ TB := tbm 371 (by decide +kernel) (by decide +kernel)
theorem ml_X4_67 : Cond.methodLink RX4 67 yX4_readFact ∈ TB := tbm 375 (by decide +kernel) (by decide +kernel)
theorem ml_X4_103 : Cond.methodLink RX4 103 yX0_indexOf ∈ TB := tbm 379 (by decide +kernel) (by decide +kernel)
theorem ml_X4_106 : Cond.methodLink RX4 106 yX5_seek ∈ TB := tbm 383 (by decide +kernel) (by decide +kernel)
theorem ml_X5_18 : Cond.methodLink RX5 18 yX5_fewest ∈ TB := tbm 387 (by decide +kernel) (by decide +kernel)
theorem cn_X5_30 : Cond.constant RX5 30 (-1000000000) ∈ TB := tbm 391 (by decide +kernel) (by decide +kernel)
theorem ml_X5_31 : Cond.methodLink RX5 31 yJ7_fill_53178 ∈ TB := tbm 392 (by decide +kernel) (by decide +kernel)
theorem ml_X5_54 : Cond.methodLink RX5 54 yX5_weight ∈ TB := tbm 395 (by decide +kernel) (by decide +kernel)
theorem ml_X5_58 : Cond.methodLink RX5 58 yX5_raise ∈ TB := tbm 398 (by decide +kernel) (by decide +kernel)
theorem ml_X5_22 : Cond.methodLink RX5 22 yX5_trace ∈ TB := tbm 402 (by decide +kernel) (by decide +kernel)
theorem ml_X5_71 : Cond.methodLink RX5 71 yX5_firstStep ∈ TB := tbm 406 (by decide +kernel) (by decide +kernel)
theorem ml_X5_74 : Cond.methodLink RX5 74 yX0_target ∈ TB := tbm 410 (by decide +kernel) (by decide +kernel)
theorem ml_X4_112 : Cond.methodLink RX4 112 yX0_add ∈ TB := tbm 414 (by decide +kernel) (by decide +kernel)
theorem ml_X9_113 : Cond.methodLink RX9 113 yX0_copyFrom ∈ TB := tbm 418 (by decide +kernel) (by decide +kernel)
theorem ml_X0_28 : Cond.methodLink RX0 28 arraycopyName ∈ TB := tbm 422 (by decide +kernel) (by decide +kernel)
theorem ml_L_34 : Cond.methodLink RL 34 yX9_fault ∈ TB := tbm 425 (by decide +kernel) (by decide +kernel)
theorem ml_L_38 : Cond.methodLink RL 38 yX9_now ∈ TB := tbm 429 (by decide +kernel) (by decide +kernel)
theorem ml_X9_124 : Cond.methodLink RX9 124 yX0_beforeBits ∈ TB := tbm 433 (by decide +kernel) (by decide +kernel)
theorem ml_X9_127 : Cond.methodLink RX9 127 yX1_lay ∈ TB := tbm 437 (by decide +kernel) (by decide +kernel)
theorem ml_X1_41 : Cond.methodLink RX1 41 yX3_stretch ∈ TB := tbm 441 (by decide +kernel) (by decide +kernel)
theorem ml_X3_25 : Cond.methodLink RX3 25 yX3_lay ∈ TB := tbm 445 (by decide +kernel) (by decide +kernel)
theorem cn_X3_48 : Cond.constant RX3 48 (-1000000000) ∈ TB := tbm 449 (by decide +kernel) (by decide +kernel)
theorem ml_X3_29 : Cond.methodLink RX3 29 yX3_close ∈ TB := tbm 450 (by decide +kernel) (by decide +kernel)
theorem ml_X3_32 : Cond.methodLink RX3 32 yX3_between ∈ TB := tbm 454 (by decide +kernel) (by decide +kernel)
theorem ml_X3_61 : Cond.methodLink RX3 61 yX3_raiseRow ∈ TB := tbm 458 (by decide +kernel) (by decide +kernel)
theorem ml_X1_45 : Cond.methodLink RX1 45 yX3_earliest ∈ TB := tbm 462 (by decide +kernel) (by decide +kernel)
theorem ml_X3_36 : Cond.methodLink RX3 36 yJ9_max_7cf53 ∈ TB := tbm 466 (by decide +kernel) (by decide +kernel)
theorem ml_L_52 : Cond.methodLink RL 52 yX9_about ∈ TB := tbm 469 (by decide +kernel) (by decide +kernel)
theorem ml_X9_153 : Cond.methodLink RX9 153 yX0_hasPair ∈ TB := tbm 473 (by decide +kernel) (by decide +kernel)
theorem ml_X0_34 : Cond.methodLink RX0 34 yX0_hasItem ∈ TB := tbm 477 (by decide +kernel) (by decide +kernel)
theorem ml_X9_157 : Cond.methodLink RX9 157 yX0_indexOf ∈ TB := tbm 481 (by decide +kernel) (by decide +kernel)
theorem ml_L_56 : Cond.methodLink RL 56 yX9_tell ∈ TB := tbm 482 (by decide +kernel) (by decide +kernel)
theorem ml_X9_161 : Cond.methodLink RX9 161 yX9_canBeNamed ∈ TB := tbm 486 (by decide +kernel) (by decide +kernel)
theorem ml_X9_165 : Cond.methodLink RX9 165 yX5_seek ∈ TB := tbm 490 (by decide +kernel) (by decide +kernel)
theorem ml_X9_169 : Cond.methodLink RX9 169 yX2_push ∈ TB := tbm 491 (by decide +kernel) (by decide +kernel)
theorem ml_X2_22 : Cond.methodLink RX2 22 yX2_forgetOldest ∈ TB := tbm 495 (by decide +kernel) (by decide +kernel)
theorem ml_X2_25 : Cond.methodLink RX2 25 yX0_copyFrom ∈ TB := tbm 499 (by decide +kernel) (by decide +kernel)
theorem ml_X9_172 : Cond.methodLink RX9 172 yX0_add ∈ TB := tbm 500 (by decide +kernel) (by decide +kernel)
theorem ml_L_61 : Cond.methodLink RL 61 yX9_refuted ∈ TB := tbm 501 (by decide +kernel) (by decide +kernel)
theorem ml_L_65 : Cond.methodLink RL 65 yX9_ring ∈ TB := tbm 505 (by decide +kernel) (by decide +kernel)
theorem ml_L_69 : Cond.methodLink RL 69 yX9_forget ∈ TB := tbm 509 (by decide +kernel) (by decide +kernel)
theorem ml_X9_133 : Cond.methodLink RX9 133 yX0_hasFact ∈ TB := tbm 513 (by decide +kernel) (by decide +kernel)
theorem ml_X9_189 : Cond.methodLink RX9 189 yX0_remove ∈ TB := tbm 517 (by decide +kernel) (by decide +kernel)
theorem ml_X0_38 : Cond.methodLink RX0 38 yX0_add ∈ TB := tbm 521 (by decide +kernel) (by decide +kernel)
theorem ml_L_73 : Cond.methodLink RL 73 yX9_begin ∈ TB := tbm 522 (by decide +kernel) (by decide +kernel)
theorem ml_X9_192 : Cond.methodLink RX9 192 yX0_hasItem ∈ TB := tbm 526 (by decide +kernel) (by decide +kernel)
theorem ml_X9_195 : Cond.methodLink RX9 195 yX9_layOut ∈ TB := tbm 527 (by decide +kernel) (by decide +kernel)
theorem ml_X9_297 : Cond.methodLink RX9 297 yX3_stretch ∈ TB := tbm 531 (by decide +kernel) (by decide +kernel)
theorem ml_X9_198 : Cond.methodLink RX9 198 yX3_earliest ∈ TB := tbm 532 (by decide +kernel) (by decide +kernel)
theorem ml_L_77 : Cond.methodLink RL 77 yX9_gap ∈ TB := tbm 533 (by decide +kernel) (by decide +kernel)
theorem cn_X9_202 : Cond.constant RX9 202 (-1000000) ∈ TB := tbm 537 (by decide +kernel) (by decide +kernel)
theorem ml_X9_203 : Cond.methodLink RX9 203 yX3_between ∈ TB := tbm 538 (by decide +kernel) (by decide +kernel)
theorem cn_X9_206 : Cond.constant RX9 206 (-1000000000) ∈ TB := tbm 539 (by decide +kernel) (by decide +kernel)
theorem ml_L_82 : Cond.methodLink RL 82 yX9_tight ∈ TB := tbm 540 (by decide +kernel) (by decide +kernel)
theorem ml_X9_207 : Cond.methodLink RX9 207 yJ9_abs_0f7a4 ∈ TB := tbm 544 (by decide +kernel) (by decide +kernel)
theorem ml_L_86 : Cond.methodLink RL 86 yX9_may ∈ TB := tbm 547 (by decide +kernel) (by decide +kernel)
theorem ml_X9_212 : Cond.methodLink RX9 212 yX9_openTo ∈ TB := tbm 551 (by decide +kernel) (by decide +kernel)
theorem ml_X9_266 : Cond.methodLink RX9 266 yX3_weigh ∈ TB := tbm 555 (by decide +kernel) (by decide +kernel)
theorem ml_X9_301 : Cond.methodLink RX9 301 yX3_options ∈ TB := tbm 559 (by decide +kernel) (by decide +kernel)
theorem ml_L_90 : Cond.methodLink RL 90 yX9_ways ∈ TB := tbm 563 (by decide +kernel) (by decide +kernel)
theorem ml_X9_215 : Cond.methodLink RX9 215 yX8_count ∈ TB := tbm 567 (by decide +kernel) (by decide +kernel)
theorem ml_X8_34 : Cond.methodLink RX8 34 yX0_indexOf ∈ TB := tbm 571 (by decide +kernel) (by decide +kernel)
theorem ml_X8_38 : Cond.methodLink RX8 38 yX3_weigh ∈ TB := tbm 572 (by decide +kernel) (by decide +kernel)
theorem ml_X8_42 : Cond.methodLink RX8 42 yX8_follow ∈ TB := tbm 573 (by decide +kernel) (by decide +kernel)
theorem ml_X8_51 : Cond.methodLink RX8 51 yX8_nextOpen ∈ TB := tbm 577 (by decide +kernel) (by decide +kernel)
theorem ml_X8_54 : Cond.methodLink RX8 54 yX8_optionsOf ∈ TB := tbm 581 (by decide +kernel) (by decide +kernel)
theorem ml_X8_75 : Cond.methodLink RX8 75 yX3_options ∈ TB := tbm 585 (by decide +kernel) (by decide +kernel)
theorem ml_X8_57 : Cond.methodLink RX8 57 yJ6_bitCount_0f7a4 ∈ TB := tbm 586 (by decide +kernel) (by decide +kernel)
theorem cn_J6_265 : Cond.constant RJ6 265 (1431655765) ∈ TB := tbm 589 (by decide +kernel) (by decide +kernel)
theorem cn_J6_266 : Cond.constant RJ6 266 (858993459) ∈ TB := tbm 590 (by decide +kernel) (by decide +kernel)
theorem cn_J6_267 : Cond.constant RJ6 267 (252645135) ∈ TB := tbm 591 (by decide +kernel) (by decide +kernel)
theorem ml_X8_63 : Cond.methodLink RX8 63 yX8_branch ∈ TB := tbm 592 (by decide +kernel) (by decide +kernel)
theorem ml_X8_67 : Cond.methodLink RX8 67 yX3_copyFrom ∈ TB := tbm 596 (by decide +kernel) (by decide +kernel)
theorem ml_X3_19 : Cond.methodLink RX3 19 arraycopyName ∈ TB := tbm 600 (by decide +kernel) (by decide +kernel)
theorem ml_X8_71 : Cond.methodLink RX8 71 yX3_join ∈ TB := tbm 601 (by decide +kernel) (by decide +kernel)
theorem ml_X3_41 : Cond.methodLink RX3 41 yX3_link ∈ TB := tbm 605 (by decide +kernel) (by decide +kernel)
theorem ml_X8_46 : Cond.methodLink RX8 46 yJ9_min_7cf53 ∈ TB := tbm 609 (by decide +kernel) (by decide +kernel)
theorem ml_L_94 : Cond.methodLink RL 94 yX9_test ∈ TB := tbm 610 (by decide +kernel) (by decide +kernel)
theorem ml_L_98 : Cond.methodLink RL 98 yX9_yields ∈ TB := tbm 614 (by decide +kernel) (by decide +kernel)
theorem ml_X9_218 : Cond.methodLink RX9 218 yX9_leastYield ∈ TB := tbm 618 (by decide +kernel) (by decide +kernel)
theorem ml_X9_304 : Cond.methodLink RX9 304 yX9_leastOfRing ∈ TB := tbm 622 (by decide +kernel) (by decide +kernel)
theorem ml_X9_307 : Cond.methodLink RX9 307 yX5_bits ∈ TB := tbm 626 (by decide +kernel) (by decide +kernel)
theorem ml_L_102 : Cond.methodLink RL 102 yX9_idle ∈ TB := tbm 630 (by decide +kernel) (by decide +kernel)
theorem ml_X9_222 : Cond.methodLink RX9 222 yJ6_bitCount_0f7a4 ∈ TB := tbm 634 (by decide +kernel) (by decide +kernel)
theorem ml_L_106 : Cond.methodLink RL 106 yX9_late ∈ TB := tbm 635 (by decide +kernel) (by decide +kernel)
theorem ml_X9_227 : Cond.methodLink RX9 227 yJ9_max_7cf53 ∈ TB := tbm 639 (by decide +kernel) (by decide +kernel)
theorem ml_L_110 : Cond.methodLink RL 110 yX9_ahead ∈ TB := tbm 640 (by decide +kernel) (by decide +kernel)
theorem ml_X9_230 : Cond.methodLink RX9 230 yX1_precedes ∈ TB := tbm 644 (by decide +kernel) (by decide +kernel)
theorem ml_L_114 : Cond.methodLink RL 114 yX9_chain ∈ TB := tbm 648 (by decide +kernel) (by decide +kernel)
theorem ml_X9_233 : Cond.methodLink RX9 233 yX9_greatest ∈ TB := tbm 652 (by decide +kernel) (by decide +kernel)
theorem ml_X9_310 : Cond.methodLink RX9 310 yX1_greatestSet ∈ TB := tbm 656 (by decide +kernel) (by decide +kernel)
theorem ml_X1_49 : Cond.methodLink RX1 49 yJ6_bitCount_0f7a4 ∈ TB := tbm 660 (by decide +kernel) (by decide +kernel)
theorem ml_X1_54 : Cond.methodLink RX1 54 yX1_isUniform ∈ TB := tbm 661 (by decide +kernel) (by decide +kernel)
theorem ml_X1_58 : Cond.methodLink RX1 58 yX1_precedes ∈ TB := tbm 665 (by decide +kernel) (by decide +kernel)
theorem ml_L_118 : Cond.methodLink RL 118 yX9_crowd ∈ TB := tbm 666 (by decide +kernel) (by decide +kernel)
theorem ml_L_122 : Cond.methodLink RL 122 yX9_room ∈ TB := tbm 670 (by decide +kernel) (by decide +kernel)
theorem ml_X9_237 : Cond.methodLink RX9 237 yX1_fillRooms ∈ TB := tbm 674 (by decide +kernel) (by decide +kernel)
theorem ml_X1_65 : Cond.methodLink RX1 65 yX1_fillQueue ∈ TB := tbm 678 (by decide +kernel) (by decide +kernel)
theorem ml_X1_68 : Cond.methodLink RX1 68 yX1_isFree ∈ TB := tbm 682 (by decide +kernel) (by decide +kernel)
theorem ml_X1_71 : Cond.methodLink RX1 71 yJ9_max_7cf53 ∈ TB := tbm 686 (by decide +kernel) (by decide +kernel)
theorem ml_L_126 : Cond.methodLink RL 126 yX9_shape ∈ TB := tbm 687 (by decide +kernel) (by decide +kernel)
theorem ml_X9_246 : Cond.methodLink RX9 246 yX1_fillProfile ∈ TB := tbm 691 (by decide +kernel) (by decide +kernel)
theorem ml_L_130 : Cond.methodLink RL 130 yX9_rank ∈ TB := tbm 695 (by decide +kernel) (by decide +kernel)
theorem ml_X9_252 : Cond.methodLink RX9 252 yX6_rankOf ∈ TB := tbm 699 (by decide +kernel) (by decide +kernel)
theorem ml_X6_13 : Cond.methodLink RX6 13 yX6_fillTails ∈ TB := tbm 703 (by decide +kernel) (by decide +kernel)
theorem ml_X6_17 : Cond.methodLink RX6 17 yX6_tailAt ∈ TB := tbm 707 (by decide +kernel) (by decide +kernel)
theorem ml_L_134 : Cond.methodLink RL 134 yX9_shapes ∈ TB := tbm 711 (by decide +kernel) (by decide +kernel)
theorem ml_X9_256 : Cond.methodLink RX9 256 yX6_howMany ∈ TB := tbm 715 (by decide +kernel) (by decide +kernel)
theorem ml_L_138 : Cond.methodLink RL 138 yX9_make ∈ TB := tbm 719 (by decide +kernel) (by decide +kernel)
theorem ml_X9_259 : Cond.methodLink RX9 259 yX6_spell ∈ TB := tbm 723 (by decide +kernel) (by decide +kernel)
theorem ml_X9_263 : Cond.methodLink RX9 263 yX0_clear ∈ TB := tbm 727 (by decide +kernel) (by decide +kernel)
theorem ml_L_142 : Cond.methodLink RL 142 yX9_finish ∈ TB := tbm 728 (by decide +kernel) (by decide +kernel)
theorem ml_X9_270 : Cond.methodLink RX9 270 yX9_tellFirstOpen ∈ TB := tbm 732 (by decide +kernel) (by decide +kernel)
theorem ml_X9_314 : Cond.methodLink RX9 314 yX9_tellWeighed ∈ TB := tbm 736 (by decide +kernel) (by decide +kernel)
theorem ml_X9_317 : Cond.methodLink RX9 317 yX3_join ∈ TB := tbm 740 (by decide +kernel) (by decide +kernel)
theorem ml_X9_274 : Cond.methodLink RX9 274 yX9_keepMarkIf ∈ TB := tbm 741 (by decide +kernel) (by decide +kernel)
theorem ml_L_146 : Cond.methodLink RL 146 yX9_grow ∈ TB := tbm 745 (by decide +kernel) (by decide +kernel)
theorem ml_L_150 : Cond.methodLink RL 150 yX9_drop ∈ TB := tbm 749 (by decide +kernel) (by decide +kernel)
theorem ml_X9_278 : Cond.methodLink RX9 278 yX0_removeItem ∈ TB := tbm 753 (by decide +kernel) (by decide +kernel)
theorem ml_L_154 : Cond.methodLink RL 154 yX9_turn ∈ TB := tbm 757 (by decide +kernel) (by decide +kernel)
theorem ml_X9_281 : Cond.methodLink RX9 281 yX0_turnBefores ∈ TB := tbm 761 (by decide +kernel) (by decide +kernel)
theorem ml_L_158 : Cond.methodLink RL 158 yX9_drawn ∈ TB := tbm 765 (by decide +kernel) (by decide +kernel)
theorem ml_X9_284 : Cond.methodLink RX9 284 yX9_draw ∈ TB := tbm 769 (by decide +kernel) (by decide +kernel)
theorem cn_X9_320 : Cond.constant RX9 320 (1103515245) ∈ TB := tbm 773 (by decide +kernel) (by decide +kernel)
theorem ml_X9_287 : Cond.methodLink RX9 287 yX9_drawForgotten ∈ TB := tbm 774 (by decide +kernel) (by decide +kernel)
theorem ml_X9_291 : Cond.methodLink RX9 291 yX9_drawTold ∈ TB := tbm 778 (by decide +kernel) (by decide +kernel)
theorem ml_L_162 : Cond.methodLink RL 162 yX9_undo ∈ TB := tbm 782 (by decide +kernel) (by decide +kernel)
theorem ml_X9_294 : Cond.methodLink RX9 294 yX2_popInto ∈ TB := tbm 786 (by decide +kernel) (by decide +kernel)
theorem ml_L_166 : Cond.methodLink RL 166 yX9_image ∈ TB := tbm 790 (by decide +kernel) (by decide +kernel)
theorem ml_L_170 : Cond.methodLink RL 170 yX9_restore ∈ TB := tbm 794 (by decide +kernel) (by decide +kernel)
theorem ml_L_43 : Cond.methodLink RL 43 yL_fact ∈ TB := tbm 798 (by decide +kernel) (by decide +kernel)
theorem ml_L_7 : Cond.methodLink RL 7 yX9_fact ∈ TB := tbm 802 (by decide +kernel) (by decide +kernel)
theorem ac_byte : Cond.arrayClass .byte ∈ TB := tbm 871 (by decide +kernel) (by decide +kernel)
theorem ml_L_49 : Cond.methodLink RL 49 yX10_thrown ∈ TB := tbm 872 (by decide +kernel) (by decide +kernel)
theorem ml_L_23 : Cond.methodLink RL 23 yX10_feed ∈ TB := tbm 876 (by decide +kernel) (by decide +kernel)
theorem ml_X10_14 : Cond.methodLink RX10 14 yX10_lay ∈ TB := tbm 880 (by decide +kernel) (by decide +kernel)
theorem ins_X10 : Cond.instantiable RX10 38 ∈ TB := tbm 883 (by decide +kernel) (by decide +kernel)
theorem ml_L_28 : Cond.methodLink RL 28 yX10_end ∈ TB := tbm 885 (by decide +kernel) (by decide +kernel)
theorem kl_L_16 : Cond.classLink RL 16 RX10 ∈ TB := tbm 889 (by decide +kernel) (by decide +kernel)
theorem ml_L_18 : Cond.methodLink RL 18 yX10_init ∈ TB := tbm 890 (by decide +kernel) (by decide +kernel)
theorem ml_X10_68 : Cond.methodLink RX10 68 objectInit ∈ TB := tbm 893 (by decide +kernel) (by decide +kernel)
theorem fl_X10_1 : Cond.fieldLink RX10 1 "SpanFactsModel" "thrown" "I" ∈ TB := tbm 894 (by decide +kernel) (by decide +kernel)
theorem fl_X10_7 : Cond.fieldLink RX10 7 "SpanFactsModel" "tape" "[I" ∈ TB := tbm 895 (by decide +kernel) (by decide +kernel)
theorem fl_X10_11 : Cond.fieldLink RX10 11 "SpanFactsModel" "taped" "I" ∈ TB := tbm 896 (by decide +kernel) (by decide +kernel)
theorem fl_X10_18 : Cond.fieldLink RX10 18 "SpanFactsModel" "size" "I" ∈ TB := tbm 897 (by decide +kernel) (by decide +kernel)
theorem fl_X10_21 : Cond.fieldLink RX10 21 "SpanFactsModel" "at" "I" ∈ TB := tbm 898 (by decide +kernel) (by decide +kernel)
theorem fl_X10_24 : Cond.fieldLink RX10 24 "SpanFactsModel" "from" "I" ∈ TB := tbm 899 (by decide +kernel) (by decide +kernel)
theorem fl_X10_27 : Cond.fieldLink RX10 27 "SpanFactsModel" "sort" "I" ∈ TB := tbm 900 (by decide +kernel) (by decide +kernel)
theorem fl_X10_58 : Cond.fieldLink RX10 58 "SpanFactsModel" "fault" "I" ∈ TB := tbm 901 (by decide +kernel) (by decide +kernel)
theorem fl_X10_61 : Cond.fieldLink RX10 61 "SpanFactsModel" "place" "I" ∈ TB := tbm 902 (by decide +kernel) (by decide +kernel)
theorem fl_X10_34 : Cond.fieldLink RX10 34 "SpanFactsModel" "word" "J" ∈ TB := tbm 903 (by decide +kernel) (by decide +kernel)
theorem fl_X10_74 : Cond.fieldLink RX10 74 "SpanFactsModel" "now" "[I" ∈ TB := tbm 904 (by decide +kernel) (by decide +kernel)
theorem fl_X10_77 : Cond.fieldLink RX10 77 "SpanFactsModel" "read" "[I" ∈ TB := tbm 905 (by decide +kernel) (by decide +kernel)
theorem fl_X10_80 : Cond.fieldLink RX10 80 "SpanFactsModel" "kept" "[I" ∈ TB := tbm 906 (by decide +kernel) (by decide +kernel)
theorem fl_X10_83 : Cond.fieldLink RX10 83 "SpanFactsModel" "snaps" "[I" ∈ TB := tbm 907 (by decide +kernel) (by decide +kernel)
theorem fl_X10_86 : Cond.fieldLink RX10 86 "SpanFactsModel" "before" "[I" ∈ TB := tbm 908 (by decide +kernel) (by decide +kernel)
theorem fl_X10_89 : Cond.fieldLink RX10 89 "SpanFactsModel" "live" "[I" ∈ TB := tbm 909 (by decide +kernel) (by decide +kernel)
theorem fl_X10_92 : Cond.fieldLink RX10 92 "SpanFactsModel" "trial" "[I" ∈ TB := tbm 910 (by decide +kernel) (by decide +kernel)
theorem fl_X10_95 : Cond.fieldLink RX10 95 "SpanFactsModel" "names" "[J" ∈ TB := tbm 911 (by decide +kernel) (by decide +kernel)
theorem fl_X10_99 : Cond.fieldLink RX10 99 "SpanFactsModel" "isKept" "[Z" ∈ TB := tbm 912 (by decide +kernel) (by decide +kernel)
theorem fl_X10_167 : Cond.fieldLink RX10 167 "SpanFactsModel" "snapMany" "I" ∈ TB := tbm 913 (by decide +kernel) (by decide +kernel)
theorem fl_X10_103 : Cond.fieldLink RX10 103 "SpanFactsModel" "step" "[I" ∈ TB := tbm 914 (by decide +kernel) (by decide +kernel)
theorem fl_X10_106 : Cond.fieldLink RX10 106 "SpanFactsModel" "best" "[I" ∈ TB := tbm 915 (by decide +kernel) (by decide +kernel)
theorem fl_X10_109 : Cond.fieldLink RX10 109 "SpanFactsModel" "ringRow" "[I" ∈ TB := tbm 916 (by decide +kernel) (by decide +kernel)
theorem fl_X10_112 : Cond.fieldLink RX10 112 "SpanFactsModel" "toldRing" "[I" ∈ TB := tbm 917 (by decide +kernel) (by decide +kernel)
theorem fl_X10_196 : Cond.fieldLink RX10 196 "SpanFactsModel" "ringMany" "I" ∈ TB := tbm 918 (by decide +kernel) (by decide +kernel)
theorem fl_X10_199 : Cond.fieldLink RX10 199 "SpanFactsModel" "ringFrom" "I" ∈ TB := tbm 919 (by decide +kernel) (by decide +kernel)
theorem fl_X10_202 : Cond.fieldLink RX10 202 "SpanFactsModel" "ringTo" "I" ∈ TB := tbm 920 (by decide +kernel) (by decide +kernel)
theorem fl_X10_205 : Cond.fieldLink RX10 205 "SpanFactsModel" "ringBefore" "I" ∈ TB := tbm 921 (by decide +kernel) (by decide +kernel)
theorem fl_X10_115 : Cond.fieldLink RX10 115 "SpanFactsModel" "toldMany" "I" ∈ TB := tbm 922 (by decide +kernel) (by decide +kernel)
theorem fl_X10_215 : Cond.fieldLink RX10 215 "SpanFactsModel" "toldFrom" "I" ∈ TB := tbm 923 (by decide +kernel) (by decide +kernel)
theorem fl_X10_218 : Cond.fieldLink RX10 218 "SpanFactsModel" "toldTo" "I" ∈ TB := tbm 924 (by decide +kernel) (by decide +kernel)
theorem fl_X10_221 : Cond.fieldLink RX10 221 "SpanFactsModel" "toldBefore" "I" ∈ TB := tbm 925 (by decide +kernel) (by decide +kernel)
theorem fl_X10_118 : Cond.fieldLink RX10 118 "SpanFactsModel" "begins" "[I" ∈ TB := tbm 926 (by decide +kernel) (by decide +kernel)
theorem fl_X10_279 : Cond.fieldLink RX10 279 "SpanFactsModel" "found" "I" ∈ TB := tbm 927 (by decide +kernel) (by decide +kernel)
theorem fl_X10_293 : Cond.fieldLink RX10 293 "SpanFactsModel" "leastNow" "I" ∈ TB := tbm 928 (by decide +kernel) (by decide +kernel)
theorem fl_X10_121 : Cond.fieldLink RX10 121 "SpanFactsModel" "roomOf" "[I" ∈ TB := tbm 929 (by decide +kernel) (by decide +kernel)
theorem fl_X10_124 : Cond.fieldLink RX10 124 "SpanFactsModel" "shapeRow" "[I" ∈ TB := tbm 930 (by decide +kernel) (by decide +kernel)
theorem fl_X10_326 : Cond.fieldLink RX10 326 "SpanFactsModel" "seed" "I" ∈ TB := tbm 931 (by decide +kernel) (by decide +kernel)
theorem ml_L_33 : Cond.methodLink RL 33 yX10_notes ∈ TB := tbm 1009 (by decide +kernel) (by decide +kernel)
theorem ml_X10_130 : Cond.methodLink RX10 130 yX10_next ∈ TB := tbm 1013 (by decide +kernel) (by decide +kernel)
theorem ml_X10_30 : Cond.methodLink RX10 30 yX10_isLetter ∈ TB := tbm 1017 (by decide +kernel) (by decide +kernel)
theorem ml_X10_38 : Cond.methodLink RX10 38 yX10_tapeAt ∈ TB := tbm 1020 (by decide +kernel) (by decide +kernel)
theorem cn_X10_42 : Cond.constantLong RX10 42 (27) ∈ TB := tbm 1024 (by decide +kernel) (by decide +kernel)
theorem cn_X10_44 : Cond.constantLong RX10 44 (96) ∈ TB := tbm 1025 (by decide +kernel) (by decide +kernel)
theorem ml_X10_50 : Cond.methodLink RX10 50 yX10_isItemWord ∈ TB := tbm 1026 (by decide +kernel) (by decide +kernel)
theorem ml_X10_46 : Cond.methodLink RX10 46 yX10_spelt ∈ TB := tbm 1030 (by decide +kernel) (by decide +kernel)
theorem ml_X10_157 : Cond.methodLink RX10 157 yX10_readItem ∈ TB := tbm 1033 (by decide +kernel) (by decide +kernel)
theorem ml_X10_127 : Cond.methodLink RX10 127 yX10_bad ∈ TB := tbm 1037 (by decide +kernel) (by decide +kernel)
theorem ml_X10_64 : Cond.methodLink RX10 64 yX10_badAt ∈ TB := tbm 1041 (by decide +kernel) (by decide +kernel)
theorem ml_X10_133 : Cond.methodLink RX10 133 yX10_isName ∈ TB := tbm 1045 (by decide +kernel) (by decide +kernel)
theorem ml_X10_54 : Cond.methodLink RX10 54 yX10_kindWord ∈ TB := tbm 1049 (by decide +kernel) (by decide +kernel)
theorem ml_X10_136 : Cond.methodLink RX10 136 yX10_named ∈ TB := tbm 1053 (by decide +kernel) (by decide +kernel)
theorem ml_X10_139 : Cond.methodLink RX10 139 yX10_readEnd ∈ TB := tbm 1057 (by decide +kernel) (by decide +kernel)
theorem ml_X10_160 : Cond.methodLink RX10 160 yX10_readFact ∈ TB := tbm 1061 (by decide +kernel) (by decide +kernel)
theorem ml_X10_142 : Cond.methodLink RX10 142 yX10_factOf ∈ TB := tbm 1065 (by decide +kernel) (by decide +kernel)
theorem ml_X10_146 : Cond.methodLink RX10 146 yX10_isRefuted ∈ TB := tbm 1068 (by decide +kernel) (by decide +kernel)
theorem ml_X10_212 : Cond.methodLink RX10 212 yX10_laysRing ∈ TB := tbm 1072 (by decide +kernel) (by decide +kernel)
theorem ml_X10_193 : Cond.methodLink RX10 193 yX10_laysBest ∈ TB := tbm 1076 (by decide +kernel) (by decide +kernel)
theorem cn_X10_170 : Cond.constant RX10 170 (-100000) ∈ TB := tbm 1080 (by decide +kernel) (by decide +kernel)
theorem ml_X10_187 : Cond.methodLink RX10 187 yX10_leads ∈ TB := tbm 1081 (by decide +kernel) (by decide +kernel)
theorem ml_X10_190 : Cond.methodLink RX10 190 yX10_sign ∈ TB := tbm 1084 (by decide +kernel) (by decide +kernel)
theorem ml_X10_208 : Cond.methodLink RX10 208 yX10_isOn ∈ TB := tbm 1087 (by decide +kernel) (by decide +kernel)
theorem ml_X10_150 : Cond.methodLink RX10 150 yX10_keepsRing ∈ TB := tbm 1091 (by decide +kernel) (by decide +kernel)
theorem ml_X10_153 : Cond.methodLink RX10 153 yX10_tells ∈ TB := tbm 1095 (by decide +kernel) (by decide +kernel)
theorem ml_X10_163 : Cond.methodLink RX10 163 yX10_copy ∈ TB := tbm 1098 (by decide +kernel) (by decide +kernel)
theorem ml_L_37 : Cond.methodLink RL 37 yX10_fault ∈ TB := tbm 1101 (by decide +kernel) (by decide +kernel)
theorem ml_L_64 : Cond.methodLink RL 64 yX10_refuted ∈ TB := tbm 1105 (by decide +kernel) (by decide +kernel)
theorem ml_L_68 : Cond.methodLink RL 68 yX10_ring ∈ TB := tbm 1109 (by decide +kernel) (by decide +kernel)
theorem ml_X10_224 : Cond.methodLink RX10 224 yX10_isIn ∈ TB := tbm 1113 (by decide +kernel) (by decide +kernel)
theorem ml_L_42 : Cond.methodLink RL 42 yX10_now ∈ TB := tbm 1116 (by decide +kernel) (by decide +kernel)
theorem ml_X10_228 : Cond.methodLink RX10 228 yX10_items ∈ TB := tbm 1120 (by decide +kernel) (by decide +kernel)
theorem ml_X10_237 : Cond.methodLink RX10 237 yX10_facts ∈ TB := tbm 1124 (by decide +kernel) (by decide +kernel)
theorem ml_X10_240 : Cond.methodLink RX10 240 yX10_befores ∈ TB := tbm 1128 (by decide +kernel) (by decide +kernel)
theorem ml_X10_243 : Cond.methodLink RX10 243 yX10_leastOf ∈ TB := tbm 1132 (by decide +kernel) (by decide +kernel)
theorem ml_X10_183 : Cond.methodLink RX10 183 yX10_isEven ∈ TB := tbm 1136 (by decide +kernel) (by decide +kernel)
theorem ml_X10_179 : Cond.methodLink RX10 179 yX10_laysSteps ∈ TB := tbm 1140 (by decide +kernel) (by decide +kernel)
theorem ml_X10_171 : Cond.methodLink RX10 171 yX10_weight ∈ TB := tbm 1144 (by decide +kernel) (by decide +kernel)
theorem ml_X10_175 : Cond.methodLink RX10 175 yX10_longer ∈ TB := tbm 1147 (by decide +kernel) (by decide +kernel)
theorem ml_L_48 : Cond.methodLink RL 48 yX10_fact ∈ TB := tbm 1151 (by decide +kernel) (by decide +kernel)
theorem ml_X10_247 : Cond.methodLink RX10 247 yX10_refuse ∈ TB := tbm 1155 (by decide +kernel) (by decide +kernel)
theorem ml_L_55 : Cond.methodLink RL 55 yX10_about ∈ TB := tbm 1159 (by decide +kernel) (by decide +kernel)
theorem ml_X10_234 : Cond.methodLink RX10 234 yX10_areTwo ∈ TB := tbm 1163 (by decide +kernel) (by decide +kernel)
theorem ml_X10_231 : Cond.methodLink RX10 231 yX10_isItem ∈ TB := tbm 1167 (by decide +kernel) (by decide +kernel)
theorem ml_L_60 : Cond.methodLink RL 60 yX10_tell ∈ TB := tbm 1171 (by decide +kernel) (by decide +kernel)
theorem ml_X10_253 : Cond.methodLink RX10 253 yX10_mayTell ∈ TB := tbm 1175 (by decide +kernel) (by decide +kernel)
theorem ml_X10_250 : Cond.methodLink RX10 250 yX10_snap ∈ TB := tbm 1179 (by decide +kernel) (by decide +kernel)
theorem ml_L_97 : Cond.methodLink RL 97 yX10_test ∈ TB := tbm 1183 (by decide +kernel) (by decide +kernel)
theorem ml_L_72 : Cond.methodLink RL 72 yX10_forget ∈ TB := tbm 1187 (by decide +kernel) (by decide +kernel)
theorem ml_X10_256 : Cond.methodLink RX10 256 yX10_forgets ∈ TB := tbm 1191 (by decide +kernel) (by decide +kernel)
theorem ml_L_76 : Cond.methodLink RL 76 yX10_begin ∈ TB := tbm 1194 (by decide +kernel) (by decide +kernel)
theorem ml_X10_259 : Cond.methodLink RX10 259 yX10_isLength ∈ TB := tbm 1198 (by decide +kernel) (by decide +kernel)
theorem ml_X10_262 : Cond.methodLink RX10 262 yX10_laysBegins ∈ TB := tbm 1202 (by decide +kernel) (by decide +kernel)
theorem ml_L_81 : Cond.methodLink RL 81 yX10_gap ∈ TB := tbm 1206 (by decide +kernel) (by decide +kernel)
theorem cn_X10_265 : Cond.constant RX10 265 (-1000000) ∈ TB := tbm 1210 (by decide +kernel) (by decide +kernel)
theorem ml_L_85 : Cond.methodLink RL 85 yX10_tight ∈ TB := tbm 1211 (by decide +kernel) (by decide +kernel)
theorem ml_L_109 : Cond.methodLink RL 109 yX10_late ∈ TB := tbm 1215 (by decide +kernel) (by decide +kernel)
theorem ml_L_89 : Cond.methodLink RL 89 yX10_may ∈ TB := tbm 1219 (by decide +kernel) (by decide +kernel)
theorem ml_X10_273 : Cond.methodLink RX10 273 yX10_mays ∈ TB := tbm 1223 (by decide +kernel) (by decide +kernel)
theorem ml_X10_270 : Cond.methodLink RX10 270 yX10_isGoodWith ∈ TB := tbm 1227 (by decide +kernel) (by decide +kernel)
theorem ml_X10_266 : Cond.methodLink RX10 266 yX10_isGood ∈ TB := tbm 1231 (by decide +kernel) (by decide +kernel)
theorem ml_L_105 : Cond.methodLink RL 105 yX10_idle ∈ TB := tbm 1235 (by decide +kernel) (by decide +kernel)
theorem ml_X10_276 : Cond.methodLink RX10 276 yX10_bits ∈ TB := tbm 1239 (by decide +kernel) (by decide +kernel)
theorem ml_L_93 : Cond.methodLink RL 93 yX10_ways ∈ TB := tbm 1242 (by decide +kernel) (by decide +kernel)
theorem ml_X10_282 : Cond.methodLink RX10 282 yX10_goesOn ∈ TB := tbm 1246 (by decide +kernel) (by decide +kernel)
theorem ml_L_101 : Cond.methodLink RL 101 yX10_yields ∈ TB := tbm 1250 (by decide +kernel) (by decide +kernel)
theorem ml_X10_289 : Cond.methodLink RX10 289 yX10_isGoodWithout ∈ TB := tbm 1254 (by decide +kernel) (by decide +kernel)
theorem ml_X10_286 : Cond.methodLink RX10 286 yX10_has ∈ TB := tbm 1258 (by decide +kernel) (by decide +kernel)
theorem ml_L_113 : Cond.methodLink RL 113 yX10_ahead ∈ TB := tbm 1261 (by decide +kernel) (by decide +kernel)
theorem ml_X10_296 : Cond.methodLink RX10 296 yX10_laysOrder ∈ TB := tbm 1265 (by decide +kernel) (by decide +kernel)
theorem ml_X10_299 : Cond.methodLink RX10 299 yX10_isAhead ∈ TB := tbm 1269 (by decide +kernel) (by decide +kernel)
theorem ml_L_117 : Cond.methodLink RL 117 yX10_chain ∈ TB := tbm 1273 (by decide +kernel) (by decide +kernel)
theorem ml_X10_306 : Cond.methodLink RX10 306 yX10_most ∈ TB := tbm 1277 (by decide +kernel) (by decide +kernel)
theorem ml_X10_302 : Cond.methodLink RX10 302 yX10_isAlike ∈ TB := tbm 1281 (by decide +kernel) (by decide +kernel)
theorem ml_L_121 : Cond.methodLink RL 121 yX10_crowd ∈ TB := tbm 1285 (by decide +kernel) (by decide +kernel)
theorem ml_L_125 : Cond.methodLink RL 125 yX10_room ∈ TB := tbm 1289 (by decide +kernel) (by decide +kernel)
theorem ml_X10_313 : Cond.methodLink RX10 313 yX10_laysRooms ∈ TB := tbm 1293 (by decide +kernel) (by decide +kernel)
theorem ml_X10_310 : Cond.methodLink RX10 310 yX10_isFree ∈ TB := tbm 1297 (by decide +kernel) (by decide +kernel)
theorem ml_L_129 : Cond.methodLink RL 129 yX10_shape ∈ TB := tbm 1301 (by decide +kernel) (by decide +kernel)
theorem ml_X10_316 : Cond.methodLink RX10 316 yX10_laysShape ∈ TB := tbm 1305 (by decide +kernel) (by decide +kernel)
theorem ml_L_133 : Cond.methodLink RL 133 yX10_rank ∈ TB := tbm 1309 (by decide +kernel) (by decide +kernel)
theorem ml_X10_319 : Cond.methodLink RX10 319 yX10_rowsFrom ∈ TB := tbm 1313 (by decide +kernel) (by decide +kernel)
theorem ml_L_137 : Cond.methodLink RL 137 yX10_shapes ∈ TB := tbm 1316 (by decide +kernel) (by decide +kernel)
theorem ml_L_141 : Cond.methodLink RL 141 yX10_make ∈ TB := tbm 1320 (by decide +kernel) (by decide +kernel)
theorem ml_L_145 : Cond.methodLink RL 145 yX10_finish ∈ TB := tbm 1324 (by decide +kernel) (by decide +kernel)
theorem ml_X10_323 : Cond.methodLink RX10 323 yX10_stay ∈ TB := tbm 1328 (by decide +kernel) (by decide +kernel)
theorem ml_L_149 : Cond.methodLink RL 149 yX10_grow ∈ TB := tbm 1332 (by decide +kernel) (by decide +kernel)
theorem ml_L_153 : Cond.methodLink RL 153 yX10_drop ∈ TB := tbm 1336 (by decide +kernel) (by decide +kernel)
theorem ml_L_157 : Cond.methodLink RL 157 yX10_turn ∈ TB := tbm 1340 (by decide +kernel) (by decide +kernel)
theorem ml_L_161 : Cond.methodLink RL 161 yX10_drawn ∈ TB := tbm 1344 (by decide +kernel) (by decide +kernel)
theorem ml_X10_333 : Cond.methodLink RX10 333 yX10_does ∈ TB := tbm 1348 (by decide +kernel) (by decide +kernel)
theorem ml_X10_330 : Cond.methodLink RX10 330 yX10_draw ∈ TB := tbm 1352 (by decide +kernel) (by decide +kernel)
theorem cn_X10_329 : Cond.constant RX10 329 (1103515245) ∈ TB := tbm 1356 (by decide +kernel) (by decide +kernel)
theorem ml_L_165 : Cond.methodLink RL 165 yX10_undo ∈ TB := tbm 1357 (by decide +kernel) (by decide +kernel)
theorem ml_L_169 : Cond.methodLink RL 169 yX10_image ∈ TB := tbm 1361 (by decide +kernel) (by decide +kernel)
theorem ml_L_173 : Cond.methodLink RL 173 yX10_restore ∈ TB := tbm 1365 (by decide +kernel) (by decide +kernel)
theorem im_objectInit : Cond.instanceMethod objectInit ∈ TB := tbm 26 (by decide +kernel) (by decide +kernel)
theorem nat_copy : Cond.native arraycopyName ∈ TB := tbm 424 (by decide +kernel) (by decide +kernel)
theorem st_copy : Cond.static arraycopyName ∈ TB := tbm 423 (by decide +kernel) (by decide +kernel)
theorem cd_objectInit : Cond.code objectInit ⟨#[0xb1]⟩ 1 none ∈ TB := tbm 27 (by decide +kernel) (by decide +kernel)
theorem ly_X0_0 : u_lay RX0 TX0 0 ∈ TB := tbm 57 (by decide +kernel) (by decide +kernel)
theorem ly_X0_1 : u_lay RX0 TX0 1 ∈ TB := tbm 59 (by decide +kernel) (by decide +kernel)
theorem ly_X0_2 : u_lay RX0 TX0 2 ∈ TB := tbm 61 (by decide +kernel) (by decide +kernel)
theorem ly_X0_3 : u_lay RX0 TX0 3 ∈ TB := tbm 63 (by decide +kernel) (by decide +kernel)
theorem ly_X0_4 : u_lay RX0 TX0 4 ∈ TB := tbm 65 (by decide +kernel) (by decide +kernel)
theorem wi_X0 : ∀ w ∈ u_ws RX0 TX0 5, w ∈ TB := by
  intro w hw
  obtain ⟨q, hq, rfl⟩ := List.mem_map.mp hw
  have hq := List.mem_range.mp hq
  match q, hq with
  | 0, _ => exact ly_X0_0
  | 1, _ => exact ly_X0_1
  | 2, _ => exact ly_X0_2
  | 3, _ => exact ly_X0_3
  | 4, _ => exact ly_X0_4
  | (n + 5), h => exact absurd h (by omega)
theorem ly_X1_0 : u_lay RX1 TX1 0 ∈ TB := tbm 150 (by decide +kernel) (by decide +kernel)
theorem ly_X1_1 : u_lay RX1 TX1 1 ∈ TB := tbm 152 (by decide +kernel) (by decide +kernel)
theorem ly_X1_2 : u_lay RX1 TX1 2 ∈ TB := tbm 154 (by decide +kernel) (by decide +kernel)
theorem ly_X1_3 : u_lay RX1 TX1 3 ∈ TB := tbm 156 (by decide +kernel) (by decide +kernel)
theorem ly_X1_4 : u_lay RX1 TX1 4 ∈ TB := tbm 158 (by decide +kernel) (by decide +kernel)
theorem ly_X1_5 : u_lay RX1 TX1 5 ∈ TB := tbm 160 (by decide +kernel) (by decide +kernel)
theorem ly_X1_6 : u_lay RX1 TX1 6 ∈ TB := tbm 162 (by decide +kernel) (by decide +kernel)
theorem ly_X1_7 : u_lay RX1 TX1 7 ∈ TB := tbm 164 (by decide +kernel) (by decide +kernel)
theorem wi_X1 : ∀ w ∈ u_ws RX1 TX1 8, w ∈ TB := by
  intro w hw
  obtain ⟨q, hq, rfl⟩ := List.mem_map.mp hw
  have hq := List.mem_range.mp hq
  match q, hq with
  | 0, _ => exact ly_X1_0
  | 1, _ => exact ly_X1_1
  | 2, _ => exact ly_X1_2
  | 3, _ => exact ly_X1_3
  | 4, _ => exact ly_X1_4
  | 5, _ => exact ly_X1_5
  | 6, _ => exact ly_X1_6
  | 7, _ => exact ly_X1_7
  | (n + 8), h => exact absurd h (by omega)
theorem ly_X2_0 : u_lay RX2 TX2 0 ∈ TB := tbm 81 (by decide +kernel) (by decide +kernel)
theorem ly_X2_1 : u_lay RX2 TX2 1 ∈ TB := tbm 83 (by decide +kernel) (by decide +kernel)
theorem wi_X2 : ∀ w ∈ u_ws RX2 TX2 2, w ∈ TB := by
  intro w hw
  obtain ⟨q, hq, rfl⟩ := List.mem_map.mp hw
  have hq := List.mem_range.mp hq
  match q, hq with
  | 0, _ => exact ly_X2_0
  | 1, _ => exact ly_X2_1
  | (n + 2), h => exact absurd h (by omega)
theorem ly_X3_0 : u_lay RX3 TX3 0 ∈ TB := tbm 125 (by decide +kernel) (by decide +kernel)
theorem ly_X3_1 : u_lay RX3 TX3 1 ∈ TB := tbm 127 (by decide +kernel) (by decide +kernel)
theorem wi_X3 : ∀ w ∈ u_ws RX3 TX3 2, w ∈ TB := by
  intro w hw
  obtain ⟨q, hq, rfl⟩ := List.mem_map.mp hw
  have hq := List.mem_range.mp hq
  match q, hq with
  | 0, _ => exact ly_X3_0
  | 1, _ => exact ly_X3_1
  | (n + 2), h => exact absurd h (by omega)
theorem ly_X4_0 : u_lay RX4 TX4 0 ∈ TB := tbm 236 (by decide +kernel) (by decide +kernel)
theorem ly_X4_1 : u_lay RX4 TX4 1 ∈ TB := tbm 238 (by decide +kernel) (by decide +kernel)
theorem ly_X4_2 : u_lay RX4 TX4 2 ∈ TB := tbm 240 (by decide +kernel) (by decide +kernel)
theorem ly_X4_3 : u_lay RX4 TX4 3 ∈ TB := tbm 242 (by decide +kernel) (by decide +kernel)
theorem ly_X4_4 : u_lay RX4 TX4 4 ∈ TB := tbm 244 (by decide +kernel) (by decide +kernel)
theorem ly_X4_5 : u_lay RX4 TX4 5 ∈ TB := tbm 246 (by decide +kernel) (by decide +kernel)
theorem ly_X4_6 : u_lay RX4 TX4 6 ∈ TB := tbm 248 (by decide +kernel) (by decide +kernel)
theorem ly_X4_7 : u_lay RX4 TX4 7 ∈ TB := tbm 250 (by decide +kernel) (by decide +kernel)
theorem ly_X4_8 : u_lay RX4 TX4 8 ∈ TB := tbm 252 (by decide +kernel) (by decide +kernel)
theorem ly_X4_9 : u_lay RX4 TX4 9 ∈ TB := tbm 254 (by decide +kernel) (by decide +kernel)
theorem ly_X4_10 : u_lay RX4 TX4 10 ∈ TB := tbm 256 (by decide +kernel) (by decide +kernel)
theorem wi_X4 : ∀ w ∈ u_ws RX4 TX4 11, w ∈ TB := by
  intro w hw
  obtain ⟨q, hq, rfl⟩ := List.mem_map.mp hw
  have hq := List.mem_range.mp hq
  match q, hq with
  | 0, _ => exact ly_X4_0
  | 1, _ => exact ly_X4_1
  | 2, _ => exact ly_X4_2
  | 3, _ => exact ly_X4_3
  | 4, _ => exact ly_X4_4
  | 5, _ => exact ly_X4_5
  | 6, _ => exact ly_X4_6
  | 7, _ => exact ly_X4_7
  | 8, _ => exact ly_X4_8
  | 9, _ => exact ly_X4_9
  | 10, _ => exact ly_X4_10
  | (n + 11), h => exact absurd h (by omega)
theorem ly_X5_0 : u_lay RX5 TX5 0 ∈ TB := tbm 103 (by decide +kernel) (by decide +kernel)
theorem ly_X5_1 : u_lay RX5 TX5 1 ∈ TB := tbm 105 (by decide +kernel) (by decide +kernel)
theorem ly_X5_2 : u_lay RX5 TX5 2 ∈ TB := tbm 107 (by decide +kernel) (by decide +kernel)
theorem ly_X5_3 : u_lay RX5 TX5 3 ∈ TB := tbm 109 (by decide +kernel) (by decide +kernel)
theorem ly_X5_4 : u_lay RX5 TX5 4 ∈ TB := tbm 111 (by decide +kernel) (by decide +kernel)
theorem ly_X5_5 : u_lay RX5 TX5 5 ∈ TB := tbm 113 (by decide +kernel) (by decide +kernel)
theorem wi_X5 : ∀ w ∈ u_ws RX5 TX5 6, w ∈ TB := by
  intro w hw
  obtain ⟨q, hq, rfl⟩ := List.mem_map.mp hw
  have hq := List.mem_range.mp hq
  match q, hq with
  | 0, _ => exact ly_X5_0
  | 1, _ => exact ly_X5_1
  | 2, _ => exact ly_X5_2
  | 3, _ => exact ly_X5_3
  | 4, _ => exact ly_X5_4
  | 5, _ => exact ly_X5_5
  | (n + 6), h => exact absurd h (by omega)
theorem ly_X6_0 : u_lay RX6 TX6 0 ∈ TB := tbm 196 (by decide +kernel) (by decide +kernel)
theorem wi_X6 : ∀ w ∈ u_ws RX6 TX6 1, w ∈ TB := by
  intro w hw
  obtain ⟨q, hq, rfl⟩ := List.mem_map.mp hw
  have hq := List.mem_range.mp hq
  match q, hq with
  | 0, _ => exact ly_X6_0
  | (n + 1), h => exact absurd h (by omega)
theorem ly_X7_0 : u_lay RX7 TX7 0 ∈ TB := tbm 210 (by decide +kernel) (by decide +kernel)
theorem ly_X7_1 : u_lay RX7 TX7 1 ∈ TB := tbm 212 (by decide +kernel) (by decide +kernel)
theorem wi_X7 : ∀ w ∈ u_ws RX7 TX7 2, w ∈ TB := by
  intro w hw
  obtain ⟨q, hq, rfl⟩ := List.mem_map.mp hw
  have hq := List.mem_range.mp hq
  match q, hq with
  | 0, _ => exact ly_X7_0
  | 1, _ => exact ly_X7_1
  | (n + 2), h => exact absurd h (by omega)
theorem ly_X8_0 : u_lay RX8 TX8 0 ∈ TB := tbm 180 (by decide +kernel) (by decide +kernel)
theorem ly_X8_1 : u_lay RX8 TX8 1 ∈ TB := tbm 182 (by decide +kernel) (by decide +kernel)
theorem ly_X8_2 : u_lay RX8 TX8 2 ∈ TB := tbm 184 (by decide +kernel) (by decide +kernel)
theorem ly_X8_3 : u_lay RX8 TX8 3 ∈ TB := tbm 186 (by decide +kernel) (by decide +kernel)
theorem wi_X8 : ∀ w ∈ u_ws RX8 TX8 4, w ∈ TB := by
  intro w hw
  obtain ⟨q, hq, rfl⟩ := List.mem_map.mp hw
  have hq := List.mem_range.mp hq
  match q, hq with
  | 0, _ => exact ly_X8_0
  | 1, _ => exact ly_X8_1
  | 2, _ => exact ly_X8_2
  | 3, _ => exact ly_X8_3
  | (n + 4), h => exact absurd h (by omega)
theorem ly_X9_0 : u_lay RX9 TX9 0 ∈ TB := tbm 275 (by decide +kernel) (by decide +kernel)
theorem ly_X9_1 : u_lay RX9 TX9 1 ∈ TB := tbm 277 (by decide +kernel) (by decide +kernel)
theorem ly_X9_2 : u_lay RX9 TX9 2 ∈ TB := tbm 279 (by decide +kernel) (by decide +kernel)
theorem ly_X9_3 : u_lay RX9 TX9 3 ∈ TB := tbm 281 (by decide +kernel) (by decide +kernel)
theorem ly_X9_4 : u_lay RX9 TX9 4 ∈ TB := tbm 283 (by decide +kernel) (by decide +kernel)
theorem ly_X9_5 : u_lay RX9 TX9 5 ∈ TB := tbm 285 (by decide +kernel) (by decide +kernel)
theorem ly_X9_6 : u_lay RX9 TX9 6 ∈ TB := tbm 287 (by decide +kernel) (by decide +kernel)
theorem ly_X9_7 : u_lay RX9 TX9 7 ∈ TB := tbm 289 (by decide +kernel) (by decide +kernel)
theorem ly_X9_8 : u_lay RX9 TX9 8 ∈ TB := tbm 291 (by decide +kernel) (by decide +kernel)
theorem ly_X9_9 : u_lay RX9 TX9 9 ∈ TB := tbm 293 (by decide +kernel) (by decide +kernel)
theorem ly_X9_10 : u_lay RX9 TX9 10 ∈ TB := tbm 295 (by decide +kernel) (by decide +kernel)
theorem ly_X9_11 : u_lay RX9 TX9 11 ∈ TB := tbm 297 (by decide +kernel) (by decide +kernel)
theorem ly_X9_12 : u_lay RX9 TX9 12 ∈ TB := tbm 299 (by decide +kernel) (by decide +kernel)
theorem ly_X9_13 : u_lay RX9 TX9 13 ∈ TB := tbm 301 (by decide +kernel) (by decide +kernel)
theorem ly_X9_14 : u_lay RX9 TX9 14 ∈ TB := tbm 303 (by decide +kernel) (by decide +kernel)
theorem wi_X9 : ∀ w ∈ u_ws RX9 TX9 15, w ∈ TB := by
  intro w hw
  obtain ⟨q, hq, rfl⟩ := List.mem_map.mp hw
  have hq := List.mem_range.mp hq
  match q, hq with
  | 0, _ => exact ly_X9_0
  | 1, _ => exact ly_X9_1
  | 2, _ => exact ly_X9_2
  | 3, _ => exact ly_X9_3
  | 4, _ => exact ly_X9_4
  | 5, _ => exact ly_X9_5
  | 6, _ => exact ly_X9_6
  | 7, _ => exact ly_X9_7
  | 8, _ => exact ly_X9_8
  | 9, _ => exact ly_X9_9
  | 10, _ => exact ly_X9_10
  | 11, _ => exact ly_X9_11
  | 12, _ => exact ly_X9_12
  | 13, _ => exact ly_X9_13
  | 14, _ => exact ly_X9_14
  | (n + 15), h => exact absurd h (by omega)
theorem ly_X10_0 : u_lay RX10 TX10 0 ∈ TB := tbm 932 (by decide +kernel) (by decide +kernel)
theorem ly_X10_1 : u_lay RX10 TX10 1 ∈ TB := tbm 934 (by decide +kernel) (by decide +kernel)
theorem ly_X10_2 : u_lay RX10 TX10 2 ∈ TB := tbm 936 (by decide +kernel) (by decide +kernel)
theorem ly_X10_3 : u_lay RX10 TX10 3 ∈ TB := tbm 938 (by decide +kernel) (by decide +kernel)
theorem ly_X10_4 : u_lay RX10 TX10 4 ∈ TB := tbm 940 (by decide +kernel) (by decide +kernel)
theorem ly_X10_5 : u_lay RX10 TX10 5 ∈ TB := tbm 942 (by decide +kernel) (by decide +kernel)
theorem ly_X10_6 : u_lay RX10 TX10 6 ∈ TB := tbm 944 (by decide +kernel) (by decide +kernel)
theorem ly_X10_7 : u_lay RX10 TX10 7 ∈ TB := tbm 946 (by decide +kernel) (by decide +kernel)
theorem ly_X10_8 : u_lay RX10 TX10 8 ∈ TB := tbm 948 (by decide +kernel) (by decide +kernel)
theorem ly_X10_9 : u_lay RX10 TX10 9 ∈ TB := tbm 950 (by decide +kernel) (by decide +kernel)
theorem ly_X10_10 : u_lay RX10 TX10 10 ∈ TB := tbm 952 (by decide +kernel) (by decide +kernel)
theorem ly_X10_11 : u_lay RX10 TX10 11 ∈ TB := tbm 954 (by decide +kernel) (by decide +kernel)
theorem ly_X10_12 : u_lay RX10 TX10 12 ∈ TB := tbm 956 (by decide +kernel) (by decide +kernel)
theorem ly_X10_13 : u_lay RX10 TX10 13 ∈ TB := tbm 958 (by decide +kernel) (by decide +kernel)
theorem ly_X10_14 : u_lay RX10 TX10 14 ∈ TB := tbm 960 (by decide +kernel) (by decide +kernel)
theorem ly_X10_15 : u_lay RX10 TX10 15 ∈ TB := tbm 962 (by decide +kernel) (by decide +kernel)
theorem ly_X10_16 : u_lay RX10 TX10 16 ∈ TB := tbm 964 (by decide +kernel) (by decide +kernel)
theorem ly_X10_17 : u_lay RX10 TX10 17 ∈ TB := tbm 966 (by decide +kernel) (by decide +kernel)
theorem ly_X10_18 : u_lay RX10 TX10 18 ∈ TB := tbm 968 (by decide +kernel) (by decide +kernel)
theorem ly_X10_19 : u_lay RX10 TX10 19 ∈ TB := tbm 970 (by decide +kernel) (by decide +kernel)
theorem ly_X10_20 : u_lay RX10 TX10 20 ∈ TB := tbm 972 (by decide +kernel) (by decide +kernel)
theorem ly_X10_21 : u_lay RX10 TX10 21 ∈ TB := tbm 974 (by decide +kernel) (by decide +kernel)
theorem ly_X10_22 : u_lay RX10 TX10 22 ∈ TB := tbm 976 (by decide +kernel) (by decide +kernel)
theorem ly_X10_23 : u_lay RX10 TX10 23 ∈ TB := tbm 978 (by decide +kernel) (by decide +kernel)
theorem ly_X10_24 : u_lay RX10 TX10 24 ∈ TB := tbm 980 (by decide +kernel) (by decide +kernel)
theorem ly_X10_25 : u_lay RX10 TX10 25 ∈ TB := tbm 982 (by decide +kernel) (by decide +kernel)
theorem ly_X10_26 : u_lay RX10 TX10 26 ∈ TB := tbm 984 (by decide +kernel) (by decide +kernel)
theorem ly_X10_27 : u_lay RX10 TX10 27 ∈ TB := tbm 986 (by decide +kernel) (by decide +kernel)
theorem ly_X10_28 : u_lay RX10 TX10 28 ∈ TB := tbm 988 (by decide +kernel) (by decide +kernel)
theorem ly_X10_29 : u_lay RX10 TX10 29 ∈ TB := tbm 990 (by decide +kernel) (by decide +kernel)
theorem ly_X10_30 : u_lay RX10 TX10 30 ∈ TB := tbm 992 (by decide +kernel) (by decide +kernel)
theorem ly_X10_31 : u_lay RX10 TX10 31 ∈ TB := tbm 994 (by decide +kernel) (by decide +kernel)
theorem ly_X10_32 : u_lay RX10 TX10 32 ∈ TB := tbm 996 (by decide +kernel) (by decide +kernel)
theorem ly_X10_33 : u_lay RX10 TX10 33 ∈ TB := tbm 998 (by decide +kernel) (by decide +kernel)
theorem ly_X10_34 : u_lay RX10 TX10 34 ∈ TB := tbm 1000 (by decide +kernel) (by decide +kernel)
theorem ly_X10_35 : u_lay RX10 TX10 35 ∈ TB := tbm 1002 (by decide +kernel) (by decide +kernel)
theorem ly_X10_36 : u_lay RX10 TX10 36 ∈ TB := tbm 1004 (by decide +kernel) (by decide +kernel)
theorem ly_X10_37 : u_lay RX10 TX10 37 ∈ TB := tbm 1006 (by decide +kernel) (by decide +kernel)
theorem wi_X10 : ∀ w ∈ u_ws RX10 TX10 38, w ∈ TB := by
  intro w hw
  obtain ⟨q, hq, rfl⟩ := List.mem_map.mp hw
  have hq := List.mem_range.mp hq
  match q, hq with
  | 0, _ => exact ly_X10_0
  | 1, _ => exact ly_X10_1
  | 2, _ => exact ly_X10_2
  | 3, _ => exact ly_X10_3
  | 4, _ => exact ly_X10_4
  | 5, _ => exact ly_X10_5
  | 6, _ => exact ly_X10_6
  | 7, _ => exact ly_X10_7
  | 8, _ => exact ly_X10_8
  | 9, _ => exact ly_X10_9
  | 10, _ => exact ly_X10_10
  | 11, _ => exact ly_X10_11
  | 12, _ => exact ly_X10_12
  | 13, _ => exact ly_X10_13
  | 14, _ => exact ly_X10_14
  | 15, _ => exact ly_X10_15
  | 16, _ => exact ly_X10_16
  | 17, _ => exact ly_X10_17
  | 18, _ => exact ly_X10_18
  | 19, _ => exact ly_X10_19
  | 20, _ => exact ly_X10_20
  | 21, _ => exact ly_X10_21
  | 22, _ => exact ly_X10_22
  | 23, _ => exact ly_X10_23
  | 24, _ => exact ly_X10_24
  | 25, _ => exact ly_X10_25
  | 26, _ => exact ly_X10_26
  | 27, _ => exact ly_X10_27
  | 28, _ => exact ly_X10_28
  | 29, _ => exact ly_X10_29
  | 30, _ => exact ly_X10_30
  | 31, _ => exact ly_X10_31
  | 32, _ => exact ly_X10_32
  | 33, _ => exact ly_X10_33
  | 34, _ => exact ly_X10_34
  | 35, _ => exact ly_X10_35
  | 36, _ => exact ly_X10_36
  | 37, _ => exact ly_X10_37
  | (n + 38), h => exact absurd h (by omega)
theorem v_X0_init : NO1 yX0_init cX0_init 1 0 := ⟨tbm 31 (by decide +kernel) (by decide +kernel), tbm 32 (by decide +kernel) (by decide +kernel), ini_X0, ⟨by decide +kernel, by decide +kernel, by decide +kernel⟩, by decide +kernel, by decide, rfl⟩
theorem v_X0_copyFrom : VO yX0_copyFrom cX0_copyFrom 2 none 1 := ⟨tbm 419 (by decide +kernel) (by decide +kernel), tbm 420 (by decide +kernel) (by decide +kernel), tbm 421 (by decide +kernel) (by decide +kernel), ini_X0, ⟨by decide +kernel, by decide +kernel, by decide +kernel⟩, by decide +kernel, by decide⟩
theorem v_X0_clear : VO yX0_clear cX0_clear 1 none 0 := ⟨tbm 330 (by decide +kernel) (by decide +kernel), tbm 331 (by decide +kernel) (by decide +kernel), tbm 332 (by decide +kernel) (by decide +kernel), ini_X0, ⟨by decide +kernel, by decide +kernel, by decide +kernel⟩, by decide +kernel, by decide⟩
theorem v_X0_hasItem : VO yX0_hasItem cX0_hasItem 2 (some .boolean) 1 := ⟨tbm 478 (by decide +kernel) (by decide +kernel), tbm 479 (by decide +kernel) (by decide +kernel), tbm 480 (by decide +kernel) (by decide +kernel), ini_X0, ⟨by decide +kernel, by decide +kernel, by decide +kernel⟩, by decide +kernel, by decide⟩
theorem v_X0_hasPair : VO yX0_hasPair cX0_hasPair 3 (some .boolean) 2 := ⟨tbm 474 (by decide +kernel) (by decide +kernel), tbm 475 (by decide +kernel) (by decide +kernel), tbm 476 (by decide +kernel) (by decide +kernel), ini_X0, ⟨by decide +kernel, by decide +kernel, by decide +kernel⟩, by decide +kernel, by decide⟩
theorem v_X0_hasFact : VO yX0_hasFact cX0_hasFact 2 (some .boolean) 1 := ⟨tbm 514 (by decide +kernel) (by decide +kernel), tbm 515 (by decide +kernel) (by decide +kernel), tbm 516 (by decide +kernel) (by decide +kernel), ini_X0, ⟨by decide +kernel, by decide +kernel, by decide +kernel⟩, by decide +kernel, by decide⟩
theorem v_X0_target : VO yX0_target cX0_target 3 (some .int) 2 := ⟨tbm 411 (by decide +kernel) (by decide +kernel), tbm 412 (by decide +kernel) (by decide +kernel), tbm 413 (by decide +kernel) (by decide +kernel), ini_X0, ⟨by decide +kernel, by decide +kernel, by decide +kernel⟩, by decide +kernel, by decide⟩
theorem v_X0_indexOf : VO yX0_indexOf cX0_indexOf 4 (some .int) 2 := ⟨tbm 380 (by decide +kernel) (by decide +kernel), tbm 381 (by decide +kernel) (by decide +kernel), tbm 382 (by decide +kernel) (by decide +kernel), ini_X0, ⟨by decide +kernel, by decide +kernel, by decide +kernel⟩, by decide +kernel, by decide⟩
theorem v_X0_beforeBits : VO yX0_beforeBits cX0_beforeBits 3 (some .int) 0 := ⟨tbm 434 (by decide +kernel) (by decide +kernel), tbm 435 (by decide +kernel) (by decide +kernel), tbm 436 (by decide +kernel) (by decide +kernel), ini_X0, ⟨by decide +kernel, by decide +kernel, by decide +kernel⟩, by decide +kernel, by decide⟩
theorem v_X0_add : VO yX0_add cX0_add 4 none 3 := ⟨tbm 415 (by decide +kernel) (by decide +kernel), tbm 416 (by decide +kernel) (by decide +kernel), tbm 417 (by decide +kernel) (by decide +kernel), ini_X0, ⟨by decide +kernel, by decide +kernel, by decide +kernel⟩, by decide +kernel, by decide⟩
theorem v_X0_remove : VO yX0_remove cX0_remove 4 none 1 := ⟨tbm 518 (by decide +kernel) (by decide +kernel), tbm 519 (by decide +kernel) (by decide +kernel), tbm 520 (by decide +kernel) (by decide +kernel), ini_X0, ⟨by decide +kernel, by decide +kernel, by decide +kernel⟩, by decide +kernel, by decide⟩
theorem v_X0_removeItem : VO yX0_removeItem cX0_removeItem 6 none 1 := ⟨tbm 754 (by decide +kernel) (by decide +kernel), tbm 755 (by decide +kernel) (by decide +kernel), tbm 756 (by decide +kernel) (by decide +kernel), ini_X0, ⟨by decide +kernel, by decide +kernel, by decide +kernel⟩, by decide +kernel, by decide⟩
theorem v_X0_turnBefores : VO yX0_turnBefores cX0_turnBefores 4 (some .int) 0 := ⟨tbm 762 (by decide +kernel) (by decide +kernel), tbm 763 (by decide +kernel) (by decide +kernel), tbm 764 (by decide +kernel) (by decide +kernel), ini_X0, ⟨by decide +kernel, by decide +kernel, by decide +kernel⟩, by decide +kernel, by decide⟩
theorem v_X1_init : NO1 yX1_init cX1_init 1 0 := ⟨tbm 133 (by decide +kernel) (by decide +kernel), tbm 134 (by decide +kernel) (by decide +kernel), ini_X1, ⟨by decide +kernel, by decide +kernel, by decide +kernel⟩, by decide +kernel, by decide, rfl⟩
theorem v_X1_lay : VO yX1_lay cX1_lay 3 none 1 := ⟨tbm 438 (by decide +kernel) (by decide +kernel), tbm 439 (by decide +kernel) (by decide +kernel), tbm 440 (by decide +kernel) (by decide +kernel), ini_X1, ⟨by decide +kernel, by decide +kernel, by decide +kernel⟩, by decide +kernel, by decide⟩
theorem v_X1_precedes : VO yX1_precedes cX1_precedes 3 (some .boolean) 2 := ⟨tbm 645 (by decide +kernel) (by decide +kernel), tbm 646 (by decide +kernel) (by decide +kernel), tbm 647 (by decide +kernel) (by decide +kernel), ini_X1, ⟨by decide +kernel, by decide +kernel, by decide +kernel⟩, by decide +kernel, by decide⟩
theorem v_X1_greatestSet : VO yX1_greatestSet cX1_greatestSet 4 (some .int) 1 := ⟨tbm 657 (by decide +kernel) (by decide +kernel), tbm 658 (by decide +kernel) (by decide +kernel), tbm 659 (by decide +kernel) (by decide +kernel), ini_X1, ⟨by decide +kernel, by decide +kernel, by decide +kernel⟩, by decide +kernel, by decide⟩
theorem v_X1_isUniform : VO yX1_isUniform cX1_isUniform 6 (some .boolean) 2 := ⟨tbm 663 (by decide +kernel) (by decide +kernel), tbs (q := (yX1_isUniform, 8)) 28 (by decide +kernel) (by decide +kernel), tbm 664 (by decide +kernel) (by decide +kernel), ini_X1, ⟨by decide +kernel, by decide +kernel, by decide +kernel⟩, by decide +kernel, by decide⟩
theorem v_X1_fillRooms : VO yX1_fillRooms cX1_fillRooms 3 none 0 := ⟨tbm 675 (by decide +kernel) (by decide +kernel), tbm 676 (by decide +kernel) (by decide +kernel), tbm 677 (by decide +kernel) (by decide +kernel), ini_X1, ⟨by decide +kernel, by decide +kernel, by decide +kernel⟩, by decide +kernel, by decide⟩
theorem v_X1_isFree : VO yX1_isFree cX1_isFree 4 (some .boolean) 2 := ⟨tbm 684 (by decide +kernel) (by decide +kernel), tbs (q := (yX1_isFree, 8)) 30 (by decide +kernel) (by decide +kernel), tbm 685 (by decide +kernel) (by decide +kernel), ini_X1, ⟨by decide +kernel, by decide +kernel, by decide +kernel⟩, by decide +kernel, by decide⟩
theorem v_X1_fillQueue : VO yX1_fillQueue cX1_fillQueue 3 none 0 := ⟨tbm 680 (by decide +kernel) (by decide +kernel), tbs (q := (yX1_fillQueue, 8)) 29 (by decide +kernel) (by decide +kernel), tbm 681 (by decide +kernel) (by decide +kernel), ini_X1, ⟨by decide +kernel, by decide +kernel, by decide +kernel⟩, by decide +kernel, by decide⟩
theorem v_X1_fillProfile : VO yX1_fillProfile cX1_fillProfile 4 none 0 := ⟨tbm 692 (by decide +kernel) (by decide +kernel), tbm 693 (by decide +kernel) (by decide +kernel), tbm 694 (by decide +kernel) (by decide +kernel), ini_X1, ⟨by decide +kernel, by decide +kernel, by decide +kernel⟩, by decide +kernel, by decide⟩
theorem v_X2_init : NO1 yX2_init cX2_init 2 0 := ⟨tbm 72 (by decide +kernel) (by decide +kernel), tbm 73 (by decide +kernel) (by decide +kernel), ini_X2, ⟨by decide +kernel, by decide +kernel, by decide +kernel⟩, by decide +kernel, by decide, rfl⟩
theorem v_X2_push : VO yX2_push cX2_push 2 none 1 := ⟨tbm 492 (by decide +kernel) (by decide +kernel), tbm 493 (by decide +kernel) (by decide +kernel), tbm 494 (by decide +kernel) (by decide +kernel), ini_X2, ⟨by decide +kernel, by decide +kernel, by decide +kernel⟩, by decide +kernel, by decide⟩
theorem v_X2_popInto : VO yX2_popInto cX2_popInto 2 none 1 := ⟨tbm 787 (by decide +kernel) (by decide +kernel), tbm 788 (by decide +kernel) (by decide +kernel), tbm 789 (by decide +kernel) (by decide +kernel), ini_X2, ⟨by decide +kernel, by decide +kernel, by decide +kernel⟩, by decide +kernel, by decide⟩
theorem v_X2_forgetOldest : VO yX2_forgetOldest cX2_forgetOldest 3 none 0 := ⟨tbm 497 (by decide +kernel) (by decide +kernel), tbs (q := (yX2_forgetOldest, 2)) 17 (by decide +kernel) (by decide +kernel), tbm 498 (by decide +kernel) (by decide +kernel), ini_X2, ⟨by decide +kernel, by decide +kernel, by decide +kernel⟩, by decide +kernel, by decide⟩
theorem v_X3_init : NO1 yX3_init cX3_init 1 0 := ⟨tbm 120 (by decide +kernel) (by decide +kernel), tbm 121 (by decide +kernel) (by decide +kernel), ini_X3, ⟨by decide +kernel, by decide +kernel, by decide +kernel⟩, by decide +kernel, by decide, rfl⟩
theorem v_X3_copyFrom : VO yX3_copyFrom cX3_copyFrom 2 none 1 := ⟨tbm 597 (by decide +kernel) (by decide +kernel), tbm 598 (by decide +kernel) (by decide +kernel), tbm 599 (by decide +kernel) (by decide +kernel), ini_X3, ⟨by decide +kernel, by decide +kernel, by decide +kernel⟩, by decide +kernel, by decide⟩
theorem v_X3_weigh : VO yX3_weigh cX3_weigh 3 none 2 := ⟨tbm 556 (by decide +kernel) (by decide +kernel), tbm 557 (by decide +kernel) (by decide +kernel), tbm 558 (by decide +kernel) (by decide +kernel), ini_X3, ⟨by decide +kernel, by decide +kernel, by decide +kernel⟩, by decide +kernel, by decide⟩
theorem v_X3_stretch : VO yX3_stretch cX3_stretch 4 (some .boolean) 2 := ⟨tbm 442 (by decide +kernel) (by decide +kernel), tbm 443 (by decide +kernel) (by decide +kernel), tbm 444 (by decide +kernel) (by decide +kernel), ini_X3, ⟨by decide +kernel, by decide +kernel, by decide +kernel⟩, by decide +kernel, by decide⟩
theorem v_X3_between : VO yX3_between cX3_between 3 (some .int) 2 := ⟨tbm 455 (by decide +kernel) (by decide +kernel), tbm 456 (by decide +kernel) (by decide +kernel), tbm 457 (by decide +kernel) (by decide +kernel), ini_X3, ⟨by decide +kernel, by decide +kernel, by decide +kernel⟩, by decide +kernel, by decide⟩
theorem v_X3_earliest : VO yX3_earliest cX3_earliest 4 (some .int) 1 := ⟨tbm 463 (by decide +kernel) (by decide +kernel), tbm 464 (by decide +kernel) (by decide +kernel), tbm 465 (by decide +kernel) (by decide +kernel), ini_X3, ⟨by decide +kernel, by decide +kernel, by decide +kernel⟩, by decide +kernel, by decide⟩
theorem v_X3_options : VO yX3_options cX3_options 6 (some .int) 2 := ⟨tbm 560 (by decide +kernel) (by decide +kernel), tbm 561 (by decide +kernel) (by decide +kernel), tbm 562 (by decide +kernel) (by decide +kernel), ini_X3, ⟨by decide +kernel, by decide +kernel, by decide +kernel⟩, by decide +kernel, by decide⟩
theorem v_X3_join : VO yX3_join cX3_join 4 none 3 := ⟨tbm 602 (by decide +kernel) (by decide +kernel), tbm 603 (by decide +kernel) (by decide +kernel), tbm 604 (by decide +kernel) (by decide +kernel), ini_X3, ⟨by decide +kernel, by decide +kernel, by decide +kernel⟩, by decide +kernel, by decide⟩
theorem v_X3_lay : VO yX3_lay cX3_lay 7 none 4 := ⟨tbm 447 (by decide +kernel) (by decide +kernel), tbs (q := (yX3_lay, 2)) 13 (by decide +kernel) (by decide +kernel), tbm 448 (by decide +kernel) (by decide +kernel), ini_X3, ⟨by decide +kernel, by decide +kernel, by decide +kernel⟩, by decide +kernel, by decide⟩
theorem v_X3_close : VO yX3_close cX3_close 3 none 0 := ⟨tbm 452 (by decide +kernel) (by decide +kernel), tbs (q := (yX3_close, 2)) 14 (by decide +kernel) (by decide +kernel), tbm 453 (by decide +kernel) (by decide +kernel), ini_X3, ⟨by decide +kernel, by decide +kernel, by decide +kernel⟩, by decide +kernel, by decide⟩
theorem v_X3_link : VO yX3_link cX3_link 5 none 3 := ⟨tbm 607 (by decide +kernel) (by decide +kernel), tbs (q := (yX3_link, 2)) 24 (by decide +kernel) (by decide +kernel), tbm 608 (by decide +kernel) (by decide +kernel), ini_X3, ⟨by decide +kernel, by decide +kernel, by decide +kernel⟩, by decide +kernel, by decide⟩
theorem v_X3_raiseRow : VO yX3_raiseRow cX3_raiseRow 8 none 3 := ⟨tbm 460 (by decide +kernel) (by decide +kernel), tbs (q := (yX3_raiseRow, 2)) 15 (by decide +kernel) (by decide +kernel), tbm 461 (by decide +kernel) (by decide +kernel), ini_X3, ⟨by decide +kernel, by decide +kernel, by decide +kernel⟩, by decide +kernel, by decide⟩
theorem v_X4_init : NO1 yX4_init cX4_init 3 2 := ⟨tbm 218 (by decide +kernel) (by decide +kernel), tbm 219 (by decide +kernel) (by decide +kernel), ini_X4, ⟨by decide +kernel, by decide +kernel, by decide +kernel⟩, by decide +kernel, by decide, rfl⟩
theorem v_X4_read : VO yX4_read cX4_read 2 (some .int) 0 := ⟨tbm 323 (by decide +kernel) (by decide +kernel), tbm 324 (by decide +kernel) (by decide +kernel), tbm 325 (by decide +kernel) (by decide +kernel), ini_X4, ⟨by decide +kernel, by decide +kernel, by decide +kernel⟩, by decide +kernel, by decide⟩
theorem v_X4_isItemRow : VO yX4_isItemRow cX4_isItemRow 1 (some .boolean) 0 := ⟨tbm 350 (by decide +kernel) (by decide +kernel), tbs (q := (yX4_isItemRow, 11)) 2 (by decide +kernel) (by decide +kernel), tbm 351 (by decide +kernel) (by decide +kernel), ini_X4, ⟨by decide +kernel, by decide +kernel, by decide +kernel⟩, by decide +kernel, by decide⟩
theorem v_X4_readItem : VO yX4_readItem cX4_readItem 1 (some .boolean) 0 := ⟨tbm 355 (by decide +kernel) (by decide +kernel), tbs (q := (yX4_readItem, 11)) 3 (by decide +kernel) (by decide +kernel), tbm 356 (by decide +kernel) (by decide +kernel), ini_X4, ⟨by decide +kernel, by decide +kernel, by decide +kernel⟩, by decide +kernel, by decide⟩
theorem v_X4_readFact : VO yX4_readFact cX4_readFact 5 (some .boolean) 0 := ⟨tbm 377 (by decide +kernel) (by decide +kernel), tbs (q := (yX4_readFact, 11)) 8 (by decide +kernel) (by decide +kernel), tbm 378 (by decide +kernel) (by decide +kernel), ini_X4, ⟨by decide +kernel, by decide +kernel, by decide +kernel⟩, by decide +kernel, by decide⟩
theorem v_X4_readStop : VO yX4_readStop cX4_readStop 1 (some .boolean) 0 := ⟨tbm 373 (by decide +kernel) (by decide +kernel), tbs (q := (yX4_readStop, 11)) 7 (by decide +kernel) (by decide +kernel), tbm 374 (by decide +kernel) (by decide +kernel), ini_X4, ⟨by decide +kernel, by decide +kernel, by decide +kernel⟩, by decide +kernel, by decide⟩
theorem v_X4_isName : VO yX4_isName cX4_isName 1 (some .boolean) 0 := ⟨tbm 363 (by decide +kernel) (by decide +kernel), tbs (q := (yX4_isName, 11)) 5 (by decide +kernel) (by decide +kernel), tbm 364 (by decide +kernel) (by decide +kernel), ini_X4, ⟨by decide +kernel, by decide +kernel, by decide +kernel⟩, by decide +kernel, by decide⟩
theorem v_X4_itemNamed : VO yX4_itemNamed cX4_itemNamed 2 (some .int) 0 := ⟨tbm 369 (by decide +kernel) (by decide +kernel), tbs (q := (yX4_itemNamed, 11)) 6 (by decide +kernel) (by decide +kernel), tbm 370 (by decide +kernel) (by decide +kernel), ini_X4, ⟨by decide +kernel, by decide +kernel, by decide +kernel⟩, by decide +kernel, by decide⟩
theorem v_X4_fail : VO yX4_fail cX4_fail 3 (some .boolean) 2 := ⟨tbm 359 (by decide +kernel) (by decide +kernel), tbs (q := (yX4_fail, 11)) 4 (by decide +kernel) (by decide +kernel), tbm 360 (by decide +kernel) (by decide +kernel), ini_X4, ⟨by decide +kernel, by decide +kernel, by decide +kernel⟩, by decide +kernel, by decide⟩
theorem v_X4_step : VO yX4_step cX4_step 1 none 0 := ⟨tbm 335 (by decide +kernel) (by decide +kernel), tbs (q := (yX4_step, 11)) 0 (by decide +kernel) (by decide +kernel), tbm 336 (by decide +kernel) (by decide +kernel), ini_X4, ⟨by decide +kernel, by decide +kernel, by decide +kernel⟩, by decide +kernel, by decide⟩
theorem v_X4_readWord : VO yX4_readWord cX4_readWord 1 none 0 := ⟨tbm 345 (by decide +kernel) (by decide +kernel), tbs (q := (yX4_readWord, 11)) 1 (by decide +kernel) (by decide +kernel), tbm 346 (by decide +kernel) (by decide +kernel), ini_X4, ⟨by decide +kernel, by decide +kernel, by decide +kernel⟩, by decide +kernel, by decide⟩
theorem v_X4_isBlank : SO yX4_isBlank cX4_isBlank 1 (some .boolean) 1 := ⟨tbm 338 (by decide +kernel) (by decide +kernel), tbm 339 (by decide +kernel) (by decide +kernel), ini_X4, ⟨by decide +kernel, by decide +kernel, by decide +kernel⟩, by decide +kernel, by decide⟩
theorem v_X4_isLetter : SO yX4_isLetter cX4_isLetter 1 (some .boolean) 1 := ⟨tbm 341 (by decide +kernel) (by decide +kernel), tbm 342 (by decide +kernel) (by decide +kernel), ini_X4, ⟨by decide +kernel, by decide +kernel, by decide +kernel⟩, by decide +kernel, by decide⟩
theorem v_X5_init : NO1 yX5_init cX5_init 1 0 := ⟨tbm 89 (by decide +kernel) (by decide +kernel), tbm 90 (by decide +kernel) (by decide +kernel), ini_X5, ⟨by decide +kernel, by decide +kernel, by decide +kernel⟩, by decide +kernel, by decide, rfl⟩
theorem v_X5_seek : VO yX5_seek cX5_seek 8 (some .boolean) 5 := ⟨tbm 384 (by decide +kernel) (by decide +kernel), tbm 385 (by decide +kernel) (by decide +kernel), tbm 386 (by decide +kernel) (by decide +kernel), ini_X5, ⟨by decide +kernel, by decide +kernel, by decide +kernel⟩, by decide +kernel, by decide⟩
theorem v_X5_bits : VO yX5_bits cX5_bits 3 (some .int) 0 := ⟨tbm 627 (by decide +kernel) (by decide +kernel), tbm 628 (by decide +kernel) (by decide +kernel), tbm 629 (by decide +kernel) (by decide +kernel), ini_X5, ⟨by decide +kernel, by decide +kernel, by decide +kernel⟩, by decide +kernel, by decide⟩
theorem v_X5_fewest : VO yX5_fewest cX5_fewest 8 (some .int) 5 := ⟨tbm 389 (by decide +kernel) (by decide +kernel), tbs (q := (yX5_fewest, 6)) 9 (by decide +kernel) (by decide +kernel), tbm 390 (by decide +kernel) (by decide +kernel), ini_X5, ⟨by decide +kernel, by decide +kernel, by decide +kernel⟩, by decide +kernel, by decide⟩
theorem v_X5_raise : VO yX5_raise cX5_raise 7 none 4 := ⟨tbm 400 (by decide +kernel) (by decide +kernel), tbs (q := (yX5_raise, 6)) 10 (by decide +kernel) (by decide +kernel), tbm 401 (by decide +kernel) (by decide +kernel), ini_X5, ⟨by decide +kernel, by decide +kernel, by decide +kernel⟩, by decide +kernel, by decide⟩
theorem v_X5_trace : VO yX5_trace cX5_trace 11 none 6 := ⟨tbm 404 (by decide +kernel) (by decide +kernel), tbs (q := (yX5_trace, 6)) 11 (by decide +kernel) (by decide +kernel), tbm 405 (by decide +kernel) (by decide +kernel), ini_X5, ⟨by decide +kernel, by decide +kernel, by decide +kernel⟩, by decide +kernel, by decide⟩
theorem v_X5_firstStep : VO yX5_firstStep cX5_firstStep 9 (some .int) 5 := ⟨tbm 408 (by decide +kernel) (by decide +kernel), tbs (q := (yX5_firstStep, 6)) 12 (by decide +kernel) (by decide +kernel), tbm 409 (by decide +kernel) (by decide +kernel), ini_X5, ⟨by decide +kernel, by decide +kernel, by decide +kernel⟩, by decide +kernel, by decide⟩
theorem v_X5_weight : SO yX5_weight cX5_weight 1 (some .int) 1 := ⟨tbm 396 (by decide +kernel) (by decide +kernel), tbm 397 (by decide +kernel) (by decide +kernel), ini_X5, ⟨by decide +kernel, by decide +kernel, by decide +kernel⟩, by decide +kernel, by decide⟩
theorem v_X6_init : NO1 yX6_init cX6_init 1 0 := ⟨tbm 192 (by decide +kernel) (by decide +kernel), tbm 193 (by decide +kernel) (by decide +kernel), ini_X6, ⟨by decide +kernel, by decide +kernel, by decide +kernel⟩, by decide +kernel, by decide, rfl⟩
theorem v_X6_howMany : VO yX6_howMany cX6_howMany 2 (some .int) 1 := ⟨tbm 716 (by decide +kernel) (by decide +kernel), tbm 717 (by decide +kernel) (by decide +kernel), tbm 718 (by decide +kernel) (by decide +kernel), ini_X6, ⟨by decide +kernel, by decide +kernel, by decide +kernel⟩, by decide +kernel, by decide⟩
theorem v_X6_rankOf : VO yX6_rankOf cX6_rankOf 7 (some .int) 2 := ⟨tbm 700 (by decide +kernel) (by decide +kernel), tbm 701 (by decide +kernel) (by decide +kernel), tbm 702 (by decide +kernel) (by decide +kernel), ini_X6, ⟨by decide +kernel, by decide +kernel, by decide +kernel⟩, by decide +kernel, by decide⟩
theorem v_X6_spell : VO yX6_spell cX6_spell 7 none 3 := ⟨tbm 724 (by decide +kernel) (by decide +kernel), tbm 725 (by decide +kernel) (by decide +kernel), tbm 726 (by decide +kernel) (by decide +kernel), ini_X6, ⟨by decide +kernel, by decide +kernel, by decide +kernel⟩, by decide +kernel, by decide⟩
theorem v_X6_tailAt : VO yX6_tailAt cX6_tailAt 3 (some .int) 2 := ⟨tbm 709 (by decide +kernel) (by decide +kernel), tbs (q := (yX6_tailAt, 1)) 32 (by decide +kernel) (by decide +kernel), tbm 710 (by decide +kernel) (by decide +kernel), ini_X6, ⟨by decide +kernel, by decide +kernel, by decide +kernel⟩, by decide +kernel, by decide⟩
theorem v_X6_fillTails : VO yX6_fillTails cX6_fillTails 5 none 1 := ⟨tbm 705 (by decide +kernel) (by decide +kernel), tbs (q := (yX6_fillTails, 1)) 31 (by decide +kernel) (by decide +kernel), tbm 706 (by decide +kernel) (by decide +kernel), ini_X6, ⟨by decide +kernel, by decide +kernel, by decide +kernel⟩, by decide +kernel, by decide⟩
theorem v_X7_init : NO1 yX7_init cX7_init 1 0 := ⟨tbm 202 (by decide +kernel) (by decide +kernel), tbm 203 (by decide +kernel) (by decide +kernel), ini_X7, ⟨by decide +kernel, by decide +kernel, by decide +kernel⟩, by decide +kernel, by decide, rfl⟩
theorem v_X7_put : VO yX7_put cX7_put 3 none 1 := ⟨tbm 311 (by decide +kernel) (by decide +kernel), tbm 312 (by decide +kernel) (by decide +kernel), tbm 313 (by decide +kernel) (by decide +kernel), ini_X7, ⟨by decide +kernel, by decide +kernel, by decide +kernel⟩, by decide +kernel, by decide⟩
theorem v_X8_init : NO1 yX8_init cX8_init 2 0 := ⟨tbm 170 (by decide +kernel) (by decide +kernel), tbm 171 (by decide +kernel) (by decide +kernel), ini_X8, ⟨by decide +kernel, by decide +kernel, by decide +kernel⟩, by decide +kernel, by decide, rfl⟩
theorem v_X8_count : VO yX8_count cX8_count 4 (some .int) 1 := ⟨tbm 568 (by decide +kernel) (by decide +kernel), tbm 569 (by decide +kernel) (by decide +kernel), tbm 570 (by decide +kernel) (by decide +kernel), ini_X8, ⟨by decide +kernel, by decide +kernel, by decide +kernel⟩, by decide +kernel, by decide⟩
theorem v_X8_follow : VO yX8_follow cX8_follow 8 (some .int) 3 := ⟨tbm 575 (by decide +kernel) (by decide +kernel), tbs (q := (yX8_follow, 4)) 20 (by decide +kernel) (by decide +kernel), tbm 576 (by decide +kernel) (by decide +kernel), ini_X8, ⟨by decide +kernel, by decide +kernel, by decide +kernel⟩, by decide +kernel, by decide⟩
theorem v_X8_nextOpen : VO yX8_nextOpen cX8_nextOpen 4 (some .int) 2 := ⟨tbm 579 (by decide +kernel) (by decide +kernel), tbs (q := (yX8_nextOpen, 4)) 21 (by decide +kernel) (by decide +kernel), tbm 580 (by decide +kernel) (by decide +kernel), ini_X8, ⟨by decide +kernel, by decide +kernel, by decide +kernel⟩, by decide +kernel, by decide⟩
theorem v_X8_branch : VO yX8_branch cX8_branch 6 (some .int) 4 := ⟨tbm 594 (by decide +kernel) (by decide +kernel), tbs (q := (yX8_branch, 4)) 23 (by decide +kernel) (by decide +kernel), tbm 595 (by decide +kernel) (by decide +kernel), ini_X8, ⟨by decide +kernel, by decide +kernel, by decide +kernel⟩, by decide +kernel, by decide⟩
theorem v_X8_optionsOf : VO yX8_optionsOf cX8_optionsOf 3 (some .int) 2 := ⟨tbm 583 (by decide +kernel) (by decide +kernel), tbs (q := (yX8_optionsOf, 4)) 22 (by decide +kernel) (by decide +kernel), tbm 584 (by decide +kernel) (by decide +kernel), ini_X8, ⟨by decide +kernel, by decide +kernel, by decide +kernel⟩, by decide +kernel, by decide⟩
theorem v_X9_init : NO1 yX9_init cX9_init 2 0 := ⟨tbm 23 (by decide +kernel) (by decide +kernel), tbm 24 (by decide +kernel) (by decide +kernel), ini_X9, ⟨by decide +kernel, by decide +kernel, by decide +kernel⟩, by decide +kernel, by decide, rfl⟩
theorem v_X9_feed : VO yX9_feed cX9_feed 6 (some .int) 5 := ⟨tbm 307 (by decide +kernel) (by decide +kernel), tbm 308 (by decide +kernel) (by decide +kernel), tbm 309 (by decide +kernel) (by decide +kernel), ini_X9, ⟨by decide +kernel, by decide +kernel, by decide +kernel⟩, by decide +kernel, by decide⟩
theorem v_X9_end : VO yX9_end cX9_end 2 (some .boolean) 1 := ⟨tbm 315 (by decide +kernel) (by decide +kernel), tbm 316 (by decide +kernel) (by decide +kernel), tbm 317 (by decide +kernel) (by decide +kernel), ini_X9, ⟨by decide +kernel, by decide +kernel, by decide +kernel⟩, by decide +kernel, by decide⟩
theorem v_X9_notes : VO yX9_notes cX9_notes 2 (some .int) 0 := ⟨tbm 319 (by decide +kernel) (by decide +kernel), tbm 320 (by decide +kernel) (by decide +kernel), tbm 321 (by decide +kernel) (by decide +kernel), ini_X9, ⟨by decide +kernel, by decide +kernel, by decide +kernel⟩, by decide +kernel, by decide⟩
theorem v_X9_fault : VO yX9_fault cX9_fault 1 (some .int) 0 := ⟨tbm 426 (by decide +kernel) (by decide +kernel), tbm 427 (by decide +kernel) (by decide +kernel), tbm 428 (by decide +kernel) (by decide +kernel), ini_X9, ⟨by decide +kernel, by decide +kernel, by decide +kernel⟩, by decide +kernel, by decide⟩
theorem v_X9_now : VO yX9_now cX9_now 2 (some .int) 1 := ⟨tbm 430 (by decide +kernel) (by decide +kernel), tbm 431 (by decide +kernel) (by decide +kernel), tbm 432 (by decide +kernel) (by decide +kernel), ini_X9, ⟨by decide +kernel, by decide +kernel, by decide +kernel⟩, by decide +kernel, by decide⟩
theorem v_X9_fact : VO yX9_fact cX9_fact 3 (some .int) 2 := ⟨tbm 803 (by decide +kernel) (by decide +kernel), tbm 804 (by decide +kernel) (by decide +kernel), tbm 805 (by decide +kernel) (by decide +kernel), ini_X9, ⟨by decide +kernel, by decide +kernel, by decide +kernel⟩, by decide +kernel, by decide⟩
theorem v_X9_about : VO yX9_about cX9_about 3 (some .int) 2 := ⟨tbm 470 (by decide +kernel) (by decide +kernel), tbm 471 (by decide +kernel) (by decide +kernel), tbm 472 (by decide +kernel) (by decide +kernel), ini_X9, ⟨by decide +kernel, by decide +kernel, by decide +kernel⟩, by decide +kernel, by decide⟩
theorem v_X9_tell : VO yX9_tell cX9_tell 4 (some .int) 3 := ⟨tbm 483 (by decide +kernel) (by decide +kernel), tbm 484 (by decide +kernel) (by decide +kernel), tbm 485 (by decide +kernel) (by decide +kernel), ini_X9, ⟨by decide +kernel, by decide +kernel, by decide +kernel⟩, by decide +kernel, by decide⟩
theorem v_X9_refuted : VO yX9_refuted cX9_refuted 2 (some .int) 1 := ⟨tbm 502 (by decide +kernel) (by decide +kernel), tbm 503 (by decide +kernel) (by decide +kernel), tbm 504 (by decide +kernel) (by decide +kernel), ini_X9, ⟨by decide +kernel, by decide +kernel, by decide +kernel⟩, by decide +kernel, by decide⟩
theorem v_X9_ring : VO yX9_ring cX9_ring 2 (some .int) 1 := ⟨tbm 506 (by decide +kernel) (by decide +kernel), tbm 507 (by decide +kernel) (by decide +kernel), tbm 508 (by decide +kernel) (by decide +kernel), ini_X9, ⟨by decide +kernel, by decide +kernel, by decide +kernel⟩, by decide +kernel, by decide⟩
theorem v_X9_forget : VO yX9_forget cX9_forget 2 (some .int) 1 := ⟨tbm 510 (by decide +kernel) (by decide +kernel), tbm 511 (by decide +kernel) (by decide +kernel), tbm 512 (by decide +kernel) (by decide +kernel), ini_X9, ⟨by decide +kernel, by decide +kernel, by decide +kernel⟩, by decide +kernel, by decide⟩
theorem v_X9_begin : VO yX9_begin cX9_begin 3 (some .int) 2 := ⟨tbm 523 (by decide +kernel) (by decide +kernel), tbm 524 (by decide +kernel) (by decide +kernel), tbm 525 (by decide +kernel) (by decide +kernel), ini_X9, ⟨by decide +kernel, by decide +kernel, by decide +kernel⟩, by decide +kernel, by decide⟩
theorem v_X9_gap : VO yX9_gap cX9_gap 6 (some .int) 4 := ⟨tbm 534 (by decide +kernel) (by decide +kernel), tbm 535 (by decide +kernel) (by decide +kernel), tbm 536 (by decide +kernel) (by decide +kernel), ini_X9, ⟨by decide +kernel, by decide +kernel, by decide +kernel⟩, by decide +kernel, by decide⟩
theorem v_X9_tight : VO yX9_tight cX9_tight 6 (some .int) 1 := ⟨tbm 541 (by decide +kernel) (by decide +kernel), tbm 542 (by decide +kernel) (by decide +kernel), tbm 543 (by decide +kernel) (by decide +kernel), ini_X9, ⟨by decide +kernel, by decide +kernel, by decide +kernel⟩, by decide +kernel, by decide⟩
theorem v_X9_may : VO yX9_may cX9_may 3 (some .int) 2 := ⟨tbm 548 (by decide +kernel) (by decide +kernel), tbm 549 (by decide +kernel) (by decide +kernel), tbm 550 (by decide +kernel) (by decide +kernel), ini_X9, ⟨by decide +kernel, by decide +kernel, by decide +kernel⟩, by decide +kernel, by decide⟩
theorem v_X9_ways : VO yX9_ways cX9_ways 1 (some .int) 0 := ⟨tbm 564 (by decide +kernel) (by decide +kernel), tbm 565 (by decide +kernel) (by decide +kernel), tbm 566 (by decide +kernel) (by decide +kernel), ini_X9, ⟨by decide +kernel, by decide +kernel, by decide +kernel⟩, by decide +kernel, by decide⟩
theorem v_X9_test : VO yX9_test cX9_test 4 (some .int) 3 := ⟨tbm 611 (by decide +kernel) (by decide +kernel), tbm 612 (by decide +kernel) (by decide +kernel), tbm 613 (by decide +kernel) (by decide +kernel), ini_X9, ⟨by decide +kernel, by decide +kernel, by decide +kernel⟩, by decide +kernel, by decide⟩
theorem v_X9_yields : VO yX9_yields cX9_yields 6 (some .int) 3 := ⟨tbm 615 (by decide +kernel) (by decide +kernel), tbm 616 (by decide +kernel) (by decide +kernel), tbm 617 (by decide +kernel) (by decide +kernel), ini_X9, ⟨by decide +kernel, by decide +kernel, by decide +kernel⟩, by decide +kernel, by decide⟩
theorem v_X9_idle : VO yX9_idle cX9_idle 3 (some .int) 0 := ⟨tbm 631 (by decide +kernel) (by decide +kernel), tbm 632 (by decide +kernel) (by decide +kernel), tbm 633 (by decide +kernel) (by decide +kernel), ini_X9, ⟨by decide +kernel, by decide +kernel, by decide +kernel⟩, by decide +kernel, by decide⟩
theorem v_X9_late : VO yX9_late cX9_late 6 (some .int) 3 := ⟨tbm 636 (by decide +kernel) (by decide +kernel), tbm 637 (by decide +kernel) (by decide +kernel), tbm 638 (by decide +kernel) (by decide +kernel), ini_X9, ⟨by decide +kernel, by decide +kernel, by decide +kernel⟩, by decide +kernel, by decide⟩
theorem v_X9_ahead : VO yX9_ahead cX9_ahead 3 (some .int) 2 := ⟨tbm 641 (by decide +kernel) (by decide +kernel), tbm 642 (by decide +kernel) (by decide +kernel), tbm 643 (by decide +kernel) (by decide +kernel), ini_X9, ⟨by decide +kernel, by decide +kernel, by decide +kernel⟩, by decide +kernel, by decide⟩
theorem v_X9_chain : VO yX9_chain cX9_chain 2 (some .int) 1 := ⟨tbm 649 (by decide +kernel) (by decide +kernel), tbm 650 (by decide +kernel) (by decide +kernel), tbm 651 (by decide +kernel) (by decide +kernel), ini_X9, ⟨by decide +kernel, by decide +kernel, by decide +kernel⟩, by decide +kernel, by decide⟩
theorem v_X9_crowd : VO yX9_crowd cX9_crowd 2 (some .int) 1 := ⟨tbm 667 (by decide +kernel) (by decide +kernel), tbm 668 (by decide +kernel) (by decide +kernel), tbm 669 (by decide +kernel) (by decide +kernel), ini_X9, ⟨by decide +kernel, by decide +kernel, by decide +kernel⟩, by decide +kernel, by decide⟩
theorem v_X9_room : VO yX9_room cX9_room 2 (some .int) 1 := ⟨tbm 671 (by decide +kernel) (by decide +kernel), tbm 672 (by decide +kernel) (by decide +kernel), tbm 673 (by decide +kernel) (by decide +kernel), ini_X9, ⟨by decide +kernel, by decide +kernel, by decide +kernel⟩, by decide +kernel, by decide⟩
theorem v_X9_shape : VO yX9_shape cX9_shape 2 (some .int) 1 := ⟨tbm 688 (by decide +kernel) (by decide +kernel), tbm 689 (by decide +kernel) (by decide +kernel), tbm 690 (by decide +kernel) (by decide +kernel), ini_X9, ⟨by decide +kernel, by decide +kernel, by decide +kernel⟩, by decide +kernel, by decide⟩
theorem v_X9_rank : VO yX9_rank cX9_rank 1 (some .int) 0 := ⟨tbm 696 (by decide +kernel) (by decide +kernel), tbm 697 (by decide +kernel) (by decide +kernel), tbm 698 (by decide +kernel) (by decide +kernel), ini_X9, ⟨by decide +kernel, by decide +kernel, by decide +kernel⟩, by decide +kernel, by decide⟩
theorem v_X9_shapes : VO yX9_shapes cX9_shapes 2 (some .int) 1 := ⟨tbm 712 (by decide +kernel) (by decide +kernel), tbm 713 (by decide +kernel) (by decide +kernel), tbm 714 (by decide +kernel) (by decide +kernel), ini_X9, ⟨by decide +kernel, by decide +kernel, by decide +kernel⟩, by decide +kernel, by decide⟩
theorem v_X9_make : VO yX9_make cX9_make 5 (some .int) 2 := ⟨tbm 720 (by decide +kernel) (by decide +kernel), tbm 721 (by decide +kernel) (by decide +kernel), tbm 722 (by decide +kernel) (by decide +kernel), ini_X9, ⟨by decide +kernel, by decide +kernel, by decide +kernel⟩, by decide +kernel, by decide⟩
theorem v_X9_finish : VO yX9_finish cX9_finish 4 (some .int) 0 := ⟨tbm 729 (by decide +kernel) (by decide +kernel), tbm 730 (by decide +kernel) (by decide +kernel), tbm 731 (by decide +kernel) (by decide +kernel), ini_X9, ⟨by decide +kernel, by decide +kernel, by decide +kernel⟩, by decide +kernel, by decide⟩
theorem v_X9_grow : VO yX9_grow cX9_grow 1 (some .int) 0 := ⟨tbm 746 (by decide +kernel) (by decide +kernel), tbm 747 (by decide +kernel) (by decide +kernel), tbm 748 (by decide +kernel) (by decide +kernel), ini_X9, ⟨by decide +kernel, by decide +kernel, by decide +kernel⟩, by decide +kernel, by decide⟩
theorem v_X9_drop : VO yX9_drop cX9_drop 2 (some .int) 1 := ⟨tbm 750 (by decide +kernel) (by decide +kernel), tbm 751 (by decide +kernel) (by decide +kernel), tbm 752 (by decide +kernel) (by decide +kernel), ini_X9, ⟨by decide +kernel, by decide +kernel, by decide +kernel⟩, by decide +kernel, by decide⟩
theorem v_X9_turn : VO yX9_turn cX9_turn 2 (some .int) 0 := ⟨tbm 758 (by decide +kernel) (by decide +kernel), tbm 759 (by decide +kernel) (by decide +kernel), tbm 760 (by decide +kernel) (by decide +kernel), ini_X9, ⟨by decide +kernel, by decide +kernel, by decide +kernel⟩, by decide +kernel, by decide⟩
theorem v_X9_drawn : VO yX9_drawn cX9_drawn 5 (some .int) 2 := ⟨tbm 766 (by decide +kernel) (by decide +kernel), tbm 767 (by decide +kernel) (by decide +kernel), tbm 768 (by decide +kernel) (by decide +kernel), ini_X9, ⟨by decide +kernel, by decide +kernel, by decide +kernel⟩, by decide +kernel, by decide⟩
theorem v_X9_undo : VO yX9_undo cX9_undo 1 (some .int) 0 := ⟨tbm 783 (by decide +kernel) (by decide +kernel), tbm 784 (by decide +kernel) (by decide +kernel), tbm 785 (by decide +kernel) (by decide +kernel), ini_X9, ⟨by decide +kernel, by decide +kernel, by decide +kernel⟩, by decide +kernel, by decide⟩
theorem v_X9_image : VO yX9_image cX9_image 2 (some .boolean) 1 := ⟨tbm 791 (by decide +kernel) (by decide +kernel), tbm 792 (by decide +kernel) (by decide +kernel), tbm 793 (by decide +kernel) (by decide +kernel), ini_X9, ⟨by decide +kernel, by decide +kernel, by decide +kernel⟩, by decide +kernel, by decide⟩
theorem v_X9_restore : VO yX9_restore cX9_restore 2 (some .boolean) 1 := ⟨tbm 795 (by decide +kernel) (by decide +kernel), tbm 796 (by decide +kernel) (by decide +kernel), tbm 797 (by decide +kernel) (by decide +kernel), ini_X9, ⟨by decide +kernel, by decide +kernel, by decide +kernel⟩, by decide +kernel, by decide⟩
theorem v_X9_canBeNamed : VO yX9_canBeNamed cX9_canBeNamed 4 (some .boolean) 3 := ⟨tbm 488 (by decide +kernel) (by decide +kernel), tbs (q := (yX9_canBeNamed, 15)) 16 (by decide +kernel) (by decide +kernel), tbm 489 (by decide +kernel) (by decide +kernel), ini_X9, ⟨by decide +kernel, by decide +kernel, by decide +kernel⟩, by decide +kernel, by decide⟩
theorem v_X9_layOut : VO yX9_layOut cX9_layOut 2 (some .boolean) 1 := ⟨tbm 529 (by decide +kernel) (by decide +kernel), tbs (q := (yX9_layOut, 15)) 18 (by decide +kernel) (by decide +kernel), tbm 530 (by decide +kernel) (by decide +kernel), ini_X9, ⟨by decide +kernel, by decide +kernel, by decide +kernel⟩, by decide +kernel, by decide⟩
theorem v_X9_openTo : VO yX9_openTo cX9_openTo 4 (some .int) 2 := ⟨tbm 553 (by decide +kernel) (by decide +kernel), tbs (q := (yX9_openTo, 15)) 19 (by decide +kernel) (by decide +kernel), tbm 554 (by decide +kernel) (by decide +kernel), ini_X9, ⟨by decide +kernel, by decide +kernel, by decide +kernel⟩, by decide +kernel, by decide⟩
theorem v_X9_leastYield : VO yX9_leastYield cX9_leastYield 6 (some .int) 5 := ⟨tbm 620 (by decide +kernel) (by decide +kernel), tbs (q := (yX9_leastYield, 15)) 25 (by decide +kernel) (by decide +kernel), tbm 621 (by decide +kernel) (by decide +kernel), ini_X9, ⟨by decide +kernel, by decide +kernel, by decide +kernel⟩, by decide +kernel, by decide⟩
theorem v_X9_leastOfRing : VO yX9_leastOfRing cX9_leastOfRing 10 (some .int) 5 := ⟨tbm 624 (by decide +kernel) (by decide +kernel), tbs (q := (yX9_leastOfRing, 15)) 26 (by decide +kernel) (by decide +kernel), tbm 625 (by decide +kernel) (by decide +kernel), ini_X9, ⟨by decide +kernel, by decide +kernel, by decide +kernel⟩, by decide +kernel, by decide⟩
theorem v_X9_greatest : VO yX9_greatest cX9_greatest 4 (some .int) 2 := ⟨tbm 654 (by decide +kernel) (by decide +kernel), tbs (q := (yX9_greatest, 15)) 27 (by decide +kernel) (by decide +kernel), tbm 655 (by decide +kernel) (by decide +kernel), ini_X9, ⟨by decide +kernel, by decide +kernel, by decide +kernel⟩, by decide +kernel, by decide⟩
theorem v_X9_tellFirstOpen : VO yX9_tellFirstOpen cX9_tellFirstOpen 4 none 2 := ⟨tbm 734 (by decide +kernel) (by decide +kernel), tbs (q := (yX9_tellFirstOpen, 15)) 33 (by decide +kernel) (by decide +kernel), tbm 735 (by decide +kernel) (by decide +kernel), ini_X9, ⟨by decide +kernel, by decide +kernel, by decide +kernel⟩, by decide +kernel, by decide⟩
theorem v_X9_tellWeighed : VO yX9_tellWeighed cX9_tellWeighed 4 none 3 := ⟨tbm 738 (by decide +kernel) (by decide +kernel), tbs (q := (yX9_tellWeighed, 15)) 34 (by decide +kernel) (by decide +kernel), tbm 739 (by decide +kernel) (by decide +kernel), ini_X9, ⟨by decide +kernel, by decide +kernel, by decide +kernel⟩, by decide +kernel, by decide⟩
theorem v_X9_keepMarkIf : VO yX9_keepMarkIf cX9_keepMarkIf 2 none 1 := ⟨tbm 743 (by decide +kernel) (by decide +kernel), tbs (q := (yX9_keepMarkIf, 15)) 35 (by decide +kernel) (by decide +kernel), tbm 744 (by decide +kernel) (by decide +kernel), ini_X9, ⟨by decide +kernel, by decide +kernel, by decide +kernel⟩, by decide +kernel, by decide⟩
theorem v_X9_draw : VO yX9_draw cX9_draw 2 (some .int) 1 := ⟨tbm 771 (by decide +kernel) (by decide +kernel), tbs (q := (yX9_draw, 15)) 36 (by decide +kernel) (by decide +kernel), tbm 772 (by decide +kernel) (by decide +kernel), ini_X9, ⟨by decide +kernel, by decide +kernel, by decide +kernel⟩, by decide +kernel, by decide⟩
theorem v_X9_drawForgotten : VO yX9_drawForgotten cX9_drawForgotten 1 (some .boolean) 0 := ⟨tbm 776 (by decide +kernel) (by decide +kernel), tbs (q := (yX9_drawForgotten, 15)) 37 (by decide +kernel) (by decide +kernel), tbm 777 (by decide +kernel) (by decide +kernel), ini_X9, ⟨by decide +kernel, by decide +kernel, by decide +kernel⟩, by decide +kernel, by decide⟩
theorem v_X9_drawTold : VO yX9_drawTold cX9_drawTold 4 (some .boolean) 0 := ⟨tbm 780 (by decide +kernel) (by decide +kernel), tbs (q := (yX9_drawTold, 15)) 38 (by decide +kernel) (by decide +kernel), tbm 781 (by decide +kernel) (by decide +kernel), ini_X9, ⟨by decide +kernel, by decide +kernel, by decide +kernel⟩, by decide +kernel, by decide⟩
theorem v_X10_thrown : VO yX10_thrown cX10_thrown 1 (some .int) 0 := ⟨tbm 873 (by decide +kernel) (by decide +kernel), tbm 874 (by decide +kernel) (by decide +kernel), tbm 875 (by decide +kernel) (by decide +kernel), ini_X10, ⟨by decide +kernel, by decide +kernel, by decide +kernel⟩, by decide +kernel, by decide⟩
theorem v_X10_refuse : VO yX10_refuse cX10_refuse 1 (some .int) 0 := ⟨tbm 1157 (by decide +kernel) (by decide +kernel), tbs (q := (yX10_refuse, 38)) 64 (by decide +kernel) (by decide +kernel), tbm 1158 (by decide +kernel) (by decide +kernel), ini_X10, ⟨by decide +kernel, by decide +kernel, by decide +kernel⟩, by decide +kernel, by decide⟩
theorem v_X10_isIn : SO yX10_isIn cX10_isIn 3 (some .boolean) 3 := ⟨tbm 1114 (by decide +kernel) (by decide +kernel), tbm 1115 (by decide +kernel) (by decide +kernel), ini_X10, ⟨by decide +kernel, by decide +kernel, by decide +kernel⟩, by decide +kernel, by decide⟩
theorem v_X10_has : SO yX10_has cX10_has 2 (some .boolean) 2 := ⟨tbm 1259 (by decide +kernel) (by decide +kernel), tbm 1260 (by decide +kernel) (by decide +kernel), ini_X10, ⟨by decide +kernel, by decide +kernel, by decide +kernel⟩, by decide +kernel, by decide⟩
theorem v_X10_bits : SO yX10_bits cX10_bits 3 (some .int) 1 := ⟨tbm 1240 (by decide +kernel) (by decide +kernel), tbm 1241 (by decide +kernel) (by decide +kernel), ini_X10, ⟨by decide +kernel, by decide +kernel, by decide +kernel⟩, by decide +kernel, by decide⟩
theorem v_X10_lay : VO yX10_lay cX10_lay 3 none 1 := ⟨tbm 882 (by decide +kernel) (by decide +kernel), tbs (q := (yX10_lay, 38)) 40 (by decide +kernel) (by decide +kernel), tbm 884 (by decide +kernel) (by decide +kernel), ini_X10, ⟨by decide +kernel, by decide +kernel, by decide +kernel⟩, by decide +kernel, by decide⟩
theorem v_X10_feed : VO yX10_feed cX10_feed 6 (some .int) 5 := ⟨tbm 877 (by decide +kernel) (by decide +kernel), tbm 878 (by decide +kernel) (by decide +kernel), tbm 879 (by decide +kernel) (by decide +kernel), ini_X10, ⟨by decide +kernel, by decide +kernel, by decide +kernel⟩, by decide +kernel, by decide⟩
theorem v_X10_end : VO yX10_end cX10_end 2 (some .boolean) 1 := ⟨tbm 886 (by decide +kernel) (by decide +kernel), tbm 887 (by decide +kernel) (by decide +kernel), tbm 888 (by decide +kernel) (by decide +kernel), ini_X10, ⟨by decide +kernel, by decide +kernel, by decide +kernel⟩, by decide +kernel, by decide⟩
theorem v_X10_tapeAt : VO yX10_tapeAt cX10_tapeAt 2 (some .int) 1 := ⟨tbm 1022 (by decide +kernel) (by decide +kernel), tbs (q := (yX10_tapeAt, 38)) 42 (by decide +kernel) (by decide +kernel), tbm 1023 (by decide +kernel) (by decide +kernel), ini_X10, ⟨by decide +kernel, by decide +kernel, by decide +kernel⟩, by decide +kernel, by decide⟩
theorem v_X10_isLetter : SO yX10_isLetter cX10_isLetter 1 (some .boolean) 1 := ⟨tbm 1018 (by decide +kernel) (by decide +kernel), tbm 1019 (by decide +kernel) (by decide +kernel), ini_X10, ⟨by decide +kernel, by decide +kernel, by decide +kernel⟩, by decide +kernel, by decide⟩
theorem v_X10_next : VO yX10_next cX10_next 1 none 0 := ⟨tbm 1015 (by decide +kernel) (by decide +kernel), tbs (q := (yX10_next, 38)) 41 (by decide +kernel) (by decide +kernel), tbm 1016 (by decide +kernel) (by decide +kernel), ini_X10, ⟨by decide +kernel, by decide +kernel, by decide +kernel⟩, by decide +kernel, by decide⟩
theorem v_X10_spelt : SO yX10_spelt cX10_spelt 8 (some .long) 6 := ⟨tbm 1031 (by decide +kernel) (by decide +kernel), tbm 1032 (by decide +kernel) (by decide +kernel), ini_X10, ⟨by decide +kernel, by decide +kernel, by decide +kernel⟩, by decide +kernel, by decide⟩
theorem v_X10_isItemWord : VO yX10_isItemWord cX10_isItemWord 1 (some .boolean) 0 := ⟨tbm 1028 (by decide +kernel) (by decide +kernel), tbs (q := (yX10_isItemWord, 38)) 43 (by decide +kernel) (by decide +kernel), tbm 1029 (by decide +kernel) (by decide +kernel), ini_X10, ⟨by decide +kernel, by decide +kernel, by decide +kernel⟩, by decide +kernel, by decide⟩
theorem v_X10_kindWord : VO yX10_kindWord cX10_kindWord 1 (some .int) 0 := ⟨tbm 1051 (by decide +kernel) (by decide +kernel), tbs (q := (yX10_kindWord, 38)) 48 (by decide +kernel) (by decide +kernel), tbm 1052 (by decide +kernel) (by decide +kernel), ini_X10, ⟨by decide +kernel, by decide +kernel, by decide +kernel⟩, by decide +kernel, by decide⟩
theorem v_X10_isName : VO yX10_isName cX10_isName 1 (some .boolean) 0 := ⟨tbm 1047 (by decide +kernel) (by decide +kernel), tbs (q := (yX10_isName, 38)) 47 (by decide +kernel) (by decide +kernel), tbm 1048 (by decide +kernel) (by decide +kernel), ini_X10, ⟨by decide +kernel, by decide +kernel, by decide +kernel⟩, by decide +kernel, by decide⟩
theorem v_X10_badAt : VO yX10_badAt cX10_badAt 3 (some .boolean) 2 := ⟨tbm 1043 (by decide +kernel) (by decide +kernel), tbs (q := (yX10_badAt, 38)) 46 (by decide +kernel) (by decide +kernel), tbm 1044 (by decide +kernel) (by decide +kernel), ini_X10, ⟨by decide +kernel, by decide +kernel, by decide +kernel⟩, by decide +kernel, by decide⟩
theorem v_X10_bad : VO yX10_bad cX10_bad 2 (some .boolean) 1 := ⟨tbm 1039 (by decide +kernel) (by decide +kernel), tbs (q := (yX10_bad, 38)) 45 (by decide +kernel) (by decide +kernel), tbm 1040 (by decide +kernel) (by decide +kernel), ini_X10, ⟨by decide +kernel, by decide +kernel, by decide +kernel⟩, by decide +kernel, by decide⟩
theorem v_X10_init : NO1 yX10_init cX10_init 1 0 := ⟨tbm 891 (by decide +kernel) (by decide +kernel), tbm 892 (by decide +kernel) (by decide +kernel), ini_X10, ⟨by decide +kernel, by decide +kernel, by decide +kernel⟩, by decide +kernel, by decide, rfl⟩
theorem v_X10_copy : SO yX10_copy cX10_copy 5 none 4 := ⟨tbm 1099 (by decide +kernel) (by decide +kernel), tbm 1100 (by decide +kernel) (by decide +kernel), ini_X10, ⟨by decide +kernel, by decide +kernel, by decide +kernel⟩, by decide +kernel, by decide⟩
theorem v_X10_tells : SO yX10_tells cX10_tells 5 none 4 := ⟨tbm 1096 (by decide +kernel) (by decide +kernel), tbm 1097 (by decide +kernel) (by decide +kernel), ini_X10, ⟨by decide +kernel, by decide +kernel, by decide +kernel⟩, by decide +kernel, by decide⟩
theorem v_X10_forgets : SO yX10_forgets cX10_forgets 3 none 2 := ⟨tbm 1192 (by decide +kernel) (by decide +kernel), tbm 1193 (by decide +kernel) (by decide +kernel), ini_X10, ⟨by decide +kernel, by decide +kernel, by decide +kernel⟩, by decide +kernel, by decide⟩
theorem v_X10_factOf : SO yX10_factOf cX10_factOf 4 (some .int) 3 := ⟨tbm 1066 (by decide +kernel) (by decide +kernel), tbm 1067 (by decide +kernel) (by decide +kernel), ini_X10, ⟨by decide +kernel, by decide +kernel, by decide +kernel⟩, by decide +kernel, by decide⟩
theorem v_X10_named : VO yX10_named cX10_named 2 (some .int) 0 := ⟨tbm 1055 (by decide +kernel) (by decide +kernel), tbs (q := (yX10_named, 38)) 49 (by decide +kernel) (by decide +kernel), tbm 1056 (by decide +kernel) (by decide +kernel), ini_X10, ⟨by decide +kernel, by decide +kernel, by decide +kernel⟩, by decide +kernel, by decide⟩
theorem v_X10_readItem : VO yX10_readItem cX10_readItem 1 (some .boolean) 0 := ⟨tbm 1035 (by decide +kernel) (by decide +kernel), tbs (q := (yX10_readItem, 38)) 44 (by decide +kernel) (by decide +kernel), tbm 1036 (by decide +kernel) (by decide +kernel), ini_X10, ⟨by decide +kernel, by decide +kernel, by decide +kernel⟩, by decide +kernel, by decide⟩
theorem v_X10_readFact : VO yX10_readFact cX10_readFact 5 (some .boolean) 0 := ⟨tbm 1063 (by decide +kernel) (by decide +kernel), tbs (q := (yX10_readFact, 38)) 51 (by decide +kernel) (by decide +kernel), tbm 1064 (by decide +kernel) (by decide +kernel), ini_X10, ⟨by decide +kernel, by decide +kernel, by decide +kernel⟩, by decide +kernel, by decide⟩
theorem v_X10_readEnd : VO yX10_readEnd cX10_readEnd 1 (some .boolean) 0 := ⟨tbm 1059 (by decide +kernel) (by decide +kernel), tbs (q := (yX10_readEnd, 38)) 50 (by decide +kernel) (by decide +kernel), tbm 1060 (by decide +kernel) (by decide +kernel), ini_X10, ⟨by decide +kernel, by decide +kernel, by decide +kernel⟩, by decide +kernel, by decide⟩
theorem v_X10_notes : VO yX10_notes cX10_notes 3 (some .int) 0 := ⟨tbm 1010 (by decide +kernel) (by decide +kernel), tbm 1011 (by decide +kernel) (by decide +kernel), tbm 1012 (by decide +kernel) (by decide +kernel), ini_X10, ⟨by decide +kernel, by decide +kernel, by decide +kernel⟩, by decide +kernel, by decide⟩
theorem v_X10_fault : VO yX10_fault cX10_fault 1 (some .int) 0 := ⟨tbm 1102 (by decide +kernel) (by decide +kernel), tbm 1103 (by decide +kernel) (by decide +kernel), tbm 1104 (by decide +kernel) (by decide +kernel), ini_X10, ⟨by decide +kernel, by decide +kernel, by decide +kernel⟩, by decide +kernel, by decide⟩
theorem v_X10_weight : SO yX10_weight cX10_weight 2 (some .int) 2 := ⟨tbm 1145 (by decide +kernel) (by decide +kernel), tbm 1146 (by decide +kernel) (by decide +kernel), ini_X10, ⟨by decide +kernel, by decide +kernel, by decide +kernel⟩, by decide +kernel, by decide⟩
theorem v_X10_longer : VO yX10_longer cX10_longer 4 none 3 := ⟨tbm 1149 (by decide +kernel) (by decide +kernel), tbs (q := (yX10_longer, 38)) 63 (by decide +kernel) (by decide +kernel), tbm 1150 (by decide +kernel) (by decide +kernel), ini_X10, ⟨by decide +kernel, by decide +kernel, by decide +kernel⟩, by decide +kernel, by decide⟩
theorem v_X10_laysSteps : VO yX10_laysSteps cX10_laysSteps 6 none 2 := ⟨tbm 1142 (by decide +kernel) (by decide +kernel), tbs (q := (yX10_laysSteps, 38)) 62 (by decide +kernel) (by decide +kernel), tbm 1143 (by decide +kernel) (by decide +kernel), ini_X10, ⟨by decide +kernel, by decide +kernel, by decide +kernel⟩, by decide +kernel, by decide⟩
theorem v_X10_isEven : VO yX10_isEven cX10_isEven 4 (some .boolean) 2 := ⟨tbm 1138 (by decide +kernel) (by decide +kernel), tbs (q := (yX10_isEven, 38)) 61 (by decide +kernel) (by decide +kernel), tbm 1139 (by decide +kernel) (by decide +kernel), ini_X10, ⟨by decide +kernel, by decide +kernel, by decide +kernel⟩, by decide +kernel, by decide⟩
theorem v_X10_isGood : VO yX10_isGood cX10_isGood 2 (some .boolean) 1 := ⟨tbm 1233 (by decide +kernel) (by decide +kernel), tbs (q := (yX10_isGood, 38)) 73 (by decide +kernel) (by decide +kernel), tbm 1234 (by decide +kernel) (by decide +kernel), ini_X10, ⟨by decide +kernel, by decide +kernel, by decide +kernel⟩, by decide +kernel, by decide⟩
theorem v_X10_leastOf : VO yX10_leastOf cX10_leastOf 3 (some .int) 1 := ⟨tbm 1134 (by decide +kernel) (by decide +kernel), tbs (q := (yX10_leastOf, 38)) 60 (by decide +kernel) (by decide +kernel), tbm 1135 (by decide +kernel) (by decide +kernel), ini_X10, ⟨by decide +kernel, by decide +kernel, by decide +kernel⟩, by decide +kernel, by decide⟩
theorem v_X10_sign : SO yX10_sign cX10_sign 1 (some .int) 1 := ⟨tbm 1085 (by decide +kernel) (by decide +kernel), tbm 1086 (by decide +kernel) (by decide +kernel), ini_X10, ⟨by decide +kernel, by decide +kernel, by decide +kernel⟩, by decide +kernel, by decide⟩
theorem v_X10_leads : SO yX10_leads cX10_leads 3 (some .int) 3 := ⟨tbm 1082 (by decide +kernel) (by decide +kernel), tbm 1083 (by decide +kernel) (by decide +kernel), ini_X10, ⟨by decide +kernel, by decide +kernel, by decide +kernel⟩, by decide +kernel, by decide⟩
theorem v_X10_laysBest : VO yX10_laysBest cX10_laysBest 8 none 2 := ⟨tbm 1078 (by decide +kernel) (by decide +kernel), tbs (q := (yX10_laysBest, 38)) 54 (by decide +kernel) (by decide +kernel), tbm 1079 (by decide +kernel) (by decide +kernel), ini_X10, ⟨by decide +kernel, by decide +kernel, by decide +kernel⟩, by decide +kernel, by decide⟩
theorem v_X10_laysRing : VO yX10_laysRing cX10_laysRing 10 (some .boolean) 5 := ⟨tbm 1074 (by decide +kernel) (by decide +kernel), tbs (q := (yX10_laysRing, 38)) 53 (by decide +kernel) (by decide +kernel), tbm 1075 (by decide +kernel) (by decide +kernel), ini_X10, ⟨by decide +kernel, by decide +kernel, by decide +kernel⟩, by decide +kernel, by decide⟩
theorem v_X10_isOn : VO yX10_isOn cX10_isOn 7 (some .boolean) 5 := ⟨tbm 1089 (by decide +kernel) (by decide +kernel), tbs (q := (yX10_isOn, 38)) 55 (by decide +kernel) (by decide +kernel), tbm 1090 (by decide +kernel) (by decide +kernel), ini_X10, ⟨by decide +kernel, by decide +kernel, by decide +kernel⟩, by decide +kernel, by decide⟩
theorem v_X10_isRefuted : VO yX10_isRefuted cX10_isRefuted 6 (some .boolean) 4 := ⟨tbm 1070 (by decide +kernel) (by decide +kernel), tbs (q := (yX10_isRefuted, 38)) 52 (by decide +kernel) (by decide +kernel), tbm 1071 (by decide +kernel) (by decide +kernel), ini_X10, ⟨by decide +kernel, by decide +kernel, by decide +kernel⟩, by decide +kernel, by decide⟩
theorem v_X10_keepsRing : VO yX10_keepsRing cX10_keepsRing 2 none 0 := ⟨tbm 1093 (by decide +kernel) (by decide +kernel), tbs (q := (yX10_keepsRing, 38)) 56 (by decide +kernel) (by decide +kernel), tbm 1094 (by decide +kernel) (by decide +kernel), ini_X10, ⟨by decide +kernel, by decide +kernel, by decide +kernel⟩, by decide +kernel, by decide⟩
theorem v_X10_refuted : VO yX10_refuted cX10_refuted 2 (some .int) 1 := ⟨tbm 1106 (by decide +kernel) (by decide +kernel), tbm 1107 (by decide +kernel) (by decide +kernel), tbm 1108 (by decide +kernel) (by decide +kernel), ini_X10, ⟨by decide +kernel, by decide +kernel, by decide +kernel⟩, by decide +kernel, by decide⟩
theorem v_X10_ring : VO yX10_ring cX10_ring 2 (some .int) 1 := ⟨tbm 1110 (by decide +kernel) (by decide +kernel), tbm 1111 (by decide +kernel) (by decide +kernel), tbm 1112 (by decide +kernel) (by decide +kernel), ini_X10, ⟨by decide +kernel, by decide +kernel, by decide +kernel⟩, by decide +kernel, by decide⟩
theorem v_X10_items : VO yX10_items cX10_items 1 (some .int) 0 := ⟨tbm 1122 (by decide +kernel) (by decide +kernel), tbs (q := (yX10_items, 38)) 57 (by decide +kernel) (by decide +kernel), tbm 1123 (by decide +kernel) (by decide +kernel), ini_X10, ⟨by decide +kernel, by decide +kernel, by decide +kernel⟩, by decide +kernel, by decide⟩
theorem v_X10_facts : VO yX10_facts cX10_facts 1 (some .int) 0 := ⟨tbm 1126 (by decide +kernel) (by decide +kernel), tbs (q := (yX10_facts, 38)) 58 (by decide +kernel) (by decide +kernel), tbm 1127 (by decide +kernel) (by decide +kernel), ini_X10, ⟨by decide +kernel, by decide +kernel, by decide +kernel⟩, by decide +kernel, by decide⟩
theorem v_X10_isItem : VO yX10_isItem cX10_isItem 2 (some .boolean) 1 := ⟨tbm 1169 (by decide +kernel) (by decide +kernel), tbs (q := (yX10_isItem, 38)) 66 (by decide +kernel) (by decide +kernel), tbm 1170 (by decide +kernel) (by decide +kernel), ini_X10, ⟨by decide +kernel, by decide +kernel, by decide +kernel⟩, by decide +kernel, by decide⟩
theorem v_X10_areTwo : VO yX10_areTwo cX10_areTwo 3 (some .boolean) 2 := ⟨tbm 1165 (by decide +kernel) (by decide +kernel), tbs (q := (yX10_areTwo, 38)) 65 (by decide +kernel) (by decide +kernel), tbm 1166 (by decide +kernel) (by decide +kernel), ini_X10, ⟨by decide +kernel, by decide +kernel, by decide +kernel⟩, by decide +kernel, by decide⟩
theorem v_X10_mayTell : VO yX10_mayTell cX10_mayTell 4 (some .boolean) 3 := ⟨tbm 1177 (by decide +kernel) (by decide +kernel), tbs (q := (yX10_mayTell, 38)) 67 (by decide +kernel) (by decide +kernel), tbm 1178 (by decide +kernel) (by decide +kernel), ini_X10, ⟨by decide +kernel, by decide +kernel, by decide +kernel⟩, by decide +kernel, by decide⟩
theorem v_X10_befores : VO yX10_befores cX10_befores 3 (some .int) 0 := ⟨tbm 1130 (by decide +kernel) (by decide +kernel), tbs (q := (yX10_befores, 38)) 59 (by decide +kernel) (by decide +kernel), tbm 1131 (by decide +kernel) (by decide +kernel), ini_X10, ⟨by decide +kernel, by decide +kernel, by decide +kernel⟩, by decide +kernel, by decide⟩
theorem v_X10_now : VO yX10_now cX10_now 2 (some .int) 1 := ⟨tbm 1117 (by decide +kernel) (by decide +kernel), tbm 1118 (by decide +kernel) (by decide +kernel), tbm 1119 (by decide +kernel) (by decide +kernel), ini_X10, ⟨by decide +kernel, by decide +kernel, by decide +kernel⟩, by decide +kernel, by decide⟩
theorem v_X10_fact : VO yX10_fact cX10_fact 3 (some .int) 2 := ⟨tbm 1152 (by decide +kernel) (by decide +kernel), tbm 1153 (by decide +kernel) (by decide +kernel), tbm 1154 (by decide +kernel) (by decide +kernel), ini_X10, ⟨by decide +kernel, by decide +kernel, by decide +kernel⟩, by decide +kernel, by decide⟩
theorem v_X10_about : VO yX10_about cX10_about 3 (some .int) 2 := ⟨tbm 1160 (by decide +kernel) (by decide +kernel), tbm 1161 (by decide +kernel) (by decide +kernel), tbm 1162 (by decide +kernel) (by decide +kernel), ini_X10, ⟨by decide +kernel, by decide +kernel, by decide +kernel⟩, by decide +kernel, by decide⟩
theorem v_X10_snap : VO yX10_snap cX10_snap 2 none 0 := ⟨tbm 1181 (by decide +kernel) (by decide +kernel), tbs (q := (yX10_snap, 38)) 68 (by decide +kernel) (by decide +kernel), tbm 1182 (by decide +kernel) (by decide +kernel), ini_X10, ⟨by decide +kernel, by decide +kernel, by decide +kernel⟩, by decide +kernel, by decide⟩
theorem v_X10_stay : VO yX10_stay cX10_stay 1 none 0 := ⟨tbm 1330 (by decide +kernel) (by decide +kernel), tbs (q := (yX10_stay, 38)) 83 (by decide +kernel) (by decide +kernel), tbm 1331 (by decide +kernel) (by decide +kernel), ini_X10, ⟨by decide +kernel, by decide +kernel, by decide +kernel⟩, by decide +kernel, by decide⟩
theorem v_X10_tell : VO yX10_tell cX10_tell 4 (some .int) 3 := ⟨tbm 1172 (by decide +kernel) (by decide +kernel), tbm 1173 (by decide +kernel) (by decide +kernel), tbm 1174 (by decide +kernel) (by decide +kernel), ini_X10, ⟨by decide +kernel, by decide +kernel, by decide +kernel⟩, by decide +kernel, by decide⟩
theorem v_X10_test : VO yX10_test cX10_test 4 (some .int) 3 := ⟨tbm 1184 (by decide +kernel) (by decide +kernel), tbm 1185 (by decide +kernel) (by decide +kernel), tbm 1186 (by decide +kernel) (by decide +kernel), ini_X10, ⟨by decide +kernel, by decide +kernel, by decide +kernel⟩, by decide +kernel, by decide⟩
theorem v_X10_forget : VO yX10_forget cX10_forget 2 (some .int) 1 := ⟨tbm 1188 (by decide +kernel) (by decide +kernel), tbm 1189 (by decide +kernel) (by decide +kernel), tbm 1190 (by decide +kernel) (by decide +kernel), ini_X10, ⟨by decide +kernel, by decide +kernel, by decide +kernel⟩, by decide +kernel, by decide⟩
theorem v_X10_isLength : VO yX10_isLength cX10_isLength 2 (some .boolean) 1 := ⟨tbm 1200 (by decide +kernel) (by decide +kernel), tbs (q := (yX10_isLength, 38)) 69 (by decide +kernel) (by decide +kernel), tbm 1201 (by decide +kernel) (by decide +kernel), ini_X10, ⟨by decide +kernel, by decide +kernel, by decide +kernel⟩, by decide +kernel, by decide⟩
theorem v_X10_laysBegins : VO yX10_laysBegins cX10_laysBegins 4 none 1 := ⟨tbm 1204 (by decide +kernel) (by decide +kernel), tbs (q := (yX10_laysBegins, 38)) 70 (by decide +kernel) (by decide +kernel), tbm 1205 (by decide +kernel) (by decide +kernel), ini_X10, ⟨by decide +kernel, by decide +kernel, by decide +kernel⟩, by decide +kernel, by decide⟩
theorem v_X10_begin : VO yX10_begin cX10_begin 3 (some .int) 2 := ⟨tbm 1195 (by decide +kernel) (by decide +kernel), tbm 1196 (by decide +kernel) (by decide +kernel), tbm 1197 (by decide +kernel) (by decide +kernel), ini_X10, ⟨by decide +kernel, by decide +kernel, by decide +kernel⟩, by decide +kernel, by decide⟩
theorem v_X10_gap : VO yX10_gap cX10_gap 6 (some .int) 4 := ⟨tbm 1207 (by decide +kernel) (by decide +kernel), tbm 1208 (by decide +kernel) (by decide +kernel), tbm 1209 (by decide +kernel) (by decide +kernel), ini_X10, ⟨by decide +kernel, by decide +kernel, by decide +kernel⟩, by decide +kernel, by decide⟩
theorem v_X10_tight : VO yX10_tight cX10_tight 6 (some .int) 1 := ⟨tbm 1212 (by decide +kernel) (by decide +kernel), tbm 1213 (by decide +kernel) (by decide +kernel), tbm 1214 (by decide +kernel) (by decide +kernel), ini_X10, ⟨by decide +kernel, by decide +kernel, by decide +kernel⟩, by decide +kernel, by decide⟩
theorem v_X10_late : VO yX10_late cX10_late 6 (some .int) 3 := ⟨tbm 1216 (by decide +kernel) (by decide +kernel), tbm 1217 (by decide +kernel) (by decide +kernel), tbm 1218 (by decide +kernel) (by decide +kernel), ini_X10, ⟨by decide +kernel, by decide +kernel, by decide +kernel⟩, by decide +kernel, by decide⟩
theorem v_X10_isGoodWith : VO yX10_isGoodWith cX10_isGoodWith 6 (some .boolean) 4 := ⟨tbm 1229 (by decide +kernel) (by decide +kernel), tbs (q := (yX10_isGoodWith, 38)) 72 (by decide +kernel) (by decide +kernel), tbm 1230 (by decide +kernel) (by decide +kernel), ini_X10, ⟨by decide +kernel, by decide +kernel, by decide +kernel⟩, by decide +kernel, by decide⟩
theorem v_X10_mays : VO yX10_mays cX10_mays 4 (some .int) 2 := ⟨tbm 1225 (by decide +kernel) (by decide +kernel), tbs (q := (yX10_mays, 38)) 71 (by decide +kernel) (by decide +kernel), tbm 1226 (by decide +kernel) (by decide +kernel), ini_X10, ⟨by decide +kernel, by decide +kernel, by decide +kernel⟩, by decide +kernel, by decide⟩
theorem v_X10_may : VO yX10_may cX10_may 3 (some .int) 2 := ⟨tbm 1220 (by decide +kernel) (by decide +kernel), tbm 1221 (by decide +kernel) (by decide +kernel), tbm 1222 (by decide +kernel) (by decide +kernel), ini_X10, ⟨by decide +kernel, by decide +kernel, by decide +kernel⟩, by decide +kernel, by decide⟩
theorem v_X10_idle : VO yX10_idle cX10_idle 3 (some .int) 0 := ⟨tbm 1236 (by decide +kernel) (by decide +kernel), tbm 1237 (by decide +kernel) (by decide +kernel), tbm 1238 (by decide +kernel) (by decide +kernel), ini_X10, ⟨by decide +kernel, by decide +kernel, by decide +kernel⟩, by decide +kernel, by decide⟩
theorem v_X10_goesOn : VO yX10_goesOn cX10_goesOn 7 none 2 := ⟨tbm 1248 (by decide +kernel) (by decide +kernel), tbs (q := (yX10_goesOn, 38)) 74 (by decide +kernel) (by decide +kernel), tbm 1249 (by decide +kernel) (by decide +kernel), ini_X10, ⟨by decide +kernel, by decide +kernel, by decide +kernel⟩, by decide +kernel, by decide⟩
theorem v_X10_ways : VO yX10_ways cX10_ways 1 (some .int) 0 := ⟨tbm 1243 (by decide +kernel) (by decide +kernel), tbm 1244 (by decide +kernel) (by decide +kernel), tbm 1245 (by decide +kernel) (by decide +kernel), ini_X10, ⟨by decide +kernel, by decide +kernel, by decide +kernel⟩, by decide +kernel, by decide⟩
theorem v_X10_isGoodWithout : VO yX10_isGoodWithout cX10_isGoodWithout 6 (some .boolean) 4 := ⟨tbm 1256 (by decide +kernel) (by decide +kernel), tbs (q := (yX10_isGoodWithout, 38)) 75 (by decide +kernel) (by decide +kernel), tbm 1257 (by decide +kernel) (by decide +kernel), ini_X10, ⟨by decide +kernel, by decide +kernel, by decide +kernel⟩, by decide +kernel, by decide⟩
theorem v_X10_yields : VO yX10_yields cX10_yields 7 (some .int) 3 := ⟨tbm 1251 (by decide +kernel) (by decide +kernel), tbm 1252 (by decide +kernel) (by decide +kernel), tbm 1253 (by decide +kernel) (by decide +kernel), ini_X10, ⟨by decide +kernel, by decide +kernel, by decide +kernel⟩, by decide +kernel, by decide⟩
theorem v_X10_laysOrder : VO yX10_laysOrder cX10_laysOrder 1 none 0 := ⟨tbm 1267 (by decide +kernel) (by decide +kernel), tbs (q := (yX10_laysOrder, 38)) 76 (by decide +kernel) (by decide +kernel), tbm 1268 (by decide +kernel) (by decide +kernel), ini_X10, ⟨by decide +kernel, by decide +kernel, by decide +kernel⟩, by decide +kernel, by decide⟩
theorem v_X10_isAhead : VO yX10_isAhead cX10_isAhead 3 (some .boolean) 2 := ⟨tbm 1271 (by decide +kernel) (by decide +kernel), tbs (q := (yX10_isAhead, 38)) 77 (by decide +kernel) (by decide +kernel), tbm 1272 (by decide +kernel) (by decide +kernel), ini_X10, ⟨by decide +kernel, by decide +kernel, by decide +kernel⟩, by decide +kernel, by decide⟩
theorem v_X10_ahead : VO yX10_ahead cX10_ahead 3 (some .int) 2 := ⟨tbm 1262 (by decide +kernel) (by decide +kernel), tbm 1263 (by decide +kernel) (by decide +kernel), tbm 1264 (by decide +kernel) (by decide +kernel), ini_X10, ⟨by decide +kernel, by decide +kernel, by decide +kernel⟩, by decide +kernel, by decide⟩
theorem v_X10_isAlike : VO yX10_isAlike cX10_isAlike 5 (some .boolean) 2 := ⟨tbm 1283 (by decide +kernel) (by decide +kernel), tbs (q := (yX10_isAlike, 38)) 79 (by decide +kernel) (by decide +kernel), tbm 1284 (by decide +kernel) (by decide +kernel), ini_X10, ⟨by decide +kernel, by decide +kernel, by decide +kernel⟩, by decide +kernel, by decide⟩
theorem v_X10_most : VO yX10_most cX10_most 5 (some .int) 2 := ⟨tbm 1279 (by decide +kernel) (by decide +kernel), tbs (q := (yX10_most, 38)) 78 (by decide +kernel) (by decide +kernel), tbm 1280 (by decide +kernel) (by decide +kernel), ini_X10, ⟨by decide +kernel, by decide +kernel, by decide +kernel⟩, by decide +kernel, by decide⟩
theorem v_X10_chain : VO yX10_chain cX10_chain 2 (some .int) 1 := ⟨tbm 1274 (by decide +kernel) (by decide +kernel), tbm 1275 (by decide +kernel) (by decide +kernel), tbm 1276 (by decide +kernel) (by decide +kernel), ini_X10, ⟨by decide +kernel, by decide +kernel, by decide +kernel⟩, by decide +kernel, by decide⟩
theorem v_X10_crowd : VO yX10_crowd cX10_crowd 2 (some .int) 1 := ⟨tbm 1286 (by decide +kernel) (by decide +kernel), tbm 1287 (by decide +kernel) (by decide +kernel), tbm 1288 (by decide +kernel) (by decide +kernel), ini_X10, ⟨by decide +kernel, by decide +kernel, by decide +kernel⟩, by decide +kernel, by decide⟩
theorem v_X10_laysRooms : VO yX10_laysRooms cX10_laysRooms 6 (some .int) 0 := ⟨tbm 1295 (by decide +kernel) (by decide +kernel), tbs (q := (yX10_laysRooms, 38)) 80 (by decide +kernel) (by decide +kernel), tbm 1296 (by decide +kernel) (by decide +kernel), ini_X10, ⟨by decide +kernel, by decide +kernel, by decide +kernel⟩, by decide +kernel, by decide⟩
theorem v_X10_isFree : VO yX10_isFree cX10_isFree 5 (some .boolean) 3 := ⟨tbm 1299 (by decide +kernel) (by decide +kernel), tbs (q := (yX10_isFree, 38)) 81 (by decide +kernel) (by decide +kernel), tbm 1300 (by decide +kernel) (by decide +kernel), ini_X10, ⟨by decide +kernel, by decide +kernel, by decide +kernel⟩, by decide +kernel, by decide⟩
theorem v_X10_room : VO yX10_room cX10_room 3 (some .int) 1 := ⟨tbm 1290 (by decide +kernel) (by decide +kernel), tbm 1291 (by decide +kernel) (by decide +kernel), tbm 1292 (by decide +kernel) (by decide +kernel), ini_X10, ⟨by decide +kernel, by decide +kernel, by decide +kernel⟩, by decide +kernel, by decide⟩
theorem v_X10_laysShape : VO yX10_laysShape cX10_laysShape 6 none 0 := ⟨tbm 1307 (by decide +kernel) (by decide +kernel), tbs (q := (yX10_laysShape, 38)) 82 (by decide +kernel) (by decide +kernel), tbm 1308 (by decide +kernel) (by decide +kernel), ini_X10, ⟨by decide +kernel, by decide +kernel, by decide +kernel⟩, by decide +kernel, by decide⟩
theorem v_X10_shape : VO yX10_shape cX10_shape 2 (some .int) 1 := ⟨tbm 1302 (by decide +kernel) (by decide +kernel), tbm 1303 (by decide +kernel) (by decide +kernel), tbm 1304 (by decide +kernel) (by decide +kernel), ini_X10, ⟨by decide +kernel, by decide +kernel, by decide +kernel⟩, by decide +kernel, by decide⟩
theorem v_X10_rowsFrom : SO yX10_rowsFrom cX10_rowsFrom 5 (some .int) 3 := ⟨tbm 1314 (by decide +kernel) (by decide +kernel), tbm 1315 (by decide +kernel) (by decide +kernel), ini_X10, ⟨by decide +kernel, by decide +kernel, by decide +kernel⟩, by decide +kernel, by decide⟩
theorem v_X10_rank : VO yX10_rank cX10_rank 5 (some .int) 0 := ⟨tbm 1310 (by decide +kernel) (by decide +kernel), tbm 1311 (by decide +kernel) (by decide +kernel), tbm 1312 (by decide +kernel) (by decide +kernel), ini_X10, ⟨by decide +kernel, by decide +kernel, by decide +kernel⟩, by decide +kernel, by decide⟩
theorem v_X10_shapes : VO yX10_shapes cX10_shapes 2 (some .int) 1 := ⟨tbm 1317 (by decide +kernel) (by decide +kernel), tbm 1318 (by decide +kernel) (by decide +kernel), tbm 1319 (by decide +kernel) (by decide +kernel), ini_X10, ⟨by decide +kernel, by decide +kernel, by decide +kernel⟩, by decide +kernel, by decide⟩
theorem v_X10_make : VO yX10_make cX10_make 7 (some .int) 2 := ⟨tbm 1321 (by decide +kernel) (by decide +kernel), tbm 1322 (by decide +kernel) (by decide +kernel), tbm 1323 (by decide +kernel) (by decide +kernel), ini_X10, ⟨by decide +kernel, by decide +kernel, by decide +kernel⟩, by decide +kernel, by decide⟩
theorem v_X10_finish : VO yX10_finish cX10_finish 4 (some .int) 0 := ⟨tbm 1325 (by decide +kernel) (by decide +kernel), tbm 1326 (by decide +kernel) (by decide +kernel), tbm 1327 (by decide +kernel) (by decide +kernel), ini_X10, ⟨by decide +kernel, by decide +kernel, by decide +kernel⟩, by decide +kernel, by decide⟩
theorem v_X10_grow : VO yX10_grow cX10_grow 1 (some .int) 0 := ⟨tbm 1333 (by decide +kernel) (by decide +kernel), tbm 1334 (by decide +kernel) (by decide +kernel), tbm 1335 (by decide +kernel) (by decide +kernel), ini_X10, ⟨by decide +kernel, by decide +kernel, by decide +kernel⟩, by decide +kernel, by decide⟩
theorem v_X10_drop : VO yX10_drop cX10_drop 3 (some .int) 1 := ⟨tbm 1337 (by decide +kernel) (by decide +kernel), tbm 1338 (by decide +kernel) (by decide +kernel), tbm 1339 (by decide +kernel) (by decide +kernel), ini_X10, ⟨by decide +kernel, by decide +kernel, by decide +kernel⟩, by decide +kernel, by decide⟩
theorem v_X10_turn : VO yX10_turn cX10_turn 4 (some .int) 0 := ⟨tbm 1341 (by decide +kernel) (by decide +kernel), tbm 1342 (by decide +kernel) (by decide +kernel), tbm 1343 (by decide +kernel) (by decide +kernel), ini_X10, ⟨by decide +kernel, by decide +kernel, by decide +kernel⟩, by decide +kernel, by decide⟩
theorem v_X10_draw : VO yX10_draw cX10_draw 2 (some .int) 1 := ⟨tbm 1354 (by decide +kernel) (by decide +kernel), tbs (q := (yX10_draw, 38)) 85 (by decide +kernel) (by decide +kernel), tbm 1355 (by decide +kernel) (by decide +kernel), ini_X10, ⟨by decide +kernel, by decide +kernel, by decide +kernel⟩, by decide +kernel, by decide⟩
theorem v_X10_does : VO yX10_does cX10_does 4 (some .boolean) 0 := ⟨tbm 1350 (by decide +kernel) (by decide +kernel), tbs (q := (yX10_does, 38)) 84 (by decide +kernel) (by decide +kernel), tbm 1351 (by decide +kernel) (by decide +kernel), ini_X10, ⟨by decide +kernel, by decide +kernel, by decide +kernel⟩, by decide +kernel, by decide⟩
theorem v_X10_drawn : VO yX10_drawn cX10_drawn 5 (some .int) 2 := ⟨tbm 1345 (by decide +kernel) (by decide +kernel), tbm 1346 (by decide +kernel) (by decide +kernel), tbm 1347 (by decide +kernel) (by decide +kernel), ini_X10, ⟨by decide +kernel, by decide +kernel, by decide +kernel⟩, by decide +kernel, by decide⟩
theorem v_X10_undo : VO yX10_undo cX10_undo 1 (some .int) 0 := ⟨tbm 1358 (by decide +kernel) (by decide +kernel), tbm 1359 (by decide +kernel) (by decide +kernel), tbm 1360 (by decide +kernel) (by decide +kernel), ini_X10, ⟨by decide +kernel, by decide +kernel, by decide +kernel⟩, by decide +kernel, by decide⟩
theorem v_X10_image : VO yX10_image cX10_image 2 (some .boolean) 1 := ⟨tbm 1362 (by decide +kernel) (by decide +kernel), tbm 1363 (by decide +kernel) (by decide +kernel), tbm 1364 (by decide +kernel) (by decide +kernel), ini_X10, ⟨by decide +kernel, by decide +kernel, by decide +kernel⟩, by decide +kernel, by decide⟩
theorem v_X10_restore : VO yX10_restore cX10_restore 2 (some .boolean) 1 := ⟨tbm 1366 (by decide +kernel) (by decide +kernel), tbm 1367 (by decide +kernel) (by decide +kernel), tbm 1368 (by decide +kernel) (by decide +kernel), ini_X10, ⟨by decide +kernel, by decide +kernel, by decide +kernel⟩, by decide +kernel, by decide⟩
theorem v_J6_bitCount_0f7a4 : SO yJ6_bitCount_0f7a4 cJ6_bitCount_0f7a4 1 (some .int) 1 := ⟨tbm 587 (by decide +kernel) (by decide +kernel), tbm 588 (by decide +kernel) (by decide +kernel), ini_J6, ⟨by decide +kernel, by decide +kernel, by decide +kernel⟩, by decide +kernel, by decide⟩
theorem v_J7_fill_53178 : SO yJ7_fill_53178 cJ7_fill_53178 4 none 2 := ⟨tbm 393 (by decide +kernel) (by decide +kernel), tbm 394 (by decide +kernel) (by decide +kernel), ini_J7, ⟨by decide +kernel, by decide +kernel, by decide +kernel⟩, by decide +kernel, by decide⟩
def nbl : List (String × Nat × MethodName × String) := [(RX9, 11, yX0_init, "SpanFacts"), (RX2, 17, yX0_init, "SpanFacts"), (RX9, 36, yX5_init, "SpanFacts"), (RX9, 46, yX3_init, "SpanFacts"), (RX9, 53, yX1_init, "SpanFacts"), (RX1, 26, yX3_init, "SpanFacts"), (RX8, 24, yX3_init, "SpanFacts"), (RX9, 67, yX6_init, "SpanFacts"), (RX9, 78, yX7_init, "SpanFacts"), (RX4, 13, yX0_init, "SpanFacts")]
def NW (U : State) : Prop := (∀ q ∈ nbl, va_Nw (.methodLinkNest q.1 q.2.1 q.2.2.1 q.2.2.2) U) ∧ va_AO RX0 U ∧ va_AO RX3 U
theorem NW.warm {s U : State} (hW : s.WarmedH U.vm) (h : NW s) : NW U := ⟨fun q hq => va_Nw.warmM hW (h.1 q hq), va_AO.moved hW.alike h.2.1, va_AO.moved hW.alike h.2.2⟩
theorem nl_X9_11 {U : State} (h : NW U) : va_Nw (.methodLinkNest RX9 11 yX0_init "SpanFacts") U := h.1 (RX9, 11, yX0_init, "SpanFacts") (List.mem_of_getElem? (i := 0) rfl)
theorem nl_X2_17 {U : State} (h : NW U) : va_Nw (.methodLinkNest RX2 17 yX0_init "SpanFacts") U := h.1 (RX2, 17, yX0_init, "SpanFacts") (List.mem_of_getElem? (i := 1) rfl)
theorem nl_X9_36 {U : State} (h : NW U) : va_Nw (.methodLinkNest RX9 36 yX5_init "SpanFacts") U := h.1 (RX9, 36, yX5_init, "SpanFacts") (List.mem_of_getElem? (i := 2) rfl)
theorem nl_X9_46 {U : State} (h : NW U) : va_Nw (.methodLinkNest RX9 46 yX3_init "SpanFacts") U := h.1 (RX9, 46, yX3_init, "SpanFacts") (List.mem_of_getElem? (i := 3) rfl)
theorem nl_X9_53 {U : State} (h : NW U) : va_Nw (.methodLinkNest RX9 53 yX1_init "SpanFacts") U := h.1 (RX9, 53, yX1_init, "SpanFacts") (List.mem_of_getElem? (i := 4) rfl)
theorem nl_X1_26 {U : State} (h : NW U) : va_Nw (.methodLinkNest RX1 26 yX3_init "SpanFacts") U := h.1 (RX1, 26, yX3_init, "SpanFacts") (List.mem_of_getElem? (i := 5) rfl)
theorem nl_X8_24 {U : State} (h : NW U) : va_Nw (.methodLinkNest RX8 24 yX3_init "SpanFacts") U := h.1 (RX8, 24, yX3_init, "SpanFacts") (List.mem_of_getElem? (i := 6) rfl)
theorem nl_X9_67 {U : State} (h : NW U) : va_Nw (.methodLinkNest RX9 67 yX6_init "SpanFacts") U := h.1 (RX9, 67, yX6_init, "SpanFacts") (List.mem_of_getElem? (i := 7) rfl)
theorem nl_X9_78 {U : State} (h : NW U) : va_Nw (.methodLinkNest RX9 78 yX7_init "SpanFacts") U := h.1 (RX9, 78, yX7_init, "SpanFacts") (List.mem_of_getElem? (i := 8) rfl)
theorem nl_X4_13 {U : State} (h : NW U) : va_Nw (.methodLinkNest RX4 13 yX0_init "SpanFacts") U := h.1 (RX4, 13, yX0_init, "SpanFacts") (List.mem_of_getElem? (i := 9) rfl)
theorem NW.of {args : Array Value} {s : State} (h : ∀ w ∈ lw_tbl, w.before args s = true) : NW s := by
  refine ⟨fun q hq => ?_, va_AO.of (h _ (List.mem_append_right _ (List.mem_of_getElem? (l := tables_1) (i := 76) (by decide +kernel)))), va_AO.of (h _ (List.mem_append_right _ (List.mem_of_getElem? (l := tables_1) (i := 174) (by decide +kernel))))⟩
  simp only [nbl, List.mem_cons, List.not_mem_nil, or_false] at hq
  rcases hq with rfl | rfl | rfl | rfl | rfl | rfl | rfl | rfl | rfl | rfl
  · exact va_Nw.of rfl (h _ (List.mem_append_right _ (List.mem_of_getElem? (l := tables_1) (i := 30) (by decide +kernel))))
  · exact va_Nw.of rfl (h _ (List.mem_append_right _ (List.mem_of_getElem? (l := tables_1) (i := 77) (by decide +kernel))))
  · exact va_Nw.of rfl (h _ (List.mem_append_right _ (List.mem_of_getElem? (l := tables_1) (i := 88) (by decide +kernel))))
  · exact va_Nw.of rfl (h _ (List.mem_append_right _ (List.mem_of_getElem? (l := tables_1) (i := 119) (by decide +kernel))))
  · exact va_Nw.of rfl (h _ (List.mem_append_right _ (List.mem_of_getElem? (l := tables_1) (i := 132) (by decide +kernel))))
  · exact va_Nw.of rfl (h _ (List.mem_append_right _ (List.mem_of_getElem? (l := tables_1) (i := 137) (by decide +kernel))))
  · exact va_Nw.of rfl (h _ (List.mem_append_right _ (List.mem_of_getElem? (l := tables_1) (i := 175) (by decide +kernel))))
  · exact va_Nw.of rfl (h _ (List.mem_append_right _ (List.mem_of_getElem? (l := tables_1) (i := 191) (by decide +kernel))))
  · exact va_Nw.of rfl (h _ (List.mem_append_right _ (List.mem_of_getElem? (l := tables_1) (i := 201) (by decide +kernel))))
  · exact va_Nw.of rfl (h _ (List.mem_append_right _ (List.mem_of_getElem? (l := tables_1) (i := 222) (by decide +kernel))))
