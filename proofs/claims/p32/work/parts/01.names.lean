def RX0 : String := "LuggageTracing$Assignment"
def TX0 : u_T := fun k => match k with
  | 0 => ("LuggageTracing$Assignment", "claimPrice", "[I", true)
  | 1 => ("LuggageTracing$Assignment", "bagPrice", "[I", true)
  | 2 => ("LuggageTracing$Assignment", "owner", "[I", true)
  | 3 => ("LuggageTracing$Assignment", "before", "[I", true)
  | 4 => ("LuggageTracing$Assignment", "slack", "[I", true)
  | _ => ("LuggageTracing$Assignment", "reached", "I", false)
def tyX0 : Nat → FieldType := fun k => match k with
  | 0 => .array .int
  | 1 => .array .int
  | 2 => .array .int
  | 3 => .array .int
  | 4 => .array .int
  | _ => .int
abbrev wsX00 : List Cond := u_ws RX0 TX0 6
theorem nmX0 : ∀ a, a < 6 → ∀ b, b < 6 → a ≠ b → (TX0 a).2.1 ≠ (TX0 b).2.1 := by decide +kernel
theorem tyX0_ok : ∀ k, k < 6 → parseFieldDescriptor (TX0 k).2.2.1 = some (tyX0 k) := by decide +kernel
abbrev cX0_init : ByteArray := prog_2_method_1_code
def yX0_init : MethodName := ⟨RX0, "<init>", "()V"⟩
abbrev cX0_bestSum : ByteArray := prog_2_method_2_code
def yX0_bestSum : MethodName := ⟨RX0, "bestSum", "(LLuggageTracing$Pairs;)I"⟩
abbrev cX0_gain : ByteArray := prog_2_method_3_code
def yX0_gain : MethodName := ⟨RX0, "gain", "(LLuggageTracing$Pairs;II)I"⟩
abbrev cX0_place : ByteArray := prog_2_method_4_code
def yX0_place : MethodName := ⟨RX0, "place", "(LLuggageTracing$Pairs;I)V"⟩
abbrev cX0_relax : ByteArray := prog_2_method_5_code
def yX0_relax : MethodName := ⟨RX0, "relax", "(LLuggageTracing$Pairs;I)V"⟩
abbrev cX0_nearest : ByteArray := prog_2_method_6_code
def yX0_nearest : MethodName := ⟨RX0, "nearest", "()I"⟩
abbrev cX0_shiftPrices : ByteArray := prog_2_method_7_code
def yX0_shiftPrices : MethodName := ⟨RX0, "shiftPrices", "(I)V"⟩
abbrev cX0_handOn : ByteArray := prog_2_method_8_code
def yX0_handOn : MethodName := ⟨RX0, "handOn", "(I)V"⟩
abbrev cX0_isReached : ByteArray := prog_2_method_9_code
def yX0_isReached : MethodName := ⟨RX0, "isReached", "(I)Z"⟩
def RX1 : String := "LuggageTracing$BagText"
def TX1 : u_T := fun k => match k with
  | 0 => ("LuggageTracing$BagText", "codes", "[I", true)
  | 1 => ("LuggageTracing$BagText", "length", "I", false)
  | 2 => ("LuggageTracing$BagText", "errorAt", "I", false)
  | _ => ("LuggageTracing$BagText", "lastBag", "I", false)
def tyX1 : Nat → FieldType := fun k => match k with
  | 0 => .array .int
  | 1 => .int
  | 2 => .int
  | _ => .int
abbrev wsX10 : List Cond := u_ws RX1 TX1 4
theorem nmX1 : ∀ a, a < 4 → ∀ b, b < 4 → a ≠ b → (TX1 a).2.1 ≠ (TX1 b).2.1 := by decide +kernel
theorem tyX1_ok : ∀ k, k < 4 → parseFieldDescriptor (TX1 k).2.2.1 = some (tyX1 k) := by decide +kernel
abbrev cX1_init : ByteArray := prog_3_method_1_code
def yX1_init : MethodName := ⟨RX1, "<init>", "()V"⟩
def RX2 : String := "LuggageTracing$History"
def TX2 : u_T := fun k => match k with
  | 0 => ("LuggageTracing$History", "ring", "[LLuggageTracing$Office;", true)
  | 1 => ("LuggageTracing$History", "next", "I", false)
  | _ => ("LuggageTracing$History", "saved", "I", false)
def tyX2 : Nat → FieldType := fun k => match k with
  | 0 => .array (.object "LuggageTracing$Office")
  | 1 => .int
  | _ => .int
abbrev wsX20 : List Cond := u_ws RX2 TX2 3
theorem nmX2 : ∀ a, a < 3 → ∀ b, b < 3 → a ≠ b → (TX2 a).2.1 ≠ (TX2 b).2.1 := by decide +kernel
theorem tyX2_ok : ∀ k, k < 3 → parseFieldDescriptor (TX2 k).2.2.1 = some (tyX2 k) := by decide +kernel
abbrev cX2_init : ByteArray := prog_4_method_1_code
def yX2_init : MethodName := ⟨RX2, "<init>", "()V"⟩
abbrev cX2_saved : ByteArray := prog_4_method_2_code
def yX2_saved : MethodName := ⟨RX2, "saved", "()I"⟩
abbrev cX2_save : ByteArray := prog_4_method_3_code
def yX2_save : MethodName := ⟨RX2, "save", "(LLuggageTracing$Office;)V"⟩
abbrev cX2_restore : ByteArray := prog_4_method_4_code
def yX2_restore : MethodName := ⟨RX2, "restore", "(LLuggageTracing$Office;)V"⟩
def RX3 : String := "LuggageTracing$Office"
def TX3 : u_T := fun k => match k with
  | 0 => ("LuggageTracing$Office", "bags", "LLuggageTracing$Table;", true)
  | 1 => ("LuggageTracing$Office", "claims", "LLuggageTracing$Table;", true)
  | 2 => ("LuggageTracing$Office", "weights", "[I", true)
  | 3 => ("LuggageTracing$Office", "day", "I", false)
  | 4 => ("LuggageTracing$Office", "threshold", "I", false)
  | 5 => ("LuggageTracing$Office", "rate", "I", false)
  | 6 => ("LuggageTracing$Office", "cap", "I", false)
  | 7 => ("LuggageTracing$Office", "deliveries", "I", false)
  | 8 => ("LuggageTracing$Office", "givenUp", "I", false)
  | 9 => ("LuggageTracing$Office", "sold", "I", false)
  | _ => ("LuggageTracing$Office", "paid", "I", false)
def tyX3 : Nat → FieldType := fun k => match k with
  | 0 => .object "LuggageTracing$Table"
  | 1 => .object "LuggageTracing$Table"
  | 2 => .array .int
  | 3 => .int
  | 4 => .int
  | 5 => .int
  | 6 => .int
  | 7 => .int
  | 8 => .int
  | 9 => .int
  | _ => .int
abbrev wsX30 : List Cond := u_ws RX3 TX3 11
theorem nmX3 : ∀ a, a < 11 → ∀ b, b < 11 → a ≠ b → (TX3 a).2.1 ≠ (TX3 b).2.1 := by decide +kernel
theorem tyX3_ok : ∀ k, k < 11 → parseFieldDescriptor (TX3 k).2.2.1 = some (tyX3 k) := by decide +kernel
abbrev cX3_init : ByteArray := prog_5_method_1_code
def yX3_init : MethodName := ⟨RX3, "<init>", "()V"⟩
abbrev cX3_addBag : ByteArray := prog_5_method_2_code
def yX3_addBag : MethodName := ⟨RX3, "addBag", "(IIIIII)I"⟩
abbrev cX3_join : ByteArray := prog_5_method_3_code
def yX3_join : MethodName := ⟨RX3, "join", "(II)V"⟩
abbrev cX3_payForDelivery : ByteArray := prog_5_method_4_code
def yX3_payForDelivery : MethodName := ⟨RX3, "payForDelivery", "(II)I"⟩
abbrev cX3_payForGivingUp : ByteArray := prog_5_method_5_code
def yX3_payForGivingUp : MethodName := ⟨RX3, "payForGivingUp", "(I)I"⟩
abbrev cX3_copyFrom : ByteArray := prog_5_method_6_code
def yX3_copyFrom : MethodName := ⟨RX3, "copyFrom", "(LLuggageTracing$Office;)V"⟩
def RX4 : String := "LuggageTracing$Pairs"
def TX4 : u_T := fun k => match k with
  | 0 => ("LuggageTracing$Pairs", "gains", "[I", true)
  | 1 => ("LuggageTracing$Pairs", "claimRow", "I", false)
  | _ => ("LuggageTracing$Pairs", "bagRow", "I", false)
def tyX4 : Nat → FieldType := fun k => match k with
  | 0 => .array .int
  | 1 => .int
  | _ => .int
abbrev wsX40 : List Cond := u_ws RX4 TX4 3
theorem nmX4 : ∀ a, a < 3 → ∀ b, b < 3 → a ≠ b → (TX4 a).2.1 ≠ (TX4 b).2.1 := by decide +kernel
theorem tyX4_ok : ∀ k, k < 3 → parseFieldDescriptor (TX4 k).2.2.1 = some (tyX4 k) := by decide +kernel
abbrev cX4_init : ByteArray := prog_6_method_1_code
def yX4_init : MethodName := ⟨RX4, "<init>", "()V"⟩
abbrev cX4_fill : ByteArray := prog_6_method_2_code
def yX4_fill : MethodName := ⟨RX4, "fill", "(LLuggageTracing$Office;LLuggageTracing$Scores;)V"⟩
abbrev cX4_gain : ByteArray := prog_6_method_3_code
def yX4_gain : MethodName := ⟨RX4, "gain", "(II)I"⟩
abbrev cX4_hasGain : ByteArray := prog_6_method_4_code
def yX4_hasGain : MethodName := ⟨RX4, "hasGain", "(I)Z"⟩
abbrev cX4_takeGreatest : ByteArray := prog_6_method_5_code
def yX4_takeGreatest : MethodName := ⟨RX4, "takeGreatest", "()I"⟩
abbrev cX4_strikeOut : ByteArray := prog_6_method_6_code
def yX4_strikeOut : MethodName := ⟨RX4, "strikeOut", "()V"⟩
def RX5 : String := "LuggageTracing$Scores"
def TX5 : u_T := fun k => match k with
  | _ => ("LuggageTracing$Scores", "parts", "[I", true)
def tyX5 : Nat → FieldType := fun k => match k with
  | _ => .array .int
abbrev wsX50 : List Cond := u_ws RX5 TX5 1
theorem nmX5 : ∀ a, a < 1 → ∀ b, b < 1 → a ≠ b → (TX5 a).2.1 ≠ (TX5 b).2.1 := by decide +kernel
theorem tyX5_ok : ∀ k, k < 1 → parseFieldDescriptor (TX5 k).2.2.1 = some (tyX5 k) := by decide +kernel
abbrev cX5_init : ByteArray := prog_7_method_1_code
def yX5_init : MethodName := ⟨RX5, "<init>", "()V"⟩
abbrev cX5_part : ByteArray := prog_7_method_2_code
def yX5_part : MethodName := ⟨RX5, "part", "(LLuggageTracing$Office;III)I"⟩
abbrev cX5_likely : ByteArray := prog_7_method_3_code
def yX5_likely : MethodName := ⟨RX5, "likely", "(LLuggageTracing$Office;II)I"⟩
abbrev cX5_compare : ByteArray := prog_7_method_4_code
def yX5_compare : MethodName := ⟨RX5, "compare", "(LLuggageTracing$Office;II)Z"⟩
abbrev cX5_ofDigits : ByteArray := prog_7_method_5_code
def yX5_ofDigits : MethodName := ⟨RX5, "ofDigits", "(III)I"⟩
abbrev cX5_ofColours : ByteArray := prog_7_method_6_code
def yX5_ofColours : MethodName := ⟨RX5, "ofColours", "(III)I"⟩
abbrev cX5_ofKinds : ByteArray := prog_7_method_7_code
def yX5_ofKinds : MethodName := ⟨RX5, "ofKinds", "(III)I"⟩
abbrev cX5_ofMarks : ByteArray := prog_7_method_8_code
def yX5_ofMarks : MethodName := ⟨RX5, "ofMarks", "(III)I"⟩
abbrev cX5_ofAirport : ByteArray := prog_7_method_9_code
def yX5_ofAirport : MethodName := ⟨RX5, "ofAirport", "(III)I"⟩
def RX6 : String := "LuggageTracing$Table"
def TX6 : u_T := fun k => match k with
  | 0 => ("LuggageTracing$Table", "width", "I", true)
  | 1 => ("LuggageTracing$Table", "cells", "[I", true)
  | 2 => ("LuggageTracing$Table", "numbers", "[I", true)
  | 3 => ("LuggageTracing$Table", "rows", "I", false)
  | _ => ("LuggageTracing$Table", "lastNumber", "I", false)
def tyX6 : Nat → FieldType := fun k => match k with
  | 0 => .int
  | 1 => .array .int
  | 2 => .array .int
  | 3 => .int
  | _ => .int
abbrev wsX60 : List Cond := u_ws RX6 TX6 5
theorem nmX6 : ∀ a, a < 5 → ∀ b, b < 5 → a ≠ b → (TX6 a).2.1 ≠ (TX6 b).2.1 := by decide +kernel
theorem tyX6_ok : ∀ k, k < 5 → parseFieldDescriptor (TX6 k).2.2.1 = some (tyX6 k) := by decide +kernel
abbrev cX6_init : ByteArray := prog_8_method_1_code
def yX6_init : MethodName := ⟨RX6, "<init>", "(II)V"⟩
abbrev cX6_rows : ByteArray := prog_8_method_2_code
def yX6_rows : MethodName := ⟨RX6, "rows", "()I"⟩
abbrev cX6_isFull : ByteArray := prog_8_method_3_code
def yX6_isFull : MethodName := ⟨RX6, "isFull", "()Z"⟩
abbrev cX6_rowOf : ByteArray := prog_8_method_4_code
def yX6_rowOf : MethodName := ⟨RX6, "rowOf", "(I)I"⟩
abbrev cX6_numberOf : ByteArray := prog_8_method_5_code
def yX6_numberOf : MethodName := ⟨RX6, "numberOf", "(I)I"⟩
abbrev cX6_get : ByteArray := prog_8_method_6_code
def yX6_get : MethodName := ⟨RX6, "get", "(II)I"⟩
abbrev cX6_put : ByteArray := prog_8_method_7_code
def yX6_put : MethodName := ⟨RX6, "put", "(III)V"⟩
abbrev cX6_partner : ByteArray := prog_8_method_8_code
def yX6_partner : MethodName := ⟨RX6, "partner", "(I)I"⟩
abbrev cX6_setPartner : ByteArray := prog_8_method_9_code
def yX6_setPartner : MethodName := ⟨RX6, "setPartner", "(II)V"⟩
abbrev cX6_isFree : ByteArray := prog_8_method_10_code
def yX6_isFree : MethodName := ⟨RX6, "isFree", "(I)Z"⟩
abbrev cX6_matchedRows : ByteArray := prog_8_method_11_code
def yX6_matchedRows : MethodName := ⟨RX6, "matchedRows", "()I"⟩
abbrev cX6_append : ByteArray := prog_8_method_12_code
def yX6_append : MethodName := ⟨RX6, "append", "()I"⟩
abbrev cX6_remove : ByteArray := prog_8_method_13_code
def yX6_remove : MethodName := ⟨RX6, "remove", "(I)V"⟩
abbrev cX6_copyFrom : ByteArray := prog_8_method_15_code
def yX6_copyFrom : MethodName := ⟨RX6, "copyFrom", "(LLuggageTracing$Table;)V"⟩
abbrev cX6_hasRow : ByteArray := prog_8_method_16_code
def yX6_hasRow : MethodName := ⟨RX6, "hasRow", "(I)Z"⟩
def RX7 : String := "LuggageTracing$Tags"
def TX7 : u_T := fun k => match k with
  | _ => ("", "", "", false)
def tyX7 : Nat → FieldType := fun k => match k with
  | _ => .int
abbrev wsX70 : List Cond := u_ws RX7 TX7 0
theorem nmX7 : ∀ a, a < 0 → ∀ b, b < 0 → a ≠ b → (TX7 a).2.1 ≠ (TX7 b).2.1 := by decide +kernel
theorem tyX7_ok : ∀ k, k < 0 → parseFieldDescriptor (TX7 k).2.2.1 = some (tyX7 k) := by decide +kernel
abbrev cX7_common : ByteArray := prog_9_method_2_code
def yX7_common : MethodName := ⟨RX7, "common", "(III)I"⟩
abbrev cX7_legible : ByteArray := prog_9_method_3_code
def yX7_legible : MethodName := ⟨RX7, "legible", "(II)I"⟩
def RX8 : String := "LuggageTracing"
def TX8 : u_T := fun k => match k with
  | 0 => ("LuggageTracing", "office", "LLuggageTracing$Office;", true)
  | 1 => ("LuggageTracing", "history", "LLuggageTracing$History;", true)
  | 2 => ("LuggageTracing", "text", "LLuggageTracing$BagText;", true)
  | 3 => ("LuggageTracing", "scores", "LLuggageTracing$Scores;", true)
  | 4 => ("LuggageTracing", "pairs", "LLuggageTracing$Pairs;", true)
  | 5 => ("LuggageTracing", "assignment", "LLuggageTracing$Assignment;", true)
  | 6 => ("LuggageTracing", "lastProblem", "[I", true)
  | 7 => ("LuggageTracing", "bagOfText", "[I", true)
  | _ => ("LuggageTracing", "likelyOfClaim", "[I", true)
def tyX8 : Nat → FieldType := fun k => match k with
  | 0 => .object "LuggageTracing$Office"
  | 1 => .object "LuggageTracing$History"
  | 2 => .object "LuggageTracing$BagText"
  | 3 => .object "LuggageTracing$Scores"
  | 4 => .object "LuggageTracing$Pairs"
  | 5 => .object "LuggageTracing$Assignment"
  | 6 => .array .int
  | 7 => .array .int
  | _ => .array .int
abbrev wsX80 : List Cond := u_ws RX8 TX8 9
theorem nmX8 : ∀ a, a < 9 → ∀ b, b < 9 → a ≠ b → (TX8 a).2.1 ≠ (TX8 b).2.1 := by decide +kernel
theorem tyX8_ok : ∀ k, k < 9 → parseFieldDescriptor (TX8 k).2.2.1 = some (tyX8 k) := by decide +kernel
abbrev cX8_init : ByteArray := prog_1_method_1_code
def yX8_init : MethodName := ⟨RX8, "<init>", "()V"⟩
abbrev cX8_setWeight : ByteArray := prog_1_method_2_code
def yX8_setWeight : MethodName := ⟨RX8, "setWeight", "(II)I"⟩
abbrev cX8_setThreshold : ByteArray := prog_1_method_3_code
def yX8_setThreshold : MethodName := ⟨RX8, "setThreshold", "(I)I"⟩
abbrev cX8_found : ByteArray := prog_1_method_5_code
def yX8_found : MethodName := ⟨RX8, "found", "(IIIIII)I"⟩
abbrev cX8_claim : ByteArray := prog_1_method_6_code
def yX8_claim : MethodName := ⟨RX8, "claim", "(IIIIIIII)I"⟩
abbrev cX8_match : ByteArray := prog_1_method_7_code
def yX8_match : MethodName := ⟨RX8, "match", "(II)I"⟩
abbrev cX8_unmatch : ByteArray := prog_1_method_8_code
def yX8_unmatch : MethodName := ⟨RX8, "unmatch", "(I)I"⟩
abbrev cX8_matchAll : ByteArray := prog_1_method_9_code
def yX8_matchAll : MethodName := ⟨RX8, "matchAll", "()I"⟩
abbrev cX8_deliver : ByteArray := prog_1_method_10_code
def yX8_deliver : MethodName := ⟨RX8, "deliver", "(I)I"⟩
abbrev cX8_giveUp : ByteArray := prog_1_method_11_code
def yX8_giveUp : MethodName := ⟨RX8, "giveUp", "(I)I"⟩
abbrev cX8_auction : ByteArray := prog_1_method_12_code
def yX8_auction : MethodName := ⟨RX8, "auction", "(I)I"⟩
abbrev cX8_pass : ByteArray := prog_1_method_13_code
def yX8_pass : MethodName := ⟨RX8, "pass", "(I)I"⟩
abbrev cX8_count : ByteArray := prog_1_method_14_code
def yX8_count : MethodName := ⟨RX8, "count", "(I)I"⟩
abbrev cX8_bag : ByteArray := prog_1_method_15_code
def yX8_bag : MethodName := ⟨RX8, "bag", "(II)I"⟩
abbrev cX8_claimOf : ByteArray := prog_1_method_16_code
def yX8_claimOf : MethodName := ⟨RX8, "claimOf", "(II)I"⟩
abbrev cX8_score : ByteArray := prog_1_method_17_code
def yX8_score : MethodName := ⟨RX8, "score", "(III)I"⟩
abbrev cX8_suggest : ByteArray := prog_1_method_18_code
def yX8_suggest : MethodName := ⟨RX8, "suggest", "(II)I"⟩
abbrev cX8_sameDigits : ByteArray := prog_1_method_19_code
def yX8_sameDigits : MethodName := ⟨RX8, "sameDigits", "(II)I"⟩
abbrev cX8_bestTotal : ByteArray := prog_1_method_20_code
def yX8_bestTotal : MethodName := ⟨RX8, "bestTotal", "()I"⟩
abbrev cX8_totalOfAll : ByteArray := prog_1_method_21_code
def yX8_totalOfAll : MethodName := ⟨RX8, "totalOfAll", "()I"⟩
abbrev cX8_thresholdFor : ByteArray := prog_1_method_22_code
def yX8_thresholdFor : MethodName := ⟨RX8, "thresholdFor", "(II)I"⟩
abbrev cX8_ifEnded : ByteArray := prog_1_method_23_code
def yX8_ifEnded : MethodName := ⟨RX8, "ifEnded", "(III)I"⟩
abbrev cX8_undo : ByteArray := prog_1_method_29_code
def yX8_undo : MethodName := ⟨RX8, "undo", "()I"⟩
abbrev cX8_outside : ByteArray := prog_1_method_31_code
def yX8_outside : MethodName := ⟨RX8, "outside", "(III)Z"⟩
abbrev cX8_tell : ByteArray := prog_1_method_32_code
def yX8_tell : MethodName := ⟨RX8, "tell", "(LLuggageTracing$Table;II)I"⟩
abbrev cX8_betterBags : ByteArray := prog_1_method_33_code
def yX8_betterBags : MethodName := ⟨RX8, "betterBags", "(I)I"⟩
def RX9 : String := "LuggageTracingModel"
def TX9 : u_T := fun k => match k with
  | _ => ("", "", "", false)
def tyX9 : Nat → FieldType := fun k => match k with
  | _ => .int
abbrev wsX90 : List Cond := u_ws RX9 TX9 0
theorem nmX9 : ∀ a, a < 0 → ∀ b, b < 0 → a ≠ b → (TX9 a).2.1 ≠ (TX9 b).2.1 := by decide +kernel
theorem tyX9_ok : ∀ k, k < 0 → parseFieldDescriptor (TX9 k).2.2.1 = some (tyX9 k) := by decide +kernel
def RJ6 : String := "java/lang/Integer"
def TJ6 : u_T := fun k => match k with
  | _ => ("", "", "", false)
def tyJ6 : Nat → FieldType := fun k => match k with
  | _ => .int
abbrev wsJ60 : List Cond := u_ws RJ6 TJ6 0
theorem nmJ6 : ∀ a, a < 0 → ∀ b, b < 0 → a ≠ b → (TJ6 a).2.1 ≠ (TJ6 b).2.1 := by decide +kernel
theorem tyJ6_ok : ∀ k, k < 0 → parseFieldDescriptor (TJ6 k).2.2.1 = some (tyJ6 k) := by decide +kernel
abbrev cJ6_bitCount_0f7a4 : ByteArray := prog_12_method_49_code
def yJ6_bitCount_0f7a4 : MethodName := ⟨RJ6, "bitCount", "(I)I"⟩
def RJ9 : String := "java/lang/Math"
def TJ9 : u_T := fun k => match k with
  | _ => ("", "", "", false)
def tyJ9 : Nat → FieldType := fun k => match k with
  | _ => .int
abbrev wsJ90 : List Cond := u_ws RJ9 TJ9 0
theorem nmJ9 : ∀ a, a < 0 → ∀ b, b < 0 → a ≠ b → (TJ9 a).2.1 ≠ (TJ9 b).2.1 := by decide +kernel
theorem tyJ9_ok : ∀ k, k < 0 → parseFieldDescriptor (TJ9 k).2.2.1 = some (tyJ9 k) := by decide +kernel
abbrev cJ9_abs_0f7a4 : ByteArray := prog_13_method_59_code
def yJ9_abs_0f7a4 : MethodName := ⟨RJ9, "abs", "(I)I"⟩
abbrev cJ9_max_7cf53 : ByteArray := prog_13_method_65_code
def yJ9_max_7cf53 : MethodName := ⟨RJ9, "max", "(II)I"⟩
abbrev cJ9_min_7cf53 : ByteArray := prog_13_method_69_code
def yJ9_min_7cf53 : MethodName := ⟨RJ9, "min", "(II)I"⟩
def RJ10 : String := "java/lang/System"
def TJ10 : u_T := fun k => match k with
  | _ => ("", "", "", false)
def tyJ10 : Nat → FieldType := fun k => match k with
  | _ => .int
abbrev wsJ100 : List Cond := u_ws RJ10 TJ10 0
theorem nmJ10 : ∀ a, a < 0 → ∀ b, b < 0 → a ≠ b → (TJ10 a).2.1 ≠ (TJ10 b).2.1 := by decide +kernel
theorem tyJ10_ok : ∀ k, k < 0 → parseFieldDescriptor (TJ10 k).2.2.1 = some (tyJ10 k) := by decide +kernel
def RJ7 : String := "java/util/Arrays"
def TJ7 : u_T := fun k => match k with
  | _ => ("", "", "", false)
def tyJ7 : Nat → FieldType := fun k => match k with
  | _ => .int
abbrev wsJ70 : List Cond := u_ws RJ7 TJ7 0
theorem nmJ7 : ∀ a, a < 0 → ∀ b, b < 0 → a ≠ b → (TJ7 a).2.1 ≠ (TJ7 b).2.1 := by decide +kernel
theorem tyJ7_ok : ∀ k, k < 0 → parseFieldDescriptor (TJ7 k).2.2.1 = some (tyJ7 k) := by decide +kernel
abbrev cJ7_fill_53178 : ByteArray := prog_15_method_103_code
def yJ7_fill_53178 : MethodName := ⟨RJ7, "fill", "([II)V"⟩
def RL : String := "LuggageTracingLaw"
abbrev cL_cell : ByteArray := method_2_code
def yL_cell : MethodName := ⟨RL, "cell", "([II)I"⟩
abbrev cL_low : ByteArray := method_3_code
def yL_low : MethodName := ⟨RL, "low", "(II)I"⟩
abbrev cL_nth : ByteArray := method_4_code
def yL_nth : MethodName := ⟨RL, "nth", "(LLuggageTracing;ZI)I"⟩
abbrev cL_isScore : ByteArray := method_5_code
def yL_isScore : MethodName := ⟨RL, "isScore", "(LLuggageTracing;III)Z"⟩
abbrev cL_areMatches : ByteArray := method_6_code
def yL_areMatches : MethodName := ⟨RL, "areMatches", "(LLuggageTracing;[I[I)Z"⟩
abbrev cL_areSuggested : ByteArray := method_7_code
def yL_areSuggested : MethodName := ⟨RL, "areSuggested", "(LLuggageTracing;II)Z"⟩
abbrev cL_isMatched : ByteArray := method_8_code
def yL_isMatched : MethodName := ⟨RL, "isMatched", "(LLuggageTracing;[I[II)Z"⟩
abbrev cL_does : ByteArray := method_9_code
def yL_does : MethodName := ⟨RL, "does", "(LLuggageTracing;[III)Z"⟩
abbrev cL_law : ByteArray := code
def yL_law : MethodName := ⟨RL, "law", "([I)Z"⟩
abbrev vwCl : List vw_C := [(RX0, TX0, 6), (RX1, TX1, 4), (RX2, TX2, 3), (RX3, TX3, 11), (RX4, TX4, 3), (RX5, TX5, 1), (RX6, TX6, 5), (RX8, TX8, 9)]
