section
/-- a private method of a class that the tables say can be made, by its rows of tables_1 -/
def lw_okq (q : MethodName × Nat) : Prop := (q.1.cls ≠ "java/lang/invoke/MethodHandle" ∧ q.1.cls ≠ "java/lang/invoke/VarHandle") ∧ Cond.instantiable q.1.cls q.2 ∈ tables_1 ∧ Cond.privateMethod q.1 ∈ tables_1 ∧ Cond.instanceMethod q.1 ∈ tables_1
theorem lw_p0 : lw_okq (⟨"LuggageTracing$Table", "hasRow", "(I)Z"⟩, 5) := ⟨⟨by decide +kernel, by decide +kernel⟩, List.mem_of_getElem? (i := 29) (by decide +kernel), List.mem_of_getElem? (i := 239) (by decide +kernel), List.mem_of_getElem? (i := 240) (by decide +kernel)⟩
theorem lw_p1 : lw_okq (⟨"LuggageTracing$Scores", "compare", "(LLuggageTracing$Office;II)Z"⟩, 1) := ⟨⟨by decide +kernel, by decide +kernel⟩, List.mem_of_getElem? (i := 139) (by decide +kernel), List.mem_of_getElem? (i := 268) (by decide +kernel), List.mem_of_getElem? (i := 269) (by decide +kernel)⟩
theorem lw_p2 : lw_okq (⟨"LuggageTracing", "betterBags", "(I)I"⟩, 9) := ⟨⟨by decide +kernel, by decide +kernel⟩, List.mem_of_getElem? (i := 15) (by decide +kernel), List.mem_of_getElem? (i := 348) (by decide +kernel), List.mem_of_getElem? (i := 349) (by decide +kernel)⟩
theorem lw_p3 : lw_okq (⟨"LuggageTracing$Assignment", "place", "(LLuggageTracing$Pairs;I)V"⟩, 6) := ⟨⟨by decide +kernel, by decide +kernel⟩, List.mem_of_getElem? (i := 167) (by decide +kernel), List.mem_of_getElem? (i := 382) (by decide +kernel), List.mem_of_getElem? (i := 383) (by decide +kernel)⟩
theorem lw_p4 : lw_okq (⟨"LuggageTracing$Assignment", "relax", "(LLuggageTracing$Pairs;I)V"⟩, 6) := ⟨⟨by decide +kernel, by decide +kernel⟩, List.mem_of_getElem? (i := 167) (by decide +kernel), List.mem_of_getElem? (i := 387) (by decide +kernel), List.mem_of_getElem? (i := 388) (by decide +kernel)⟩
theorem lw_p5 : lw_okq (⟨"LuggageTracing$Assignment", "isReached", "(I)Z"⟩, 6) := ⟨⟨by decide +kernel, by decide +kernel⟩, List.mem_of_getElem? (i := 167) (by decide +kernel), List.mem_of_getElem? (i := 397) (by decide +kernel), List.mem_of_getElem? (i := 398) (by decide +kernel)⟩
theorem lw_p6 : lw_okq (⟨"LuggageTracing$Assignment", "nearest", "()I"⟩, 6) := ⟨⟨by decide +kernel, by decide +kernel⟩, List.mem_of_getElem? (i := 167) (by decide +kernel), List.mem_of_getElem? (i := 401) (by decide +kernel), List.mem_of_getElem? (i := 402) (by decide +kernel)⟩
theorem lw_p7 : lw_okq (⟨"LuggageTracing$Assignment", "shiftPrices", "(I)V"⟩, 6) := ⟨⟨by decide +kernel, by decide +kernel⟩, List.mem_of_getElem? (i := 167) (by decide +kernel), List.mem_of_getElem? (i := 405) (by decide +kernel), List.mem_of_getElem? (i := 406) (by decide +kernel)⟩
theorem lw_p8 : lw_okq (⟨"LuggageTracing$Assignment", "handOn", "(I)V"⟩, 6) := ⟨⟨by decide +kernel, by decide +kernel⟩, List.mem_of_getElem? (i := 167) (by decide +kernel), List.mem_of_getElem? (i := 409) (by decide +kernel), List.mem_of_getElem? (i := 410) (by decide +kernel)⟩
theorem lw_p9 : lw_okq (⟨"LuggageTracing$Pairs", "strikeOut", "()V"⟩, 3) := ⟨⟨by decide +kernel, by decide +kernel⟩, List.mem_of_getElem? (i := 149) (by decide +kernel), List.mem_of_getElem? (i := 421) (by decide +kernel), List.mem_of_getElem? (i := 422) (by decide +kernel)⟩
def lw_privs_1 : List (MethodName × Nat) := [(⟨"LuggageTracing$Table", "hasRow", "(I)Z"⟩, 5), (⟨"LuggageTracing$Scores", "compare", "(LLuggageTracing$Office;II)Z"⟩, 1), (⟨"LuggageTracing", "betterBags", "(I)I"⟩, 9), (⟨"LuggageTracing$Assignment", "place", "(LLuggageTracing$Pairs;I)V"⟩, 6), (⟨"LuggageTracing$Assignment", "relax", "(LLuggageTracing$Pairs;I)V"⟩, 6), (⟨"LuggageTracing$Assignment", "isReached", "(I)Z"⟩, 6), (⟨"LuggageTracing$Assignment", "nearest", "()I"⟩, 6), (⟨"LuggageTracing$Assignment", "shiftPrices", "(I)V"⟩, 6), (⟨"LuggageTracing$Assignment", "handOn", "(I)V"⟩, 6), (⟨"LuggageTracing$Pairs", "strikeOut", "()V"⟩, 3)]
theorem lw_r1 : ∀ q ∈ lw_privs_1, lw_okq q := List.forall_mem_cons.mpr ⟨lw_p0, List.forall_mem_cons.mpr ⟨lw_p1, List.forall_mem_cons.mpr ⟨lw_p2, List.forall_mem_cons.mpr ⟨lw_p3, List.forall_mem_cons.mpr ⟨lw_p4, List.forall_mem_cons.mpr ⟨lw_p5, List.forall_mem_cons.mpr ⟨lw_p6, List.forall_mem_cons.mpr ⟨lw_p7, List.forall_mem_cons.mpr ⟨lw_p8, List.forall_mem_cons.mpr ⟨lw_p9, fun _ h => absurd h List.not_mem_nil⟩⟩⟩⟩⟩⟩⟩⟩⟩⟩
def lw_privs : List (MethodName × Nat) := lw_privs_1
def lw_tbl : List Cond := k2_sels lw_privs ++ tables_1
theorem lw_privs_ok : ∀ q ∈ lw_privs, lw_okq q := lw_r1
end
section
def RX0 : String := "LuggageTracing$Assignment"
def TX0 : u_T := fun k => match k with
  | 0 => ("LuggageTracing$Assignment", "claimPrice", "[I", true)
  | 1 => ("LuggageTracing$Assignment", "bagPrice", "[I", true)
  | 2 => ("LuggageTracing$Assignment", "owner", "[I", true)
  | 3 => ("LuggageTracing$Assignment", "before", "[I", true)
  | 4 => ("LuggageTracing$Assignment", "slack", "[I", true)
  | _ => ("LuggageTracing$Assignment", "reached", "I", false)
def tyX0 : Nat → FieldType := fun k => match k with
  | 0 => .array .int
  | 1 => .array .int
  | 2 => .array .int
  | 3 => .array .int
  | 4 => .array .int
  | _ => .int
abbrev wsX00 : List Cond := u_ws RX0 TX0 6
theorem nmX0 : ∀ a, a < 6 → ∀ b, b < 6 → a ≠ b → (TX0 a).2.1 ≠ (TX0 b).2.1 := by decide +kernel
theorem tyX0_ok : ∀ k, k < 6 → parseFieldDescriptor (TX0 k).2.2.1 = some (tyX0 k) := by decide +kernel
abbrev cX0_init : ByteArray := prog_2_method_1_code
def yX0_init : MethodName := ⟨RX0, "<init>", "()V"⟩
abbrev cX0_bestSum : ByteArray := prog_2_method_2_code
def yX0_bestSum : MethodName := ⟨RX0, "bestSum", "(LLuggageTracing$Pairs;)I"⟩
abbrev cX0_gain : ByteArray := prog_2_method_3_code
def yX0_gain : MethodName := ⟨RX0, "gain", "(LLuggageTracing$Pairs;II)I"⟩
abbrev cX0_place : ByteArray := prog_2_method_4_code
def yX0_place : MethodName := ⟨RX0, "place", "(LLuggageTracing$Pairs;I)V"⟩
abbrev cX0_relax : ByteArray := prog_2_method_5_code
def yX0_relax : MethodName := ⟨RX0, "relax", "(LLuggageTracing$Pairs;I)V"⟩
abbrev cX0_nearest : ByteArray := prog_2_method_6_code
def yX0_nearest : MethodName := ⟨RX0, "nearest", "()I"⟩
abbrev cX0_shiftPrices : ByteArray := prog_2_method_7_code
def yX0_shiftPrices : MethodName := ⟨RX0, "shiftPrices", "(I)V"⟩
abbrev cX0_handOn : ByteArray := prog_2_method_8_code
def yX0_handOn : MethodName := ⟨RX0, "handOn", "(I)V"⟩
abbrev cX0_isReached : ByteArray := prog_2_method_9_code
def yX0_isReached : MethodName := ⟨RX0, "isReached", "(I)Z"⟩
def RX1 : String := "LuggageTracing$BagText"
def TX1 : u_T := fun k => match k with
  | 0 => ("LuggageTracing$BagText", "codes", "[I", true)
  | 1 => ("LuggageTracing$BagText", "length", "I", false)
  | 2 => ("LuggageTracing$BagText", "errorAt", "I", false)
  | _ => ("LuggageTracing$BagText", "lastBag", "I", false)
def tyX1 : Nat → FieldType := fun k => match k with
  | 0 => .array .int
  | 1 => .int
  | 2 => .int
  | _ => .int
abbrev wsX10 : List Cond := u_ws RX1 TX1 4
theorem nmX1 : ∀ a, a < 4 → ∀ b, b < 4 → a ≠ b → (TX1 a).2.1 ≠ (TX1 b).2.1 := by decide +kernel
theorem tyX1_ok : ∀ k, k < 4 → parseFieldDescriptor (TX1 k).2.2.1 = some (tyX1 k) := by decide +kernel
abbrev cX1_init : ByteArray := prog_3_method_1_code
def yX1_init : MethodName := ⟨RX1, "<init>", "()V"⟩
def RX2 : String := "LuggageTracing$History"
def TX2 : u_T := fun k => match k with
  | 0 => ("LuggageTracing$History", "ring", "[LLuggageTracing$Office;", true)
  | 1 => ("LuggageTracing$History", "next", "I", false)
  | _ => ("LuggageTracing$History", "saved", "I", false)
def tyX2 : Nat → FieldType := fun k => match k with
  | 0 => .array (.object "LuggageTracing$Office")
  | 1 => .int
  | _ => .int
abbrev wsX20 : List Cond := u_ws RX2 TX2 3
theorem nmX2 : ∀ a, a < 3 → ∀ b, b < 3 → a ≠ b → (TX2 a).2.1 ≠ (TX2 b).2.1 := by decide +kernel
theorem tyX2_ok : ∀ k, k < 3 → parseFieldDescriptor (TX2 k).2.2.1 = some (tyX2 k) := by decide +kernel
abbrev cX2_init : ByteArray := prog_4_method_1_code
def yX2_init : MethodName := ⟨RX2, "<init>", "()V"⟩
abbrev cX2_saved : ByteArray := prog_4_method_2_code
def yX2_saved : MethodName := ⟨RX2, "saved", "()I"⟩
abbrev cX2_save : ByteArray := prog_4_method_3_code
def yX2_save : MethodName := ⟨RX2, "save", "(LLuggageTracing$Office;)V"⟩
abbrev cX2_restore : ByteArray := prog_4_method_4_code
def yX2_restore : MethodName := ⟨RX2, "restore", "(LLuggageTracing$Office;)V"⟩
def RX3 : String := "LuggageTracing$Office"
def TX3 : u_T := fun k => match k with
  | 0 => ("LuggageTracing$Office", "bags", "LLuggageTracing$Table;", true)
  | 1 => ("LuggageTracing$Office", "claims", "LLuggageTracing$Table;", true)
  | 2 => ("LuggageTracing$Office", "weights", "[I", true)
  | 3 => ("LuggageTracing$Office", "day", "I", false)
  | 4 => ("LuggageTracing$Office", "threshold", "I", false)
  | 5 => ("LuggageTracing$Office", "rate", "I", false)
  | 6 => ("LuggageTracing$Office", "cap", "I", false)
  | 7 => ("LuggageTracing$Office", "deliveries", "I", false)
  | 8 => ("LuggageTracing$Office", "givenUp", "I", false)
  | 9 => ("LuggageTracing$Office", "sold", "I", false)
  | _ => ("LuggageTracing$Office", "paid", "I", false)
def tyX3 : Nat → FieldType := fun k => match k with
  | 0 => .object "LuggageTracing$Table"
  | 1 => .object "LuggageTracing$Table"
  | 2 => .array .int
  | 3 => .int
  | 4 => .int
  | 5 => .int
  | 6 => .int
  | 7 => .int
  | 8 => .int
  | 9 => .int
  | _ => .int
abbrev wsX30 : List Cond := u_ws RX3 TX3 11
theorem nmX3 : ∀ a, a < 11 → ∀ b, b < 11 → a ≠ b → (TX3 a).2.1 ≠ (TX3 b).2.1 := by decide +kernel
theorem tyX3_ok : ∀ k, k < 11 → parseFieldDescriptor (TX3 k).2.2.1 = some (tyX3 k) := by decide +kernel
abbrev cX3_init : ByteArray := prog_5_method_1_code
def yX3_init : MethodName := ⟨RX3, "<init>", "()V"⟩
abbrev cX3_addBag : ByteArray := prog_5_method_2_code
def yX3_addBag : MethodName := ⟨RX3, "addBag", "(IIIIII)I"⟩
abbrev cX3_join : ByteArray := prog_5_method_3_code
def yX3_join : MethodName := ⟨RX3, "join", "(II)V"⟩
abbrev cX3_payForDelivery : ByteArray := prog_5_method_4_code
def yX3_payForDelivery : MethodName := ⟨RX3, "payForDelivery", "(II)I"⟩
abbrev cX3_payForGivingUp : ByteArray := prog_5_method_5_code
def yX3_payForGivingUp : MethodName := ⟨RX3, "payForGivingUp", "(I)I"⟩
abbrev cX3_copyFrom : ByteArray := prog_5_method_6_code
def yX3_copyFrom : MethodName := ⟨RX3, "copyFrom", "(LLuggageTracing$Office;)V"⟩
def RX4 : String := "LuggageTracing$Pairs"
def TX4 : u_T := fun k => match k with
  | 0 => ("LuggageTracing$Pairs", "gains", "[I", true)
  | 1 => ("LuggageTracing$Pairs", "claimRow", "I", false)
  | _ => ("LuggageTracing$Pairs", "bagRow", "I", false)
def tyX4 : Nat → FieldType := fun k => match k with
  | 0 => .array .int
  | 1 => .int
  | _ => .int
abbrev wsX40 : List Cond := u_ws RX4 TX4 3
theorem nmX4 : ∀ a, a < 3 → ∀ b, b < 3 → a ≠ b → (TX4 a).2.1 ≠ (TX4 b).2.1 := by decide +kernel
theorem tyX4_ok : ∀ k, k < 3 → parseFieldDescriptor (TX4 k).2.2.1 = some (tyX4 k) := by decide +kernel
abbrev cX4_init : ByteArray := prog_6_method_1_code
def yX4_init : MethodName := ⟨RX4, "<init>", "()V"⟩
abbrev cX4_fill : ByteArray := prog_6_method_2_code
def yX4_fill : MethodName := ⟨RX4, "fill", "(LLuggageTracing$Office;LLuggageTracing$Scores;)V"⟩
abbrev cX4_gain : ByteArray := prog_6_method_3_code
def yX4_gain : MethodName := ⟨RX4, "gain", "(II)I"⟩
abbrev cX4_hasGain : ByteArray := prog_6_method_4_code
def yX4_hasGain : MethodName := ⟨RX4, "hasGain", "(I)Z"⟩
abbrev cX4_takeGreatest : ByteArray := prog_6_method_5_code
def yX4_takeGreatest : MethodName := ⟨RX4, "takeGreatest", "()I"⟩
abbrev cX4_strikeOut : ByteArray := prog_6_method_6_code
def yX4_strikeOut : MethodName := ⟨RX4, "strikeOut", "()V"⟩
def RX5 : String := "LuggageTracing$Scores"
def TX5 : u_T := fun k => match k with
  | _ => ("LuggageTracing$Scores", "parts", "[I", true)
def tyX5 : Nat → FieldType := fun k => match k with
  | _ => .array .int
abbrev wsX50 : List Cond := u_ws RX5 TX5 1
theorem nmX5 : ∀ a, a < 1 → ∀ b, b < 1 → a ≠ b → (TX5 a).2.1 ≠ (TX5 b).2.1 := by decide +kernel
theorem tyX5_ok : ∀ k, k < 1 → parseFieldDescriptor (TX5 k).2.2.1 = some (tyX5 k) := by decide +kernel
abbrev cX5_init : ByteArray := prog_7_method_1_code
def yX5_init : MethodName := ⟨RX5, "<init>", "()V"⟩
abbrev cX5_part : ByteArray := prog_7_method_2_code
def yX5_part : MethodName := ⟨RX5, "part", "(LLuggageTracing$Office;III)I"⟩
abbrev cX5_likely : ByteArray := prog_7_method_3_code
def yX5_likely : MethodName := ⟨RX5, "likely", "(LLuggageTracing$Office;II)I"⟩
abbrev cX5_compare : ByteArray := prog_7_method_4_code
def yX5_compare : MethodName := ⟨RX5, "compare", "(LLuggageTracing$Office;II)Z"⟩
abbrev cX5_ofDigits : ByteArray := prog_7_method_5_code
def yX5_ofDigits : MethodName := ⟨RX5, "ofDigits", "(III)I"⟩
abbrev cX5_ofColours : ByteArray := prog_7_method_6_code
def yX5_ofColours : MethodName := ⟨RX5, "ofColours", "(III)I"⟩
abbrev cX5_ofKinds : ByteArray := prog_7_method_7_code
def yX5_ofKinds : MethodName := ⟨RX5, "ofKinds", "(III)I"⟩
abbrev cX5_ofMarks : ByteArray := prog_7_method_8_code
def yX5_ofMarks : MethodName := ⟨RX5, "ofMarks", "(III)I"⟩
abbrev cX5_ofAirport : ByteArray := prog_7_method_9_code
def yX5_ofAirport : MethodName := ⟨RX5, "ofAirport", "(III)I"⟩
def RX6 : String := "LuggageTracing$Table"
def TX6 : u_T := fun k => match k with
  | 0 => ("LuggageTracing$Table", "width", "I", true)
  | 1 => ("LuggageTracing$Table", "cells", "[I", true)
  | 2 => ("LuggageTracing$Table", "numbers", "[I", true)
  | 3 => ("LuggageTracing$Table", "rows", "I", false)
  | _ => ("LuggageTracing$Table", "lastNumber", "I", false)
def tyX6 : Nat → FieldType := fun k => match k with
  | 0 => .int
  | 1 => .array .int
  | 2 => .array .int
  | 3 => .int
  | _ => .int
abbrev wsX60 : List Cond := u_ws RX6 TX6 5
theorem nmX6 : ∀ a, a < 5 → ∀ b, b < 5 → a ≠ b → (TX6 a).2.1 ≠ (TX6 b).2.1 := by decide +kernel
theorem tyX6_ok : ∀ k, k < 5 → parseFieldDescriptor (TX6 k).2.2.1 = some (tyX6 k) := by decide +kernel
abbrev cX6_init : ByteArray := prog_8_method_1_code
def yX6_init : MethodName := ⟨RX6, "<init>", "(II)V"⟩
abbrev cX6_rows : ByteArray := prog_8_method_2_code
def yX6_rows : MethodName := ⟨RX6, "rows", "()I"⟩
abbrev cX6_isFull : ByteArray := prog_8_method_3_code
def yX6_isFull : MethodName := ⟨RX6, "isFull", "()Z"⟩
abbrev cX6_rowOf : ByteArray := prog_8_method_4_code
def yX6_rowOf : MethodName := ⟨RX6, "rowOf", "(I)I"⟩
abbrev cX6_numberOf : ByteArray := prog_8_method_5_code
def yX6_numberOf : MethodName := ⟨RX6, "numberOf", "(I)I"⟩
abbrev cX6_get : ByteArray := prog_8_method_6_code
def yX6_get : MethodName := ⟨RX6, "get", "(II)I"⟩
abbrev cX6_put : ByteArray := prog_8_method_7_code
def yX6_put : MethodName := ⟨RX6, "put", "(III)V"⟩
abbrev cX6_partner : ByteArray := prog_8_method_8_code
def yX6_partner : MethodName := ⟨RX6, "partner", "(I)I"⟩
abbrev cX6_setPartner : ByteArray := prog_8_method_9_code
def yX6_setPartner : MethodName := ⟨RX6, "setPartner", "(II)V"⟩
abbrev cX6_isFree : ByteArray := prog_8_method_10_code
def yX6_isFree : MethodName := ⟨RX6, "isFree", "(I)Z"⟩
abbrev cX6_matchedRows : ByteArray := prog_8_method_11_code
def yX6_matchedRows : MethodName := ⟨RX6, "matchedRows", "()I"⟩
abbrev cX6_append : ByteArray := prog_8_method_12_code
def yX6_append : MethodName := ⟨RX6, "append", "()I"⟩
abbrev cX6_remove : ByteArray := prog_8_method_13_code
def yX6_remove : MethodName := ⟨RX6, "remove", "(I)V"⟩
abbrev cX6_copyFrom : ByteArray := prog_8_method_15_code
def yX6_copyFrom : MethodName := ⟨RX6, "copyFrom", "(LLuggageTracing$Table;)V"⟩
abbrev cX6_hasRow : ByteArray := prog_8_method_16_code
def yX6_hasRow : MethodName := ⟨RX6, "hasRow", "(I)Z"⟩
def RX7 : String := "LuggageTracing$Tags"
def TX7 : u_T := fun k => match k with
  | _ => ("", "", "", false)
def tyX7 : Nat → FieldType := fun k => match k with
  | _ => .int
abbrev wsX70 : List Cond := u_ws RX7 TX7 0
theorem nmX7 : ∀ a, a < 0 → ∀ b, b < 0 → a ≠ b → (TX7 a).2.1 ≠ (TX7 b).2.1 := by decide +kernel
theorem tyX7_ok : ∀ k, k < 0 → parseFieldDescriptor (TX7 k).2.2.1 = some (tyX7 k) := by decide +kernel
abbrev cX7_common : ByteArray := prog_9_method_2_code
def yX7_common : MethodName := ⟨RX7, "common", "(III)I"⟩
abbrev cX7_legible : ByteArray := prog_9_method_3_code
def yX7_legible : MethodName := ⟨RX7, "legible", "(II)I"⟩
def RX8 : String := "LuggageTracing"
def TX8 : u_T := fun k => match k with
  | 0 => ("LuggageTracing", "office", "LLuggageTracing$Office;", true)
  | 1 => ("LuggageTracing", "history", "LLuggageTracing$History;", true)
  | 2 => ("LuggageTracing", "text", "LLuggageTracing$BagText;", true)
  | 3 => ("LuggageTracing", "scores", "LLuggageTracing$Scores;", true)
  | 4 => ("LuggageTracing", "pairs", "LLuggageTracing$Pairs;", true)
  | 5 => ("LuggageTracing", "assignment", "LLuggageTracing$Assignment;", true)
  | 6 => ("LuggageTracing", "lastProblem", "[I", true)
  | 7 => ("LuggageTracing", "bagOfText", "[I", true)
  | _ => ("LuggageTracing", "likelyOfClaim", "[I", true)
def tyX8 : Nat → FieldType := fun k => match k with
  | 0 => .object "LuggageTracing$Office"
  | 1 => .object "LuggageTracing$History"
  | 2 => .object "LuggageTracing$BagText"
  | 3 => .object "LuggageTracing$Scores"
  | 4 => .object "LuggageTracing$Pairs"
  | 5 => .object "LuggageTracing$Assignment"
  | 6 => .array .int
  | 7 => .array .int
  | _ => .array .int
abbrev wsX80 : List Cond := u_ws RX8 TX8 9
theorem nmX8 : ∀ a, a < 9 → ∀ b, b < 9 → a ≠ b → (TX8 a).2.1 ≠ (TX8 b).2.1 := by decide +kernel
theorem tyX8_ok : ∀ k, k < 9 → parseFieldDescriptor (TX8 k).2.2.1 = some (tyX8 k) := by decide +kernel
abbrev cX8_init : ByteArray := prog_1_method_1_code
def yX8_init : MethodName := ⟨RX8, "<init>", "()V"⟩
abbrev cX8_setWeight : ByteArray := prog_1_method_2_code
def yX8_setWeight : MethodName := ⟨RX8, "setWeight", "(II)I"⟩
abbrev cX8_setThreshold : ByteArray := prog_1_method_3_code
def yX8_setThreshold : MethodName := ⟨RX8, "setThreshold", "(I)I"⟩
abbrev cX8_found : ByteArray := prog_1_method_5_code
def yX8_found : MethodName := ⟨RX8, "found", "(IIIIII)I"⟩
abbrev cX8_claim : ByteArray := prog_1_method_6_code
def yX8_claim : MethodName := ⟨RX8, "claim", "(IIIIIIII)I"⟩
abbrev cX8_match : ByteArray := prog_1_method_7_code
def yX8_match : MethodName := ⟨RX8, "match", "(II)I"⟩
abbrev cX8_unmatch : ByteArray := prog_1_method_8_code
def yX8_unmatch : MethodName := ⟨RX8, "unmatch", "(I)I"⟩
abbrev cX8_matchAll : ByteArray := prog_1_method_9_code
def yX8_matchAll : MethodName := ⟨RX8, "matchAll", "()I"⟩
abbrev cX8_deliver : ByteArray := prog_1_method_10_code
def yX8_deliver : MethodName := ⟨RX8, "deliver", "(I)I"⟩
abbrev cX8_giveUp : ByteArray := prog_1_method_11_code
def yX8_giveUp : MethodName := ⟨RX8, "giveUp", "(I)I"⟩
abbrev cX8_auction : ByteArray := prog_1_method_12_code
def yX8_auction : MethodName := ⟨RX8, "auction", "(I)I"⟩
abbrev cX8_pass : ByteArray := prog_1_method_13_code
def yX8_pass : MethodName := ⟨RX8, "pass", "(I)I"⟩
abbrev cX8_count : ByteArray := prog_1_method_14_code
def yX8_count : MethodName := ⟨RX8, "count", "(I)I"⟩
abbrev cX8_bag : ByteArray := prog_1_method_15_code
def yX8_bag : MethodName := ⟨RX8, "bag", "(II)I"⟩
abbrev cX8_claimOf : ByteArray := prog_1_method_16_code
def yX8_claimOf : MethodName := ⟨RX8, "claimOf", "(II)I"⟩
abbrev cX8_score : ByteArray := prog_1_method_17_code
def yX8_score : MethodName := ⟨RX8, "score", "(III)I"⟩
abbrev cX8_suggest : ByteArray := prog_1_method_18_code
def yX8_suggest : MethodName := ⟨RX8, "suggest", "(II)I"⟩
abbrev cX8_sameDigits : ByteArray := prog_1_method_19_code
def yX8_sameDigits : MethodName := ⟨RX8, "sameDigits", "(II)I"⟩
abbrev cX8_bestTotal : ByteArray := prog_1_method_20_code
def yX8_bestTotal : MethodName := ⟨RX8, "bestTotal", "()I"⟩
abbrev cX8_totalOfAll : ByteArray := prog_1_method_21_code
def yX8_totalOfAll : MethodName := ⟨RX8, "totalOfAll", "()I"⟩
abbrev cX8_thresholdFor : ByteArray := prog_1_method_22_code
def yX8_thresholdFor : MethodName := ⟨RX8, "thresholdFor", "(II)I"⟩
abbrev cX8_ifEnded : ByteArray := prog_1_method_23_code
def yX8_ifEnded : MethodName := ⟨RX8, "ifEnded", "(III)I"⟩
abbrev cX8_undo : ByteArray := prog_1_method_29_code
def yX8_undo : MethodName := ⟨RX8, "undo", "()I"⟩
abbrev cX8_outside : ByteArray := prog_1_method_31_code
def yX8_outside : MethodName := ⟨RX8, "outside", "(III)Z"⟩
abbrev cX8_tell : ByteArray := prog_1_method_32_code
def yX8_tell : MethodName := ⟨RX8, "tell", "(LLuggageTracing$Table;II)I"⟩
abbrev cX8_betterBags : ByteArray := prog_1_method_33_code
def yX8_betterBags : MethodName := ⟨RX8, "betterBags", "(I)I"⟩
def RX9 : String := "LuggageTracingModel"
def TX9 : u_T := fun k => match k with
  | _ => ("", "", "", false)
def tyX9 : Nat → FieldType := fun k => match k with
  | _ => .int
abbrev wsX90 : List Cond := u_ws RX9 TX9 0
theorem nmX9 : ∀ a, a < 0 → ∀ b, b < 0 → a ≠ b → (TX9 a).2.1 ≠ (TX9 b).2.1 := by decide +kernel
theorem tyX9_ok : ∀ k, k < 0 → parseFieldDescriptor (TX9 k).2.2.1 = some (tyX9 k) := by decide +kernel
def RJ6 : String := "java/lang/Integer"
def TJ6 : u_T := fun k => match k with
  | _ => ("", "", "", false)
def tyJ6 : Nat → FieldType := fun k => match k with
  | _ => .int
abbrev wsJ60 : List Cond := u_ws RJ6 TJ6 0
theorem nmJ6 : ∀ a, a < 0 → ∀ b, b < 0 → a ≠ b → (TJ6 a).2.1 ≠ (TJ6 b).2.1 := by decide +kernel
theorem tyJ6_ok : ∀ k, k < 0 → parseFieldDescriptor (TJ6 k).2.2.1 = some (tyJ6 k) := by decide +kernel
abbrev cJ6_bitCount_0f7a4 : ByteArray := prog_12_method_49_code
def yJ6_bitCount_0f7a4 : MethodName := ⟨RJ6, "bitCount", "(I)I"⟩
def RJ9 : String := "java/lang/Math"
def TJ9 : u_T := fun k => match k with
  | _ => ("", "", "", false)
def tyJ9 : Nat → FieldType := fun k => match k with
  | _ => .int
abbrev wsJ90 : List Cond := u_ws RJ9 TJ9 0
theorem nmJ9 : ∀ a, a < 0 → ∀ b, b < 0 → a ≠ b → (TJ9 a).2.1 ≠ (TJ9 b).2.1 := by decide +kernel
theorem tyJ9_ok : ∀ k, k < 0 → parseFieldDescriptor (TJ9 k).2.2.1 = some (tyJ9 k) := by decide +kernel
abbrev cJ9_abs_0f7a4 : ByteArray := prog_13_method_59_code
def yJ9_abs_0f7a4 : MethodName := ⟨RJ9, "abs", "(I)I"⟩
abbrev cJ9_max_7cf53 : ByteArray := prog_13_method_65_code
def yJ9_max_7cf53 : MethodName := ⟨RJ9, "max", "(II)I"⟩
abbrev cJ9_min_7cf53 : ByteArray := prog_13_method_69_code
def yJ9_min_7cf53 : MethodName := ⟨RJ9, "min", "(II)I"⟩
def RJ10 : String := "java/lang/System"
def TJ10 : u_T := fun k => match k with
  | _ => ("", "", "", false)
def tyJ10 : Nat → FieldType := fun k => match k with
  | _ => .int
abbrev wsJ100 : List Cond := u_ws RJ10 TJ10 0
theorem nmJ10 : ∀ a, a < 0 → ∀ b, b < 0 → a ≠ b → (TJ10 a).2.1 ≠ (TJ10 b).2.1 := by decide +kernel
theorem tyJ10_ok : ∀ k, k < 0 → parseFieldDescriptor (TJ10 k).2.2.1 = some (tyJ10 k) := by decide +kernel
def RJ7 : String := "java/util/Arrays"
def TJ7 : u_T := fun k => match k with
  | _ => ("", "", "", false)
def tyJ7 : Nat → FieldType := fun k => match k with
  | _ => .int
abbrev wsJ70 : List Cond := u_ws RJ7 TJ7 0
theorem nmJ7 : ∀ a, a < 0 → ∀ b, b < 0 → a ≠ b → (TJ7 a).2.1 ≠ (TJ7 b).2.1 := by decide +kernel
theorem tyJ7_ok : ∀ k, k < 0 → parseFieldDescriptor (TJ7 k).2.2.1 = some (tyJ7 k) := by decide +kernel
abbrev cJ7_fill_53178 : ByteArray := prog_15_method_103_code
def yJ7_fill_53178 : MethodName := ⟨RJ7, "fill", "([II)V"⟩
def RL : String := "LuggageTracingLaw"
abbrev cL_cell : ByteArray := method_2_code
def yL_cell : MethodName := ⟨RL, "cell", "([II)I"⟩
abbrev cL_low : ByteArray := method_3_code
def yL_low : MethodName := ⟨RL, "low", "(II)I"⟩
abbrev cL_nth : ByteArray := method_4_code
def yL_nth : MethodName := ⟨RL, "nth", "(LLuggageTracing;ZI)I"⟩
abbrev cL_isScore : ByteArray := method_5_code
def yL_isScore : MethodName := ⟨RL, "isScore", "(LLuggageTracing;III)Z"⟩
abbrev cL_areMatches : ByteArray := method_6_code
def yL_areMatches : MethodName := ⟨RL, "areMatches", "(LLuggageTracing;[I[I)Z"⟩
abbrev cL_areSuggested : ByteArray := method_7_code
def yL_areSuggested : MethodName := ⟨RL, "areSuggested", "(LLuggageTracing;II)Z"⟩
abbrev cL_isMatched : ByteArray := method_8_code
def yL_isMatched : MethodName := ⟨RL, "isMatched", "(LLuggageTracing;[I[II)Z"⟩
abbrev cL_does : ByteArray := method_9_code
def yL_does : MethodName := ⟨RL, "does", "(LLuggageTracing;[III)Z"⟩
abbrev cL_law : ByteArray := code
def yL_law : MethodName := ⟨RL, "law", "([I)Z"⟩
abbrev vwCl : List vw_C := [(RX0, TX0, 6), (RX1, TX1, 4), (RX2, TX2, 3), (RX3, TX3, 11), (RX4, TX4, 3), (RX5, TX5, 1), (RX6, TX6, 5), (RX8, TX8, 9)]
end
section
/-! A small machine beside the real one: whole numbers as Int, cells by number; its code tables are those of the claim's methods, resolved. Later parts show that what it answers the real one answers. -/
/-- a value: a whole number, a long, a cell's number, or (the last) 0: null or nothing, 1: the script -/
abbrev ZV : Type := Int ⊕ (Int64 ⊕ (Nat ⊕ Nat))
/-- what the cells are: class number (100: whole numbers, 101: rows of cells), length, the cells that it names -/
abbrev Sh : Type := List (Nat × Nat × List (Option Nat))
/-- the whole numbers that the cells hold, and the long of each -/
abbrev Me : Type := Nat → Nat → Int
abbrev Ml : Type := Nat → Int64
/-- an instruction: itself, the next place, four numbers, and the place of its word -/
abbrev En : Type := Instr × Nat × Nat × Nat × Nat × Int × Nat
abbrev CT : Type := List (Nat × List (Nat × En))
abbrev Mr : Type := CT × Nat × MethodName × ByteArray × Option FieldType × Nat × Nat × List Nat
abbrev Zs : Type := Nat × List ZV × List ZV × Sh × Me × Ml
abbrev Zr : Type := Option ZV × Sh × Me × Ml
abbrev Sc : Type := Option (Nat × (Nat → Int))
abbrev zi (x : Int) : ZV := .inl x
abbrev zl (x : Int64) : ZV := .inr (.inl x)
abbrev zr (k : Nat) : ZV := .inr (.inr (.inl k))
abbrev zn : ZV := .inr (.inr (.inr 0))
abbrev zs : ZV := .inr (.inr (.inr 1))
def zlook : List (Nat × En) → Nat → Option En
  | [], _ => none
  | q :: l, pc => bif Nat.beq q.1 pc then some q.2 else zlook l pc
def look2 : CT → Nat → Option En
  | [], _ => none
  | q :: l, pc => bif Nat.ble pc q.1 then zlook q.2 pc else look2 l pc
def zgt {α : Type} : List α → Nat → Option α
  | [], _ => none
  | a :: _, 0 => some a
  | _ :: l, k + 1 => zgt l k
def zput {β : Type} : List ZV → Nat → ZV → (List ZV → Option β) → Option β
  | [], _, _, _ => none
  | _ :: l, 0, v, k => k (v :: l)
  | a :: l, i + 1, v, k => zput l i v (fun l' => k (a :: l'))
/-- the place ahead of i holds no long -/
def zok (L : List ZV) : Nat → Bool
  | 0 => true
  | i + 1 => match zgt L i with
    | some (.inr (.inl _)) => false
    | _ => true
def zcat : ZV → Nat
  | .inr (.inl _) => 2
  | _ => 1
def zwt : List ZV → Nat
  | [] => 0
  | v :: l => zcat v + zwt l
def w32 (x : Int) : Int := Int.bmod x 4294967296
def upd2 (M : Me) (k j : Nat) (v : Int) : Me := fun a b => if a = k ∧ b = j then v else M a b
def updl (h : Ml) (k : Nat) (v : Int64) : Ml := fun a => if a = k then v else h a
def cpy2 (M : Me) (k1 k2 sp dp n : Nat) : Me := fun a j => if a = k2 ∧ dp ≤ j ∧ j < dp + n then M k1 (sp + (j - dp)) else M a j
def bAnd (x y : Int) : Int := (Int32.ofInt x &&& Int32.ofInt y).toInt
def bOr (x y : Int) : Int := (Int32.ofInt x ||| Int32.ofInt y).toInt
def bXor (x y : Int) : Int := (Int32.ofInt x ^^^ Int32.ofInt y).toInt
def bShl (x y : Int) : Int := (Int32.ofInt x <<< (Int32.ofInt y &&& 31)).toInt
def bShr (x y : Int) : Int := (Int32.ofInt x >>> (Int32.ofInt y &&& 31)).toInt
def bUsh (x y : Int) : Int := ((Int32.ofInt x).toUInt32 >>> ((Int32.ofInt y).toUInt32 &&& Int32.toUInt32 31)).toInt32.toInt
def zlc (x y : Int64) : Int := if y < x then 1 else if x = y then 0 else -1
def zca2 (n : Nat) : List ZV → List ZV → Option (List ZV × List ZV) := match n with
  | 0 => fun st acc => some (acc, st)
  | n + 1 => fun st acc => match st with
    | v :: r => zca2 n r (v :: acc)
    | [] => none
/-- the locals with which a method begins -/
def zex : List ZV → List ZV
  | [] => []
  | v :: l => match v with
    | .inr (.inl y) => .inr (.inl y) :: zn :: zex l
    | .inr (.inr q) => .inr (.inr q) :: zex l
    | .inl x => .inl x :: zex l
def zpad : Nat → List ZV → List ZV
  | 0, l => l
  | n + 1, [] => zn :: zpad n []
  | n + 1, v :: l => v :: zpad n l
end
section
def zFKs : List (List Nat) := [[1, 1, 1, 1, 1, 0], [1, 0, 0, 0], [1, 0, 0], [1, 1, 1, 0, 0, 0, 0, 0, 0, 0, 0], [1, 0, 0], [1], [0, 1, 1, 0, 0], [1, 1, 1, 1, 1, 1, 1, 1, 1]]
def tX0_init : CT := [(21, [(0, .aload_n 0, 1, 0, 0, 0, 0, 0), (1, .invokespecial 3, 4, 0, 1, 0, 0, 181), (4, .aload_n 0, 5, 0, 0, 0, 0, 0), (5, .bipush 11, 7, 0, 0, 0, 11, 0), (7, .newarray .int, 9, 0, 0, 0, 0, 64), (9, .putfield 9, 12, 0, 0, 1, 0, 182), (12, .aload_n 0, 13, 0, 0, 0, 0, 0), (13, .bipush 13, 15, 0, 0, 0, 13, 0), (15, .newarray .int, 17, 0, 0, 0, 0, 64), (17, .putfield 15, 20, 0, 1, 1, 0, 183), (20, .aload_n 0, 21, 0, 0, 0, 0, 0), (21, .bipush 13, 23, 0, 0, 0, 13, 0)]),
  (44, [(23, .newarray .int, 25, 0, 0, 0, 0, 64), (25, .putfield 18, 28, 0, 2, 1, 0, 184), (28, .aload_n 0, 29, 0, 0, 0, 0, 0), (29, .bipush 13, 31, 0, 0, 0, 13, 0), (31, .newarray .int, 33, 0, 0, 0, 0, 64), (33, .putfield 21, 36, 0, 3, 1, 0, 185), (36, .aload_n 0, 37, 0, 0, 0, 0, 0), (37, .bipush 13, 39, 0, 0, 0, 13, 0), (39, .newarray .int, 41, 0, 0, 0, 0, 64), (41, .putfield 24, 44, 0, 4, 1, 0, 186), (44, .return_, 45, 0, 0, 0, 0, 0)])]
def tX0_bestSum : CT := [(21, [(0, .aload_n 0, 1, 0, 0, 0, 0, 0), (1, .getfield 9, 4, 0, 0, 1, 0, 182), (4, .iconst 0, 5, 0, 0, 0, 0, 0), (5, .invokestatic 27, 8, 80, 2, 0, 0, 382), (8, .aload_n 0, 9, 0, 0, 0, 0, 0), (9, .getfield 15, 12, 0, 1, 1, 0, 183), (12, .iconst 0, 13, 0, 0, 0, 0, 0), (13, .invokestatic 27, 16, 80, 2, 0, 0, 382), (16, .aload_n 0, 17, 0, 0, 0, 0, 0), (17, .getfield 18, 20, 0, 2, 1, 0, 184), (20, .iconst 0, 21, 0, 0, 0, 0, 0), (21, .invokestatic 27, 24, 80, 2, 0, 0, 382)]),
  (42, [(24, .iconst 1, 25, 0, 0, 0, 1, 0), (25, .istore_n 2, 26, 2, 0, 0, 0, 0), (26, .iload_n 2, 27, 2, 0, 0, 0, 0), (27, .bipush 10, 29, 0, 0, 0, 10, 0), (29, .if_icmp .gt 25, 32, 54, 0, 0, 0, 0), (32, .aload_n 1, 33, 1, 0, 0, 0, 0), (33, .iload_n 2, 34, 2, 0, 0, 0, 0), (34, .iconst 1, 35, 0, 0, 0, 1, 0), (35, .isub, 36, 0, 0, 0, 0, 0), (36, .invokevirtual 33, 39, 24, 2, 4, 0, 383), (39, .ifCond .eq 9, 42, 48, 0, 0, 0, 0), (42, .aload_n 0, 43, 0, 0, 0, 0, 0)]),
  (61, [(43, .aload_n 1, 44, 1, 0, 0, 0, 0), (44, .iload_n 2, 45, 2, 0, 0, 0, 0), (45, .invokevirtual 39, 48, 4, 3, 0, 0, 391), (48, .iinc 2 1, 51, 2, 0, 0, 1, 0), (51, .goto (-25), 54, 26, 0, 0, 0, 0), (54, .iconst 0, 55, 0, 0, 0, 0, 0), (55, .istore_n 2, 56, 2, 0, 0, 0, 0), (56, .iconst 1, 57, 0, 0, 0, 1, 0), (57, .istore_n 3, 58, 3, 0, 0, 0, 0), (58, .iload_n 3, 59, 3, 0, 0, 0, 0), (59, .bipush 12, 61, 0, 0, 0, 12, 0), (61, .if_icmp .gt 23, 64, 84, 0, 0, 0, 0)]),
  (81, [(64, .iload_n 2, 65, 2, 0, 0, 0, 0), (65, .aload_n 1, 66, 1, 0, 0, 0, 0), (66, .aload_n 0, 67, 0, 0, 0, 0, 0), (67, .getfield 18, 70, 0, 2, 1, 0, 184), (70, .iload_n 3, 71, 3, 0, 0, 0, 0), (71, .iaload, 72, 0, 0, 0, 0, 0), (72, .iload_n 3, 73, 3, 0, 0, 0, 0), (73, .invokestatic 43, 76, 3, 3, 0, 0, 401), (76, .iadd, 77, 0, 0, 0, 0, 0), (77, .istore_n 2, 78, 2, 0, 0, 0, 0), (78, .iinc 3 1, 81, 3, 0, 0, 1, 0), (81, .goto (-23), 84, 58, 0, 0, 0, 0)]),
  (85, [(84, .iload_n 2, 85, 2, 0, 0, 0, 0), (85, .ireturn, 86, 0, 0, 0, 0, 0)])]
def tX0_gain : CT := [(14, [(0, .aload_n 0, 1, 0, 0, 0, 0, 0), (1, .iload_n 1, 2, 1, 0, 0, 0, 0), (2, .iconst 1, 3, 0, 0, 0, 1, 0), (3, .isub, 4, 0, 0, 0, 0, 0), (4, .iload_n 2, 5, 2, 0, 0, 0, 0), (5, .iconst 1, 6, 0, 0, 0, 1, 0), (6, .isub, 7, 0, 0, 0, 0, 0), (7, .invokevirtual 47, 10, 23, 3, 4, 0, 404), (10, .iconst 0, 11, 0, 0, 0, 0, 0), (11, .invokestatic 50, 14, 0, 2, 1, 0, 405), (14, .ireturn, 15, 0, 0, 0, 0, 0)])]
def tX0_place : CT := [(18, [(0, .aload_n 0, 1, 0, 0, 0, 0, 0), (1, .getfield 24, 4, 0, 4, 1, 0, 186), (4, .ldc 55, 6, 0, 0, 0, 1000000000, 395), (6, .invokestatic 27, 9, 80, 2, 0, 0, 382), (9, .aload_n 0, 10, 0, 0, 0, 0, 0), (10, .getfield 18, 13, 0, 2, 1, 0, 184), (13, .iconst 0, 14, 0, 0, 0, 0, 0), (14, .iload_n 2, 15, 2, 0, 0, 0, 0), (15, .iastore, 16, 0, 0, 0, 0, 0), (16, .aload_n 0, 17, 0, 0, 0, 0, 0), (17, .iconst 0, 18, 0, 0, 0, 0, 0), (18, .putfield 56, 21, 0, 5, 0, 0, 187)]),
  (39, [(21, .iconst 0, 22, 0, 0, 0, 0, 0), (22, .istore_n 3, 23, 3, 0, 0, 0, 0), (23, .iconst 0, 24, 0, 0, 0, 0, 0), (24, .istore 4, 26, 4, 0, 0, 0, 0), (26, .iload 4, 28, 4, 0, 0, 0, 0), (28, .bipush 12, 30, 0, 0, 0, 12, 0), (30, .if_icmp .ge 69, 33, 99, 0, 0, 0, 0), (33, .aload_n 0, 34, 0, 0, 0, 0, 0), (34, .dup, 35, 0, 0, 0, 0, 0), (35, .getfield 56, 38, 0, 5, 0, 0, 187), (38, .iconst 1, 39, 0, 0, 0, 1, 0), (39, .iload_n 3, 40, 3, 0, 0, 0, 0)]),
  (57, [(40, .ishl, 41, 0, 0, 0, 0, 0), (41, .ior, 42, 0, 0, 0, 0, 0), (42, .putfield 56, 45, 0, 5, 0, 0, 187), (45, .aload_n 0, 46, 0, 0, 0, 0, 0), (46, .aload_n 1, 47, 1, 0, 0, 0, 0), (47, .iload_n 3, 48, 3, 0, 0, 0, 0), (48, .invokevirtual 60, 51, 5, 3, 0, 0, 396), (51, .aload_n 0, 52, 0, 0, 0, 0, 0), (52, .invokevirtual 63, 55, 6, 1, 0, 0, 410), (55, .istore_n 3, 56, 3, 0, 0, 0, 0), (56, .iload_n 3, 57, 3, 0, 0, 0, 0), (57, .iconst 1, 58, 0, 0, 0, 1, 0)]),
  (78, [(58, .if_icmp .lt 9, 61, 67, 0, 0, 0, 0), (61, .iload_n 3, 62, 3, 0, 0, 0, 0), (62, .bipush 12, 64, 0, 0, 0, 12, 0), (64, .if_icmp .le 4, 67, 68, 0, 0, 0, 0), (67, .return_, 68, 0, 0, 0, 0, 0), (68, .aload_n 0, 69, 0, 0, 0, 0, 0), (69, .aload_n 0, 70, 0, 0, 0, 0, 0), (70, .getfield 24, 73, 0, 4, 1, 0, 186), (73, .iload_n 3, 74, 3, 0, 0, 0, 0), (74, .iaload, 75, 0, 0, 0, 0, 0), (75, .invokevirtual 67, 78, 7, 2, 0, 0, 414), (78, .aload_n 0, 79, 0, 0, 0, 0, 0)]),
  (99, [(79, .getfield 18, 82, 0, 2, 1, 0, 184), (82, .iload_n 3, 83, 3, 0, 0, 0, 0), (83, .iaload, 84, 0, 0, 0, 0, 0), (84, .ifCond .ne 9, 87, 93, 0, 0, 0, 0), (87, .aload_n 0, 88, 0, 0, 0, 0, 0), (88, .iload_n 3, 89, 3, 0, 0, 0, 0), (89, .invokevirtual 71, 92, 8, 2, 0, 0, 418), (92, .return_, 93, 0, 0, 0, 0, 0), (93, .iinc 4 1, 96, 4, 0, 0, 1, 0), (96, .goto (-70), 99, 26, 0, 0, 0, 0), (99, .return_, 100, 0, 0, 0, 0, 0)])]
def tX0_relax : CT := [(18, [(0, .aload_n 0, 1, 0, 0, 0, 0, 0), (1, .getfield 18, 4, 0, 2, 1, 0, 184), (4, .iload_n 2, 5, 2, 0, 0, 0, 0), (5, .iaload, 6, 0, 0, 0, 0, 0), (6, .istore_n 3, 7, 3, 0, 0, 0, 0), (7, .iload_n 3, 8, 3, 0, 0, 0, 0), (8, .iconst 1, 9, 0, 0, 0, 1, 0), (9, .bipush 10, 11, 0, 0, 0, 10, 0), (11, .invokestatic 74, 14, 76, 3, 2, 0, 0), (14, .ifCond .eq 4, 17, 18, 0, 0, 0, 0), (17, .return_, 18, 0, 0, 0, 0, 0), (18, .iconst 1, 19, 0, 0, 0, 1, 0)]),
  (40, [(19, .istore 4, 21, 4, 0, 0, 0, 0), (21, .iload 4, 23, 4, 0, 0, 0, 0), (23, .bipush 12, 25, 0, 0, 0, 12, 0), (25, .if_icmp .gt 72, 28, 97, 0, 0, 0, 0), (28, .aload_n 1, 29, 1, 0, 0, 0, 0), (29, .iload_n 3, 30, 3, 0, 0, 0, 0), (30, .iload 4, 32, 4, 0, 0, 0, 0), (32, .invokestatic 43, 35, 3, 3, 0, 0, 401), (35, .ineg, 36, 0, 0, 0, 0, 0), (36, .aload_n 0, 37, 0, 0, 0, 0, 0), (37, .getfield 9, 40, 0, 0, 1, 0, 182), (40, .iload_n 3, 41, 3, 0, 0, 0, 0)]),
  (59, [(41, .iaload, 42, 0, 0, 0, 0, 0), (42, .isub, 43, 0, 0, 0, 0, 0), (43, .aload_n 0, 44, 0, 0, 0, 0, 0), (44, .getfield 15, 47, 0, 1, 1, 0, 183), (47, .iload 4, 49, 4, 0, 0, 0, 0), (49, .iaload, 50, 0, 0, 0, 0, 0), (50, .isub, 51, 0, 0, 0, 0, 0), (51, .istore 5, 53, 5, 0, 0, 0, 0), (53, .aload_n 0, 54, 0, 0, 0, 0, 0), (54, .iload 4, 56, 4, 0, 0, 0, 0), (56, .invokevirtual 78, 59, 9, 2, 0, 0, 406), (59, .ifCond .ne 32, 62, 91, 0, 0, 0, 0)]),
  (83, [(62, .iload 5, 64, 5, 0, 0, 0, 0), (64, .aload_n 0, 65, 0, 0, 0, 0, 0), (65, .getfield 24, 68, 0, 4, 1, 0, 186), (68, .iload 4, 70, 4, 0, 0, 0, 0), (70, .iaload, 71, 0, 0, 0, 0, 0), (71, .if_icmp .ge 20, 74, 91, 0, 0, 0, 0), (74, .aload_n 0, 75, 0, 0, 0, 0, 0), (75, .getfield 24, 78, 0, 4, 1, 0, 186), (78, .iload 4, 80, 4, 0, 0, 0, 0), (80, .iload 5, 82, 5, 0, 0, 0, 0), (82, .iastore, 83, 0, 0, 0, 0, 0), (83, .aload_n 0, 84, 0, 0, 0, 0, 0)]),
  (97, [(84, .getfield 21, 87, 0, 3, 1, 0, 185), (87, .iload 4, 89, 4, 0, 0, 0, 0), (89, .iload_n 2, 90, 2, 0, 0, 0, 0), (90, .iastore, 91, 0, 0, 0, 0, 0), (91, .iinc 4 1, 94, 4, 0, 0, 1, 0), (94, .goto (-73), 97, 21, 0, 0, 0, 0), (97, .return_, 98, 0, 0, 0, 0, 0)])]
def tX0_nearest : CT := [(18, [(0, .iconst 0, 1, 0, 0, 0, 0, 0), (1, .istore_n 1, 2, 1, 0, 0, 0, 0), (2, .iconst 1, 3, 0, 0, 0, 1, 0), (3, .istore_n 2, 4, 2, 0, 0, 0, 0), (4, .iload_n 2, 5, 2, 0, 0, 0, 0), (5, .bipush 12, 7, 0, 0, 0, 12, 0), (7, .if_icmp .gt 38, 10, 45, 0, 0, 0, 0), (10, .aload_n 0, 11, 0, 0, 0, 0, 0), (11, .iload_n 2, 12, 2, 0, 0, 0, 0), (12, .invokevirtual 78, 15, 9, 2, 0, 0, 406), (15, .ifCond .ne 24, 18, 39, 0, 0, 0, 0), (18, .iload_n 1, 19, 1, 0, 0, 0, 0)]),
  (38, [(19, .ifCond .eq 18, 22, 37, 0, 0, 0, 0), (22, .aload_n 0, 23, 0, 0, 0, 0, 0), (23, .getfield 24, 26, 0, 4, 1, 0, 186), (26, .iload_n 2, 27, 2, 0, 0, 0, 0), (27, .iaload, 28, 0, 0, 0, 0, 0), (28, .aload_n 0, 29, 0, 0, 0, 0, 0), (29, .getfield 24, 32, 0, 4, 1, 0, 186), (32, .iload_n 1, 33, 1, 0, 0, 0, 0), (33, .iaload, 34, 0, 0, 0, 0, 0), (34, .if_icmp .ge 5, 37, 39, 0, 0, 0, 0), (37, .iload_n 2, 38, 2, 0, 0, 0, 0), (38, .istore_n 1, 39, 1, 0, 0, 0, 0)]),
  (46, [(39, .iinc 2 1, 42, 2, 0, 0, 1, 0), (42, .goto (-38), 45, 4, 0, 0, 0, 0), (45, .iload_n 1, 46, 1, 0, 0, 0, 0), (46, .ireturn, 47, 0, 0, 0, 0, 0)])]
def tX0_shiftPrices : CT := [(16, [(0, .iconst 0, 1, 0, 0, 0, 0, 0), (1, .istore_n 2, 2, 2, 0, 0, 0, 0), (2, .iload_n 2, 3, 2, 0, 0, 0, 0), (3, .bipush 12, 5, 0, 0, 0, 12, 0), (5, .if_icmp .gt 67, 8, 72, 0, 0, 0, 0), (8, .aload_n 0, 9, 0, 0, 0, 0, 0), (9, .getfield 18, 12, 0, 2, 1, 0, 184), (12, .iload_n 2, 13, 2, 0, 0, 0, 0), (13, .iaload, 14, 0, 0, 0, 0, 0), (14, .istore_n 3, 15, 3, 0, 0, 0, 0), (15, .aload_n 0, 16, 0, 0, 0, 0, 0), (16, .iload_n 2, 17, 2, 0, 0, 0, 0)]),
  (36, [(17, .invokevirtual 78, 20, 9, 2, 0, 0, 406), (20, .ifCond .ne 16, 23, 36, 0, 0, 0, 0), (23, .aload_n 0, 24, 0, 0, 0, 0, 0), (24, .getfield 24, 27, 0, 4, 1, 0, 186), (27, .iload_n 2, 28, 2, 0, 0, 0, 0), (28, .dup2, 29, 0, 0, 0, 0, 0), (29, .iaload, 30, 0, 0, 0, 0, 0), (30, .iload_n 1, 31, 1, 0, 0, 0, 0), (31, .isub, 32, 0, 0, 0, 0, 0), (32, .iastore, 33, 0, 0, 0, 0, 0), (33, .goto 33, 36, 66, 0, 0, 0, 0), (36, .iload_n 3, 37, 3, 0, 0, 0, 0)]),
  (55, [(37, .iconst 0, 38, 0, 0, 0, 0, 0), (38, .bipush 10, 40, 0, 0, 0, 10, 0), (40, .invokestatic 74, 43, 76, 3, 2, 0, 0), (43, .ifCond .ne 23, 46, 66, 0, 0, 0, 0), (46, .aload_n 0, 47, 0, 0, 0, 0, 0), (47, .getfield 9, 50, 0, 0, 1, 0, 182), (50, .iload_n 3, 51, 3, 0, 0, 0, 0), (51, .dup2, 52, 0, 0, 0, 0, 0), (52, .iaload, 53, 0, 0, 0, 0, 0), (53, .iload_n 1, 54, 1, 0, 0, 0, 0), (54, .iadd, 55, 0, 0, 0, 0, 0), (55, .iastore, 56, 0, 0, 0, 0, 0)]),
  (72, [(56, .aload_n 0, 57, 0, 0, 0, 0, 0), (57, .getfield 15, 60, 0, 1, 1, 0, 183), (60, .iload_n 2, 61, 2, 0, 0, 0, 0), (61, .dup2, 62, 0, 0, 0, 0, 0), (62, .iaload, 63, 0, 0, 0, 0, 0), (63, .iload_n 1, 64, 1, 0, 0, 0, 0), (64, .isub, 65, 0, 0, 0, 0, 0), (65, .iastore, 66, 0, 0, 0, 0, 0), (66, .iinc 2 1, 69, 2, 0, 0, 1, 0), (69, .goto (-67), 72, 2, 0, 0, 0, 0), (72, .return_, 73, 0, 0, 0, 0, 0)])]
def tX0_handOn : CT := [(17, [(0, .iload_n 1, 1, 1, 0, 0, 0, 0), (1, .istore_n 2, 2, 2, 0, 0, 0, 0), (2, .iconst 0, 3, 0, 0, 0, 0, 0), (3, .istore_n 3, 4, 3, 0, 0, 0, 0), (4, .iload_n 3, 5, 3, 0, 0, 0, 0), (5, .bipush 12, 7, 0, 0, 0, 12, 0), (7, .if_icmp .gt 55, 10, 62, 0, 0, 0, 0), (10, .iload_n 2, 11, 2, 0, 0, 0, 0), (11, .ifCond .le 51, 14, 62, 0, 0, 0, 0), (14, .iload_n 2, 15, 2, 0, 0, 0, 0), (15, .bipush 12, 17, 0, 0, 0, 12, 0), (17, .if_icmp .gt 45, 20, 62, 0, 0, 0, 0)]),
  (40, [(20, .aload_n 0, 21, 0, 0, 0, 0, 0), (21, .getfield 21, 24, 0, 3, 1, 0, 185), (24, .iload_n 2, 25, 2, 0, 0, 0, 0), (25, .iaload, 26, 0, 0, 0, 0, 0), (26, .istore 4, 28, 4, 0, 0, 0, 0), (28, .iload 4, 30, 4, 0, 0, 0, 0), (30, .iconst 0, 31, 0, 0, 0, 0, 0), (31, .bipush 12, 33, 0, 0, 0, 12, 0), (33, .invokestatic 74, 36, 76, 3, 2, 0, 0), (36, .ifCond .eq 4, 39, 40, 0, 0, 0, 0), (39, .return_, 40, 0, 0, 0, 0, 0), (40, .aload_n 0, 41, 0, 0, 0, 0, 0)]),
  (62, [(41, .getfield 18, 44, 0, 2, 1, 0, 184), (44, .iload_n 2, 45, 2, 0, 0, 0, 0), (45, .aload_n 0, 46, 0, 0, 0, 0, 0), (46, .getfield 18, 49, 0, 2, 1, 0, 184), (49, .iload 4, 51, 4, 0, 0, 0, 0), (51, .iaload, 52, 0, 0, 0, 0, 0), (52, .iastore, 53, 0, 0, 0, 0, 0), (53, .iload 4, 55, 4, 0, 0, 0, 0), (55, .istore_n 2, 56, 2, 0, 0, 0, 0), (56, .iinc 3 1, 59, 3, 0, 0, 1, 0), (59, .goto (-55), 62, 4, 0, 0, 0, 0), (62, .return_, 63, 0, 0, 0, 0, 0)])]
def tX0_isReached : CT := [(17, [(0, .aload_n 0, 1, 0, 0, 0, 0, 0), (1, .getfield 56, 4, 0, 5, 0, 0, 187), (4, .iload_n 1, 5, 1, 0, 0, 0, 0), (5, .ishr, 6, 0, 0, 0, 0, 0), (6, .iconst 1, 7, 0, 0, 0, 1, 0), (7, .iand, 8, 0, 0, 0, 0, 0), (8, .iconst 1, 9, 0, 0, 0, 1, 0), (9, .if_icmp .ne 7, 12, 16, 0, 0, 0, 0), (12, .iconst 1, 13, 0, 0, 0, 1, 0), (13, .goto 4, 16, 17, 0, 0, 0, 0), (16, .iconst 0, 17, 0, 0, 0, 0, 0), (17, .ireturn, 18, 0, 0, 1, 0, 0)])]
def tX1_init : CT := [(12, [(0, .aload_n 0, 1, 0, 0, 0, 0, 0), (1, .invokespecial 3, 4, 0, 1, 0, 0, 137), (4, .aload_n 0, 5, 0, 0, 0, 0, 0), (5, .bipush 80, 7, 0, 0, 0, 80, 0), (7, .newarray .int, 9, 0, 0, 0, 0, 64), (9, .putfield 9, 12, 1, 0, 1, 0, 138), (12, .return_, 13, 0, 0, 0, 0, 0)])]
def tX2_init : CT := [(20, [(0, .aload_n 0, 1, 0, 0, 0, 0, 0), (1, .invokespecial 3, 4, 0, 1, 0, 0, 118), (4, .aload_n 0, 5, 0, 0, 0, 0, 0), (5, .bipush 6, 7, 0, 0, 0, 6, 0), (7, .anewarray 9, 10, 0, 0, 0, 0, 119), (10, .putfield 11, 13, 2, 0, 1, 0, 122), (13, .iconst 0, 14, 0, 0, 0, 0, 0), (14, .istore_n 1, 15, 1, 0, 0, 0, 0), (15, .iload_n 1, 16, 1, 0, 0, 0, 0), (16, .aload_n 0, 17, 0, 0, 0, 0, 0), (17, .getfield 11, 20, 2, 0, 1, 0, 122), (20, .arraylength, 21, 0, 0, 0, 0, 0)]),
  (43, [(21, .if_icmp .ge 22, 24, 43, 0, 0, 0, 0), (24, .aload_n 0, 25, 0, 0, 0, 0, 0), (25, .getfield 11, 28, 2, 0, 1, 0, 122), (28, .iload_n 1, 29, 1, 0, 0, 0, 0), (29, .new 9, 32, 3, 11, 33, 12, 119), (32, .dup, 33, 0, 0, 0, 0, 0), (33, .invokespecial 17, 36, 15, 1, 0, 0, 121), (36, .aastore, 37, 0, 0, 0, 0, 0), (37, .iinc 1 1, 40, 1, 0, 0, 1, 0), (40, .goto (-25), 43, 15, 0, 0, 0, 0), (43, .return_, 44, 0, 0, 0, 0, 0)])]
def tX2_saved : CT := [(4, [(0, .aload_n 0, 1, 0, 0, 0, 0, 0), (1, .getfield 18, 4, 2, 2, 0, 0, 124), (4, .ireturn, 5, 0, 0, 0, 0, 0)])]
def tX2_save : CT := [(23, [(0, .aload_n 0, 1, 0, 0, 0, 0, 0), (1, .getfield 22, 4, 2, 1, 0, 0, 123), (4, .ifCond .lt 27, 7, 31, 0, 0, 0, 0), (7, .aload_n 0, 8, 0, 0, 0, 0, 0), (8, .getfield 22, 11, 2, 1, 0, 0, 123), (11, .aload_n 0, 12, 0, 0, 0, 0, 0), (12, .getfield 11, 15, 2, 0, 1, 0, 122), (15, .arraylength, 16, 0, 0, 0, 0, 0), (16, .if_icmp .ge 15, 19, 31, 0, 0, 0, 0), (19, .aload_n 0, 20, 0, 0, 0, 0, 0), (20, .getfield 11, 23, 2, 0, 1, 0, 122), (23, .aload_n 0, 24, 0, 0, 0, 0, 0)]),
  (45, [(24, .getfield 22, 27, 2, 1, 0, 0, 123), (27, .aaload, 28, 0, 0, 0, 0, 0), (28, .ifnonnull 4, 31, 32, 0, 0, 0, 0), (31, .return_, 32, 0, 0, 0, 0, 0), (32, .aload_n 0, 33, 0, 0, 0, 0, 0), (33, .getfield 11, 36, 2, 0, 1, 0, 122), (36, .aload_n 0, 37, 0, 0, 0, 0, 0), (37, .getfield 22, 40, 2, 1, 0, 0, 123), (40, .aaload, 41, 0, 0, 0, 0, 0), (41, .aload_n 1, 42, 1, 0, 0, 0, 0), (42, .invokevirtual 25, 45, 20, 2, 3, 0, 442), (45, .aload_n 0, 46, 0, 0, 0, 0, 0)]),
  (65, [(46, .aload_n 0, 47, 0, 0, 0, 0, 0), (47, .getfield 22, 50, 2, 1, 0, 0, 123), (50, .iconst 1, 51, 0, 0, 0, 1, 0), (51, .iadd, 52, 0, 0, 0, 0, 0), (52, .aload_n 0, 53, 0, 0, 0, 0, 0), (53, .getfield 11, 56, 2, 0, 1, 0, 122), (56, .arraylength, 57, 0, 0, 0, 0, 0), (57, .if_icmp .ne 7, 60, 64, 0, 0, 0, 0), (60, .iconst 0, 61, 0, 0, 0, 0, 0), (61, .goto 9, 64, 70, 0, 0, 0, 0), (64, .aload_n 0, 65, 0, 0, 0, 0, 0), (65, .getfield 22, 68, 2, 1, 0, 0, 123)]),
  (88, [(68, .iconst 1, 69, 0, 0, 0, 1, 0), (69, .iadd, 70, 0, 0, 0, 0, 0), (70, .putfield 22, 73, 2, 1, 0, 0, 123), (73, .aload_n 0, 74, 0, 0, 0, 0, 0), (74, .aload_n 0, 75, 0, 0, 0, 0, 0), (75, .getfield 18, 78, 2, 2, 0, 0, 124), (78, .iconst 1, 79, 0, 0, 0, 1, 0), (79, .iadd, 80, 0, 0, 0, 0, 0), (80, .bipush 6, 82, 0, 0, 0, 6, 0), (82, .invokestatic 29, 85, 0, 2, 2, 0, 456), (85, .putfield 18, 88, 2, 2, 0, 0, 124), (88, .return_, 89, 0, 0, 0, 0, 0)])]
def tX2_restore : CT := [(21, [(0, .aload_n 0, 1, 0, 0, 0, 0, 0), (1, .getfield 22, 4, 2, 1, 0, 0, 123), (4, .ifCond .ne 13, 7, 17, 0, 0, 0, 0), (7, .aload_n 0, 8, 0, 0, 0, 0, 0), (8, .getfield 11, 11, 2, 0, 1, 0, 122), (11, .arraylength, 12, 0, 0, 0, 0, 0), (12, .iconst 1, 13, 0, 0, 0, 1, 0), (13, .isub, 14, 0, 0, 0, 0, 0), (14, .goto 9, 17, 23, 0, 0, 0, 0), (17, .aload_n 0, 18, 0, 0, 0, 0, 0), (18, .getfield 22, 21, 2, 1, 0, 0, 123), (21, .iconst 1, 22, 0, 0, 0, 1, 0)]),
  (41, [(22, .isub, 23, 0, 0, 0, 0, 0), (23, .istore_n 2, 24, 2, 0, 0, 0, 0), (24, .aload_n 0, 25, 0, 0, 0, 0, 0), (25, .getfield 18, 28, 2, 2, 0, 0, 124), (28, .ifCond .eq 25, 31, 53, 0, 0, 0, 0), (31, .iload_n 2, 32, 2, 0, 0, 0, 0), (32, .ifCond .lt 21, 35, 53, 0, 0, 0, 0), (35, .iload_n 2, 36, 2, 0, 0, 0, 0), (36, .aload_n 0, 37, 0, 0, 0, 0, 0), (37, .getfield 11, 40, 2, 0, 1, 0, 122), (40, .arraylength, 41, 0, 0, 0, 0, 0), (41, .if_icmp .ge 12, 44, 53, 0, 0, 0, 0)]),
  (61, [(44, .aload_n 0, 45, 0, 0, 0, 0, 0), (45, .getfield 11, 48, 2, 0, 1, 0, 122), (48, .iload_n 2, 49, 2, 0, 0, 0, 0), (49, .aaload, 50, 0, 0, 0, 0, 0), (50, .ifnonnull 4, 53, 54, 0, 0, 0, 0), (53, .return_, 54, 0, 0, 0, 0, 0), (54, .aload_n 1, 55, 1, 0, 0, 0, 0), (55, .aload_n 0, 56, 0, 0, 0, 0, 0), (56, .getfield 11, 59, 2, 0, 1, 0, 122), (59, .iload_n 2, 60, 2, 0, 0, 0, 0), (60, .aaload, 61, 0, 0, 0, 0, 0), (61, .invokevirtual 25, 64, 20, 2, 3, 0, 442)]),
  (79, [(64, .aload_n 0, 65, 0, 0, 0, 0, 0), (65, .iload_n 2, 66, 2, 0, 0, 0, 0), (66, .putfield 22, 69, 2, 1, 0, 0, 123), (69, .aload_n 0, 70, 0, 0, 0, 0, 0), (70, .dup, 71, 0, 0, 0, 0, 0), (71, .getfield 18, 74, 2, 2, 0, 0, 124), (74, .iconst 1, 75, 0, 0, 0, 1, 0), (75, .isub, 76, 0, 0, 0, 0, 0), (76, .putfield 18, 79, 2, 2, 0, 0, 124), (79, .return_, 80, 0, 0, 0, 0, 0)])]
def tX3_init : CT := [(23, [(0, .aload_n 0, 1, 0, 0, 0, 0, 0), (1, .invokespecial 3, 4, 0, 1, 0, 0, 37), (4, .aload_n 0, 5, 0, 0, 0, 0, 0), (5, .new 9, 8, 6, 5, 39, 13, 38), (8, .dup, 9, 0, 0, 0, 0, 0), (9, .bipush 12, 11, 0, 0, 0, 12, 0), (11, .bipush 8, 13, 0, 0, 0, 8, 0), (13, .invokespecial 11, 16, 36, 3, 0, 0, 40), (16, .putfield 14, 19, 3, 0, 1, 0, 65), (19, .aload_n 0, 20, 0, 0, 0, 0, 0), (20, .new 9, 23, 6, 5, 39, 13, 38), (23, .dup, 24, 0, 0, 0, 0, 0)]),
  (44, [(24, .bipush 10, 26, 0, 0, 0, 10, 0), (26, .bipush 9, 28, 0, 0, 0, 9, 0), (28, .invokespecial 11, 31, 36, 3, 0, 0, 40), (31, .putfield 20, 34, 3, 1, 1, 0, 68), (34, .aload_n 0, 35, 0, 0, 0, 0, 0), (35, .bipush 6, 37, 0, 0, 0, 6, 0), (37, .newarray .int, 39, 0, 0, 0, 0, 64), (39, .dup, 40, 0, 0, 0, 0, 0), (40, .iconst 0, 41, 0, 0, 0, 0, 0), (41, .bipush 8, 43, 0, 0, 0, 8, 0), (43, .iastore, 44, 0, 0, 0, 0, 0), (44, .dup, 45, 0, 0, 0, 0, 0)]),
  (58, [(45, .iconst 1, 46, 0, 0, 0, 1, 0), (46, .bipush 10, 48, 0, 0, 0, 10, 0), (48, .iastore, 49, 0, 0, 0, 0, 0), (49, .dup, 50, 0, 0, 0, 0, 0), (50, .iconst 2, 51, 0, 0, 0, 2, 0), (51, .bipush 12, 53, 0, 0, 0, 12, 0), (53, .iastore, 54, 0, 0, 0, 0, 0), (54, .dup, 55, 0, 0, 0, 0, 0), (55, .iconst 3, 56, 0, 0, 0, 3, 0), (56, .iconst 5, 57, 0, 0, 0, 5, 0), (57, .iastore, 58, 0, 0, 0, 0, 0), (58, .dup, 59, 0, 0, 0, 0, 0)]),
  (76, [(59, .iconst 4, 60, 0, 0, 0, 4, 0), (60, .bipush 15, 62, 0, 0, 0, 15, 0), (62, .iastore, 63, 0, 0, 0, 0, 0), (63, .dup, 64, 0, 0, 0, 0, 0), (64, .iconst 5, 65, 0, 0, 0, 5, 0), (65, .iconst 1, 66, 0, 0, 0, 1, 0), (66, .iastore, 67, 0, 0, 0, 0, 0), (67, .putfield 23, 70, 3, 2, 1, 0, 72), (70, .aload_n 0, 71, 0, 0, 0, 0, 0), (71, .bipush 40, 73, 0, 0, 0, 40, 0), (73, .putfield 27, 76, 3, 4, 0, 0, 77), (76, .aload_n 0, 77, 0, 0, 0, 0, 0)]),
  (89, [(77, .bipush 30, 79, 0, 0, 0, 30, 0), (79, .putfield 31, 82, 3, 5, 0, 0, 80), (82, .aload_n 0, 83, 0, 0, 0, 0, 0), (83, .sipush 2000, 86, 0, 0, 0, 2000, 0), (86, .putfield 34, 89, 3, 6, 0, 0, 81), (89, .return_, 90, 0, 0, 0, 0, 0)])]
def tX3_addBag : CT := [(21, [(0, .aload_n 0, 1, 0, 0, 0, 0, 0), (1, .getfield 14, 4, 3, 0, 1, 0, 65), (4, .invokevirtual 37, 7, 47, 1, 6, 0, 504), (7, .istore 7, 9, 7, 0, 0, 0, 0), (9, .aload_n 0, 10, 0, 0, 0, 0, 0), (10, .getfield 14, 13, 3, 0, 1, 0, 65), (13, .iload 7, 15, 7, 0, 0, 0, 0), (15, .iconst 0, 16, 0, 0, 0, 0, 0), (16, .iload_n 1, 17, 1, 0, 0, 0, 0), (17, .invokevirtual 41, 20, 42, 4, 6, 0, 510), (20, .aload_n 0, 21, 0, 0, 0, 0, 0), (21, .getfield 14, 24, 3, 0, 1, 0, 65)]),
  (43, [(24, .iload 7, 26, 7, 0, 0, 0, 0), (26, .iconst 1, 27, 0, 0, 0, 1, 0), (27, .iload_n 2, 28, 2, 0, 0, 0, 0), (28, .iload_n 3, 29, 3, 0, 0, 0, 0), (29, .invokestatic 45, 32, 52, 2, 0, 0, 511), (32, .invokevirtual 41, 35, 42, 4, 6, 0, 510), (35, .aload_n 0, 36, 0, 0, 0, 0, 0), (36, .getfield 14, 39, 3, 0, 1, 0, 65), (39, .iload 7, 41, 7, 0, 0, 0, 0), (41, .iconst 2, 42, 0, 0, 0, 2, 0), (42, .iload_n 3, 43, 3, 0, 0, 0, 0), (43, .invokevirtual 41, 46, 42, 4, 6, 0, 510)]),
  (67, [(46, .aload_n 0, 47, 0, 0, 0, 0, 0), (47, .getfield 14, 50, 3, 0, 1, 0, 65), (50, .iload 7, 52, 7, 0, 0, 0, 0), (52, .iconst 3, 53, 0, 0, 0, 3, 0), (53, .iload 4, 55, 4, 0, 0, 0, 0), (55, .invokevirtual 41, 58, 42, 4, 6, 0, 510), (58, .aload_n 0, 59, 0, 0, 0, 0, 0), (59, .getfield 14, 62, 3, 0, 1, 0, 65), (62, .iload 7, 64, 7, 0, 0, 0, 0), (64, .iconst 4, 65, 0, 0, 0, 4, 0), (65, .iload 5, 67, 5, 0, 0, 0, 0), (67, .invokevirtual 41, 70, 42, 4, 6, 0, 510)]),
  (91, [(70, .aload_n 0, 71, 0, 0, 0, 0, 0), (71, .getfield 14, 74, 3, 0, 1, 0, 65), (74, .iload 7, 76, 7, 0, 0, 0, 0), (76, .iconst 5, 77, 0, 0, 0, 5, 0), (77, .iload 6, 79, 6, 0, 0, 0, 0), (79, .invokevirtual 41, 82, 42, 4, 6, 0, 510), (82, .aload_n 0, 83, 0, 0, 0, 0, 0), (83, .getfield 14, 86, 3, 0, 1, 0, 65), (86, .iload 7, 88, 7, 0, 0, 0, 0), (88, .bipush 6, 90, 0, 0, 0, 6, 0), (90, .aload_n 0, 91, 0, 0, 0, 0, 0), (91, .getfield 51, 94, 3, 3, 0, 0, 75)]),
  (106, [(94, .invokevirtual 41, 97, 42, 4, 6, 0, 510), (97, .aload_n 0, 98, 0, 0, 0, 0, 0), (98, .getfield 14, 101, 3, 0, 1, 0, 65), (101, .iload 7, 103, 7, 0, 0, 0, 0), (103, .invokevirtual 54, 106, 40, 2, 6, 0, 461), (106, .ireturn, 107, 0, 0, 0, 0, 0)])]
def tX3_join : CT := [(21, [(0, .aload_n 0, 1, 0, 0, 0, 0, 0), (1, .getfield 20, 4, 3, 1, 1, 0, 68), (4, .iload_n 1, 5, 1, 0, 0, 0, 0), (5, .aload_n 0, 6, 0, 0, 0, 0, 0), (6, .getfield 14, 9, 3, 0, 1, 0, 65), (9, .iload_n 2, 10, 2, 0, 0, 0, 0), (10, .invokevirtual 54, 13, 40, 2, 6, 0, 461), (13, .invokevirtual 58, 16, 44, 3, 6, 0, 462), (16, .aload_n 0, 17, 0, 0, 0, 0, 0), (17, .getfield 14, 20, 3, 0, 1, 0, 65), (20, .iload_n 2, 21, 2, 0, 0, 0, 0), (21, .aload_n 0, 22, 0, 0, 0, 0, 0)]),
  (32, [(22, .getfield 20, 25, 3, 1, 1, 0, 68), (25, .iload_n 1, 26, 1, 0, 0, 0, 0), (26, .invokevirtual 54, 29, 40, 2, 6, 0, 461), (29, .invokevirtual 58, 32, 44, 3, 6, 0, 462), (32, .return_, 33, 0, 0, 0, 0, 0)])]
def tX3_payForDelivery : CT := [(19, [(0, .iload_n 2, 1, 2, 0, 0, 0, 0), (1, .aload_n 0, 2, 0, 0, 0, 0, 0), (2, .getfield 20, 5, 3, 1, 1, 0, 68), (5, .iload_n 1, 6, 1, 0, 0, 0, 0), (6, .bipush 7, 8, 0, 0, 0, 7, 0), (8, .invokevirtual 61, 11, 41, 3, 6, 0, 539), (11, .isub, 12, 0, 0, 0, 0, 0), (12, .bipush 10, 14, 0, 0, 0, 10, 0), (14, .invokestatic 64, 17, 0, 2, 2, 0, 454), (17, .istore_n 3, 18, 3, 0, 0, 0, 0), (18, .aload_n 0, 19, 0, 0, 0, 0, 0), (19, .getfield 31, 22, 3, 5, 0, 0, 80)]),
  (36, [(22, .iload_n 3, 23, 3, 0, 0, 0, 0), (23, .imul, 24, 0, 0, 0, 0, 0), (24, .aload_n 0, 25, 0, 0, 0, 0, 0), (25, .getfield 20, 28, 3, 1, 1, 0, 68), (28, .iload_n 1, 29, 1, 0, 0, 0, 0), (29, .iconst 5, 30, 0, 0, 0, 5, 0), (30, .invokevirtual 61, 33, 41, 3, 6, 0, 539), (33, .invokestatic 64, 36, 0, 2, 2, 0, 454), (36, .ireturn, 37, 0, 0, 0, 0, 0)])]
def tX3_payForGivingUp : CT := [(19, [(0, .bipush 10, 2, 0, 0, 0, 10, 0), (2, .aload_n 0, 3, 0, 0, 0, 0, 0), (3, .getfield 20, 6, 3, 1, 1, 0, 68), (6, .iload_n 1, 7, 1, 0, 0, 0, 0), (7, .bipush 6, 9, 0, 0, 0, 6, 0), (9, .invokevirtual 61, 12, 41, 3, 6, 0, 539), (12, .isub, 13, 0, 0, 0, 0, 0), (13, .iconst 2, 14, 0, 0, 0, 2, 0), (14, .invokestatic 69, 17, 0, 2, 1, 0, 544), (17, .istore_n 2, 18, 2, 0, 0, 0, 0), (18, .aload_n 0, 19, 0, 0, 0, 0, 0), (19, .getfield 20, 22, 3, 1, 1, 0, 68)]),
  (39, [(22, .iload_n 1, 23, 1, 0, 0, 0, 0), (23, .iconst 5, 24, 0, 0, 0, 5, 0), (24, .invokevirtual 61, 27, 41, 3, 6, 0, 539), (27, .iload_n 2, 28, 2, 0, 0, 0, 0), (28, .imul, 29, 0, 0, 0, 0, 0), (29, .bipush 10, 31, 0, 0, 0, 10, 0), (31, .idiv, 32, 0, 0, 0, 0, 0), (32, .aload_n 0, 33, 0, 0, 0, 0, 0), (33, .getfield 34, 36, 3, 6, 0, 0, 81), (36, .invokestatic 64, 39, 0, 2, 2, 0, 454), (39, .ireturn, 40, 0, 0, 0, 0, 0)])]
def tX3_copyFrom : CT := [(23, [(0, .aload_n 0, 1, 0, 0, 0, 0, 0), (1, .getfield 14, 4, 3, 0, 1, 0, 65), (4, .aload_n 1, 5, 1, 0, 0, 0, 0), (5, .getfield 14, 8, 3, 0, 1, 0, 65), (8, .invokevirtual 72, 11, 49, 2, 6, 0, 446), (11, .aload_n 0, 12, 0, 0, 0, 0, 0), (12, .getfield 20, 15, 3, 1, 1, 0, 68), (15, .aload_n 1, 16, 1, 0, 0, 0, 0), (16, .getfield 20, 19, 3, 1, 1, 0, 68), (19, .invokevirtual 72, 22, 49, 2, 6, 0, 446), (22, .aload_n 1, 23, 1, 0, 0, 0, 0), (23, .getfield 23, 26, 3, 2, 1, 0, 72)]),
  (45, [(26, .iconst 0, 27, 0, 0, 0, 0, 0), (27, .aload_n 0, 28, 0, 0, 0, 0, 0), (28, .getfield 23, 31, 3, 2, 1, 0, 72), (31, .iconst 0, 32, 0, 0, 0, 0, 0), (32, .aload_n 0, 33, 0, 0, 0, 0, 0), (33, .getfield 23, 36, 3, 2, 1, 0, 72), (36, .arraylength, 37, 0, 0, 0, 0, 0), (37, .aload_n 1, 38, 1, 0, 0, 0, 0), (38, .getfield 23, 41, 3, 2, 1, 0, 72), (41, .arraylength, 42, 0, 0, 0, 0, 0), (42, .invokestatic 64, 45, 0, 2, 2, 0, 454), (45, .invokestatic 76, 48, 0, 5, 0, 0, 455)]),
  (69, [(48, .aload_n 0, 49, 0, 0, 0, 0, 0), (49, .aload_n 1, 50, 1, 0, 0, 0, 0), (50, .getfield 51, 53, 3, 3, 0, 0, 75), (53, .putfield 51, 56, 3, 3, 0, 0, 75), (56, .aload_n 0, 57, 0, 0, 0, 0, 0), (57, .aload_n 1, 58, 1, 0, 0, 0, 0), (58, .getfield 27, 61, 3, 4, 0, 0, 77), (61, .putfield 27, 64, 3, 4, 0, 0, 77), (64, .aload_n 0, 65, 0, 0, 0, 0, 0), (65, .aload_n 1, 66, 1, 0, 0, 0, 0), (66, .getfield 31, 69, 3, 5, 0, 0, 80), (69, .putfield 31, 72, 3, 5, 0, 0, 80)]),
  (93, [(72, .aload_n 0, 73, 0, 0, 0, 0, 0), (73, .aload_n 1, 74, 1, 0, 0, 0, 0), (74, .getfield 34, 77, 3, 6, 0, 0, 81), (77, .putfield 34, 80, 3, 6, 0, 0, 81), (80, .aload_n 0, 81, 0, 0, 0, 0, 0), (81, .aload_n 1, 82, 1, 0, 0, 0, 0), (82, .getfield 82, 85, 3, 7, 0, 0, 82), (85, .putfield 82, 88, 3, 7, 0, 0, 82), (88, .aload_n 0, 89, 0, 0, 0, 0, 0), (89, .aload_n 1, 90, 1, 0, 0, 0, 0), (90, .getfield 85, 93, 3, 8, 0, 0, 84), (93, .putfield 85, 96, 3, 8, 0, 0, 84)]),
  (112, [(96, .aload_n 0, 97, 0, 0, 0, 0, 0), (97, .aload_n 1, 98, 1, 0, 0, 0, 0), (98, .getfield 88, 101, 3, 9, 0, 0, 86), (101, .putfield 88, 104, 3, 9, 0, 0, 86), (104, .aload_n 0, 105, 0, 0, 0, 0, 0), (105, .aload_n 1, 106, 1, 0, 0, 0, 0), (106, .getfield 91, 109, 3, 10, 0, 0, 88), (109, .putfield 91, 112, 3, 10, 0, 0, 88), (112, .return_, 113, 0, 0, 0, 0, 0)])]
def tX4_init : CT := [(12, [(0, .aload_n 0, 1, 0, 0, 0, 0, 0), (1, .invokespecial 3, 4, 0, 1, 0, 0, 163), (4, .aload_n 0, 5, 0, 0, 0, 0, 0), (5, .bipush 120, 7, 0, 0, 0, 120, 0), (7, .newarray .int, 9, 0, 0, 0, 0, 64), (9, .putfield 9, 12, 4, 0, 1, 0, 164), (12, .return_, 13, 0, 0, 0, 0, 0)])]
def tX4_fill : CT := [(19, [(0, .iconst 0, 1, 0, 0, 0, 0, 0), (1, .istore_n 3, 2, 3, 0, 0, 0, 0), (2, .iload_n 3, 3, 3, 0, 0, 0, 0), (3, .bipush 10, 5, 0, 0, 0, 10, 0), (5, .if_icmp .ge 64, 8, 69, 0, 0, 0, 0), (8, .aload_n 1, 9, 1, 0, 0, 0, 0), (9, .getfield 15, 12, 3, 1, 1, 0, 69), (12, .iload_n 3, 13, 3, 0, 0, 0, 0), (13, .invokevirtual 21, 16, 45, 2, 6, 0, 376), (16, .istore 4, 18, 4, 0, 0, 0, 0), (18, .iconst 0, 19, 0, 0, 0, 0, 0), (19, .istore 5, 21, 5, 0, 0, 0, 0)]),
  (41, [(21, .iload 5, 23, 5, 0, 0, 0, 0), (23, .bipush 12, 25, 0, 0, 0, 12, 0), (25, .if_icmp .ge 38, 28, 63, 0, 0, 0, 0), (28, .aload_n 0, 29, 0, 0, 0, 0, 0), (29, .getfield 9, 32, 4, 0, 1, 0, 164), (32, .iload_n 3, 33, 3, 0, 0, 0, 0), (33, .bipush 12, 35, 0, 0, 0, 12, 0), (35, .imul, 36, 0, 0, 0, 0, 0), (36, .iload 5, 38, 5, 0, 0, 0, 0), (38, .iadd, 39, 0, 0, 0, 0, 0), (39, .iload 4, 41, 4, 0, 0, 0, 0), (41, .ifCond .eq 14, 44, 55, 0, 0, 0, 0)]),
  (66, [(44, .aload_n 2, 45, 2, 0, 0, 0, 0), (45, .aload_n 1, 46, 1, 0, 0, 0, 0), (46, .iload_n 3, 47, 3, 0, 0, 0, 0), (47, .iload 5, 49, 5, 0, 0, 0, 0), (49, .invokevirtual 27, 52, 29, 4, 5, 0, 377), (52, .goto 4, 55, 56, 0, 0, 0, 0), (55, .iconst (-1), 56, 0, 0, 0, (-1), 0), (56, .iastore, 57, 0, 0, 0, 0, 0), (57, .iinc 5 1, 60, 5, 0, 0, 1, 0), (60, .goto (-39), 63, 21, 0, 0, 0, 0), (63, .iinc 3 1, 66, 3, 0, 0, 1, 0), (66, .goto (-64), 69, 2, 0, 0, 0, 0)]),
  (69, [(69, .return_, 70, 0, 0, 0, 0, 0)])]
def tX4_gain : CT := [(21, [(0, .iload_n 1, 1, 1, 0, 0, 0, 0), (1, .ifCond .lt 19, 4, 20, 0, 0, 0, 0), (4, .iload_n 1, 5, 1, 0, 0, 0, 0), (5, .bipush 10, 7, 0, 0, 0, 10, 0), (7, .if_icmp .ge 13, 10, 20, 0, 0, 0, 0), (10, .iload_n 2, 11, 2, 0, 0, 0, 0), (11, .ifCond .lt 9, 14, 20, 0, 0, 0, 0), (14, .iload_n 2, 15, 2, 0, 0, 0, 0), (15, .bipush 12, 17, 0, 0, 0, 12, 0), (17, .if_icmp .lt 5, 20, 22, 0, 0, 0, 0), (20, .iconst (-1), 21, 0, 0, 0, (-1), 0), (21, .ireturn, 22, 0, 0, 0, 0, 0)]),
  (33, [(22, .aload_n 0, 23, 0, 0, 0, 0, 0), (23, .getfield 9, 26, 4, 0, 1, 0, 164), (26, .iload_n 1, 27, 1, 0, 0, 0, 0), (27, .bipush 12, 29, 0, 0, 0, 12, 0), (29, .imul, 30, 0, 0, 0, 0, 0), (30, .iload_n 2, 31, 2, 0, 0, 0, 0), (31, .iadd, 32, 0, 0, 0, 0, 0), (32, .iaload, 33, 0, 0, 0, 0, 0), (33, .ireturn, 34, 0, 0, 0, 0, 0)])]
def tX4_hasGain : CT := [(18, [(0, .iconst 0, 1, 0, 0, 0, 0, 0), (1, .istore_n 2, 2, 2, 0, 0, 0, 0), (2, .iload_n 2, 3, 2, 0, 0, 0, 0), (3, .bipush 12, 5, 0, 0, 0, 12, 0), (5, .if_icmp .ge 21, 8, 26, 0, 0, 0, 0), (8, .aload_n 0, 9, 0, 0, 0, 0, 0), (9, .iload_n 1, 10, 1, 0, 0, 0, 0), (10, .iload_n 2, 11, 2, 0, 0, 0, 0), (11, .invokevirtual 33, 14, 23, 3, 4, 0, 387), (14, .iconst (-1), 15, 0, 0, 0, (-1), 0), (15, .if_icmp .eq 5, 18, 20, 0, 0, 0, 0), (18, .iconst 1, 19, 0, 0, 0, 1, 0)]),
  (27, [(19, .ireturn, 20, 0, 0, 1, 0, 0), (20, .iinc 2 1, 23, 2, 0, 0, 1, 0), (23, .goto (-21), 26, 2, 0, 0, 0, 0), (26, .iconst 0, 27, 0, 0, 0, 0, 0), (27, .ireturn, 28, 0, 0, 1, 0, 0)])]
def tX4_takeGreatest : CT := [(15, [(0, .iconst (-1), 1, 0, 0, 0, (-1), 0), (1, .istore_n 1, 2, 1, 0, 0, 0, 0), (2, .iconst 0, 3, 0, 0, 0, 0, 0), (3, .istore_n 2, 4, 2, 0, 0, 0, 0), (4, .iload_n 2, 5, 2, 0, 0, 0, 0), (5, .bipush 10, 7, 0, 0, 0, 10, 0), (7, .if_icmp .ge 50, 10, 57, 0, 0, 0, 0), (10, .iconst 0, 11, 0, 0, 0, 0, 0), (11, .istore_n 3, 12, 3, 0, 0, 0, 0), (12, .iload_n 3, 13, 3, 0, 0, 0, 0), (13, .bipush 12, 15, 0, 0, 0, 12, 0), (15, .if_icmp .ge 36, 18, 51, 0, 0, 0, 0)]),
  (35, [(18, .aload_n 0, 19, 0, 0, 0, 0, 0), (19, .iload_n 2, 20, 2, 0, 0, 0, 0), (20, .iload_n 3, 21, 3, 0, 0, 0, 0), (21, .invokevirtual 33, 24, 23, 3, 4, 0, 387), (24, .iload_n 1, 25, 1, 0, 0, 0, 0), (25, .if_icmp .le 20, 28, 45, 0, 0, 0, 0), (28, .aload_n 0, 29, 0, 0, 0, 0, 0), (29, .iload_n 2, 30, 2, 0, 0, 0, 0), (30, .iload_n 3, 31, 3, 0, 0, 0, 0), (31, .invokevirtual 33, 34, 23, 3, 4, 0, 387), (34, .istore_n 1, 35, 1, 0, 0, 0, 0), (35, .aload_n 0, 36, 0, 0, 0, 0, 0)]),
  (59, [(36, .iload_n 2, 37, 2, 0, 0, 0, 0), (37, .putfield 37, 40, 4, 1, 0, 0, 165), (40, .aload_n 0, 41, 0, 0, 0, 0, 0), (41, .iload_n 3, 42, 3, 0, 0, 0, 0), (42, .putfield 41, 45, 4, 2, 0, 0, 167), (45, .iinc 3 1, 48, 3, 0, 0, 1, 0), (48, .goto (-36), 51, 12, 0, 0, 0, 0), (51, .iinc 2 1, 54, 2, 0, 0, 1, 0), (54, .goto (-50), 57, 4, 0, 0, 0, 0), (57, .iload_n 1, 58, 1, 0, 0, 0, 0), (58, .iconst (-1), 59, 0, 0, 0, (-1), 0), (59, .if_icmp .eq 7, 62, 66, 0, 0, 0, 0)]),
  (67, [(62, .aload_n 0, 63, 0, 0, 0, 0, 0), (63, .invokevirtual 44, 66, 26, 1, 4, 0, 430), (66, .iload_n 1, 67, 1, 0, 0, 0, 0), (67, .ireturn, 68, 0, 0, 0, 0, 0)])]
def tX4_strikeOut : CT := [(17, [(0, .iconst 0, 1, 0, 0, 0, 0, 0), (1, .istore_n 1, 2, 1, 0, 0, 0, 0), (2, .iload_n 1, 3, 1, 0, 0, 0, 0), (3, .bipush 10, 5, 0, 0, 0, 10, 0), (5, .if_icmp .ge 51, 8, 56, 0, 0, 0, 0), (8, .iconst 0, 9, 0, 0, 0, 0, 0), (9, .istore_n 2, 10, 2, 0, 0, 0, 0), (10, .iload_n 2, 11, 2, 0, 0, 0, 0), (11, .bipush 12, 13, 0, 0, 0, 12, 0), (13, .if_icmp .ge 37, 16, 50, 0, 0, 0, 0), (16, .iload_n 1, 17, 1, 0, 0, 0, 0), (17, .aload_n 0, 18, 0, 0, 0, 0, 0)]),
  (40, [(18, .getfield 37, 21, 4, 1, 0, 0, 165), (21, .if_icmp .eq 11, 24, 32, 0, 0, 0, 0), (24, .iload_n 2, 25, 2, 0, 0, 0, 0), (25, .aload_n 0, 26, 0, 0, 0, 0, 0), (26, .getfield 41, 29, 4, 2, 0, 0, 167), (29, .if_icmp .ne 15, 32, 44, 0, 0, 0, 0), (32, .aload_n 0, 33, 0, 0, 0, 0, 0), (33, .getfield 9, 36, 4, 0, 1, 0, 164), (36, .iload_n 1, 37, 1, 0, 0, 0, 0), (37, .bipush 12, 39, 0, 0, 0, 12, 0), (39, .imul, 40, 0, 0, 0, 0, 0), (40, .iload_n 2, 41, 2, 0, 0, 0, 0)]),
  (56, [(41, .iadd, 42, 0, 0, 0, 0, 0), (42, .iconst (-1), 43, 0, 0, 0, (-1), 0), (43, .iastore, 44, 0, 0, 0, 0, 0), (44, .iinc 2 1, 47, 2, 0, 0, 1, 0), (47, .goto (-37), 50, 10, 0, 0, 0, 0), (50, .iinc 1 1, 53, 1, 0, 0, 1, 0), (53, .goto (-51), 56, 2, 0, 0, 0, 0), (56, .return_, 57, 0, 0, 0, 0, 0)])]
def tX5_init : CT := [(12, [(0, .aload_n 0, 1, 0, 0, 0, 0, 0), (1, .invokespecial 3, 4, 0, 1, 0, 0, 153), (4, .aload_n 0, 5, 0, 0, 0, 0, 0), (5, .bipush 7, 7, 0, 0, 0, 7, 0), (7, .newarray .int, 9, 0, 0, 0, 0, 64), (9, .putfield 9, 12, 5, 0, 1, 0, 154), (12, .return_, 13, 0, 0, 0, 0, 0)])]
def tX5_part : CT := [(19, [(0, .iload 4, 2, 4, 0, 0, 0, 0), (2, .ifCond .lt 23, 5, 25, 0, 0, 0, 0), (5, .iload 4, 7, 4, 0, 0, 0, 0), (7, .aload_n 0, 8, 0, 0, 0, 0, 0), (8, .getfield 9, 11, 5, 0, 1, 0, 154), (11, .arraylength, 12, 0, 0, 0, 0, 0), (12, .if_icmp .ge 13, 15, 25, 0, 0, 0, 0), (15, .aload_n 0, 16, 0, 0, 0, 0, 0), (16, .aload_n 1, 17, 1, 0, 0, 0, 0), (17, .iload_n 2, 18, 2, 0, 0, 0, 0), (18, .iload_n 3, 19, 3, 0, 0, 0, 0), (19, .invokevirtual 15, 22, 30, 4, 5, 0, 277)]),
  (36, [(22, .ifCond .ne 7, 25, 29, 0, 0, 0, 0), (25, .sipush (-10006), 28, 0, 0, 0, (-10006), 0), (28, .ireturn, 29, 0, 0, 0, 0, 0), (29, .aload_n 0, 30, 0, 0, 0, 0, 0), (30, .getfield 9, 33, 5, 0, 1, 0, 154), (33, .iload 4, 35, 4, 0, 0, 0, 0), (35, .iaload, 36, 0, 0, 0, 0, 0), (36, .ireturn, 37, 0, 0, 0, 0, 0)])]
def tX5_likely : CT := [(21, [(0, .aload_n 1, 1, 1, 0, 0, 0, 0), (1, .getfield 19, 4, 3, 0, 1, 0, 66), (4, .iload_n 3, 5, 3, 0, 0, 0, 0), (5, .invokevirtual 25, 8, 45, 2, 6, 0, 356), (8, .ifCond .eq 26, 11, 34, 0, 0, 0, 0), (11, .aload_n 0, 12, 0, 0, 0, 0, 0), (12, .aload_n 1, 13, 1, 0, 0, 0, 0), (13, .iload_n 2, 14, 2, 0, 0, 0, 0), (14, .iload_n 3, 15, 3, 0, 0, 0, 0), (15, .invokevirtual 15, 18, 30, 4, 5, 0, 277), (18, .ifCond .eq 16, 21, 34, 0, 0, 0, 0), (21, .aload_n 0, 22, 0, 0, 0, 0, 0)]),
  (41, [(22, .getfield 9, 25, 5, 0, 1, 0, 154), (25, .iconst 0, 26, 0, 0, 0, 0, 0), (26, .iaload, 27, 0, 0, 0, 0, 0), (27, .aload_n 1, 28, 1, 0, 0, 0, 0), (28, .getfield 31, 31, 3, 4, 0, 0, 78), (31, .if_icmp .ge 5, 34, 36, 0, 0, 0, 0), (34, .iconst (-1), 35, 0, 0, 0, (-1), 0), (35, .ireturn, 36, 0, 0, 0, 0, 0), (36, .aload_n 0, 37, 0, 0, 0, 0, 0), (37, .getfield 9, 40, 5, 0, 1, 0, 154), (40, .iconst 0, 41, 0, 0, 0, 0, 0), (41, .iaload, 42, 0, 0, 0, 0, 0)]),
  (42, [(42, .ireturn, 43, 0, 0, 0, 0, 0)])]
def tX5_compare : CT := [(21, [(0, .aload_n 1, 1, 1, 0, 0, 0, 0), (1, .getfield 35, 4, 3, 1, 1, 0, 70), (4, .astore 4, 6, 4, 0, 0, 0, 0), (6, .aload_n 1, 7, 1, 0, 0, 0, 0), (7, .getfield 19, 10, 3, 0, 1, 0, 66), (10, .astore 5, 12, 5, 0, 0, 0, 0), (12, .aload_n 1, 13, 1, 0, 0, 0, 0), (13, .getfield 38, 16, 3, 2, 1, 0, 74), (16, .astore 6, 18, 6, 0, 0, 0, 0), (18, .aload 5, 20, 5, 0, 0, 0, 0), (20, .iload_n 3, 21, 3, 0, 0, 0, 0), (21, .bipush 6, 23, 0, 0, 0, 6, 0)]),
  (44, [(23, .invokevirtual 41, 26, 41, 3, 6, 0, 281), (26, .aload 4, 28, 4, 0, 0, 0, 0), (28, .iload_n 2, 29, 2, 0, 0, 0, 0), (29, .bipush 7, 31, 0, 0, 0, 7, 0), (31, .invokevirtual 41, 34, 41, 3, 6, 0, 281), (34, .isub, 35, 0, 0, 0, 0, 0), (35, .istore 7, 37, 7, 0, 0, 0, 0), (37, .iload 7, 39, 7, 0, 0, 0, 0), (39, .ifCond .ge 5, 42, 44, 0, 0, 0, 0), (42, .iconst 0, 43, 0, 0, 0, 0, 0), (43, .ireturn, 44, 0, 0, 1, 0, 0), (44, .aload 5, 46, 5, 0, 0, 0, 0)]),
  (64, [(46, .iload_n 3, 47, 3, 0, 0, 0, 0), (47, .iconst 2, 48, 0, 0, 0, 2, 0), (48, .invokevirtual 41, 51, 41, 3, 6, 0, 281), (51, .istore 8, 53, 8, 0, 0, 0, 0), (53, .aload 4, 55, 4, 0, 0, 0, 0), (55, .iload_n 2, 56, 2, 0, 0, 0, 0), (56, .iconst 0, 57, 0, 0, 0, 0, 0), (57, .invokevirtual 41, 60, 41, 3, 6, 0, 281), (60, .aload 5, 62, 5, 0, 0, 0, 0), (62, .iload_n 3, 63, 3, 0, 0, 0, 0), (63, .iconst 1, 64, 0, 0, 0, 1, 0), (64, .invokevirtual 41, 67, 41, 3, 6, 0, 281)]),
  (87, [(67, .iload 8, 69, 8, 0, 0, 0, 0), (69, .invokestatic 45, 72, 51, 3, 0, 0, 286), (72, .istore 9, 74, 9, 0, 0, 0, 0), (74, .aload_n 0, 75, 0, 0, 0, 0, 0), (75, .getfield 9, 78, 5, 0, 1, 0, 154), (78, .iconst 1, 79, 0, 0, 0, 1, 0), (79, .aload 6, 81, 6, 0, 0, 0, 0), (81, .iconst 0, 82, 0, 0, 0, 0, 0), (82, .iaload, 83, 0, 0, 0, 0, 0), (83, .iload 9, 85, 9, 0, 0, 0, 0), (85, .bipush 63, 87, 0, 0, 0, 63, 0), (87, .iload 8, 89, 8, 0, 0, 0, 0)]),
  (105, [(89, .iconst (-1), 90, 0, 0, 0, (-1), 0), (90, .ixor, 91, 0, 0, 0, 0, 0), (91, .iand, 92, 0, 0, 0, 0, 0), (92, .iload 9, 94, 9, 0, 0, 0, 0), (94, .iconst (-1), 95, 0, 0, 0, (-1), 0), (95, .ixor, 96, 0, 0, 0, 0, 0), (96, .iand, 97, 0, 0, 0, 0, 0), (97, .invokestatic 51, 100, 31, 3, 0, 0, 289), (100, .iastore, 101, 0, 0, 0, 0, 0), (101, .aload_n 0, 102, 0, 0, 0, 0, 0), (102, .getfield 9, 105, 5, 0, 1, 0, 154), (105, .iconst 2, 106, 0, 0, 0, 2, 0)]),
  (124, [(106, .aload 6, 108, 6, 0, 0, 0, 0), (108, .iconst 1, 109, 0, 0, 0, 1, 0), (109, .iaload, 110, 0, 0, 0, 0, 0), (110, .aload 4, 112, 4, 0, 0, 0, 0), (112, .iload_n 2, 113, 2, 0, 0, 0, 0), (113, .iconst 1, 114, 0, 0, 0, 1, 0), (114, .invokevirtual 41, 117, 41, 3, 6, 0, 281), (117, .aload 5, 119, 5, 0, 0, 0, 0), (119, .iload_n 3, 120, 3, 0, 0, 0, 0), (120, .iconst 3, 121, 0, 0, 0, 3, 0), (121, .invokevirtual 41, 124, 41, 3, 6, 0, 281), (124, .invokestatic 54, 127, 32, 3, 0, 0, 298)]),
  (144, [(127, .iastore, 128, 0, 0, 0, 0, 0), (128, .aload_n 0, 129, 0, 0, 0, 0, 0), (129, .getfield 9, 132, 5, 0, 1, 0, 154), (132, .iconst 3, 133, 0, 0, 0, 3, 0), (133, .aload 6, 135, 6, 0, 0, 0, 0), (135, .iconst 2, 136, 0, 0, 0, 2, 0), (136, .iaload, 137, 0, 0, 0, 0, 0), (137, .aload 4, 139, 4, 0, 0, 0, 0), (139, .iload_n 2, 140, 2, 0, 0, 0, 0), (140, .iconst 2, 141, 0, 0, 0, 2, 0), (141, .invokevirtual 41, 144, 41, 3, 6, 0, 281), (144, .aload 5, 146, 5, 0, 0, 0, 0)]),
  (164, [(146, .iload_n 3, 147, 3, 0, 0, 0, 0), (147, .iconst 4, 148, 0, 0, 0, 4, 0), (148, .invokevirtual 41, 151, 41, 3, 6, 0, 281), (151, .invokestatic 57, 154, 33, 3, 0, 0, 304), (154, .iastore, 155, 0, 0, 0, 0, 0), (155, .aload_n 0, 156, 0, 0, 0, 0, 0), (156, .getfield 9, 159, 5, 0, 1, 0, 154), (159, .iconst 4, 160, 0, 0, 0, 4, 0), (160, .aload 6, 162, 6, 0, 0, 0, 0), (162, .iconst 3, 163, 0, 0, 0, 3, 0), (163, .iaload, 164, 0, 0, 0, 0, 0), (164, .aload 4, 166, 4, 0, 0, 0, 0)]),
  (186, [(166, .iload_n 2, 167, 2, 0, 0, 0, 0), (167, .iconst 3, 168, 0, 0, 0, 3, 0), (168, .invokevirtual 41, 171, 41, 3, 6, 0, 281), (171, .aload 5, 173, 5, 0, 0, 0, 0), (173, .iload_n 3, 174, 3, 0, 0, 0, 0), (174, .iconst 5, 175, 0, 0, 0, 5, 0), (175, .invokevirtual 41, 178, 41, 3, 6, 0, 281), (178, .invokestatic 60, 181, 34, 3, 0, 0, 307), (181, .iastore, 182, 0, 0, 0, 0, 0), (182, .aload_n 0, 183, 0, 0, 0, 0, 0), (183, .getfield 9, 186, 5, 0, 1, 0, 154), (186, .iconst 5, 187, 0, 0, 0, 5, 0)]),
  (205, [(187, .aload 6, 189, 6, 0, 0, 0, 0), (189, .iconst 4, 190, 0, 0, 0, 4, 0), (190, .iaload, 191, 0, 0, 0, 0, 0), (191, .aload 4, 193, 4, 0, 0, 0, 0), (193, .iload_n 2, 194, 2, 0, 0, 0, 0), (194, .iconst 4, 195, 0, 0, 0, 4, 0), (195, .invokevirtual 41, 198, 41, 3, 6, 0, 281), (198, .aload 5, 200, 5, 0, 0, 0, 0), (200, .iload_n 3, 201, 3, 0, 0, 0, 0), (201, .iconst 0, 202, 0, 0, 0, 0, 0), (202, .invokevirtual 41, 205, 41, 3, 6, 0, 281), (205, .invokestatic 63, 208, 35, 3, 0, 0, 310)]),
  (227, [(208, .iastore, 209, 0, 0, 0, 0, 0), (209, .aload_n 0, 210, 0, 0, 0, 0, 0), (210, .getfield 9, 213, 5, 0, 1, 0, 154), (213, .bipush 6, 215, 0, 0, 0, 6, 0), (215, .aload 6, 217, 6, 0, 0, 0, 0), (217, .iconst 5, 218, 0, 0, 0, 5, 0), (218, .iaload, 219, 0, 0, 0, 0, 0), (219, .ineg, 220, 0, 0, 0, 0, 0), (220, .iload 7, 222, 7, 0, 0, 0, 0), (222, .bipush 10, 224, 0, 0, 0, 10, 0), (224, .invokestatic 66, 227, 0, 2, 2, 0, 313), (227, .imul, 228, 0, 0, 0, 0, 0)]),
  (245, [(228, .iastore, 229, 0, 0, 0, 0, 0), (229, .aload_n 0, 230, 0, 0, 0, 0, 0), (230, .getfield 9, 233, 5, 0, 1, 0, 154), (233, .iconst 0, 234, 0, 0, 0, 0, 0), (234, .iconst 0, 235, 0, 0, 0, 0, 0), (235, .iastore, 236, 0, 0, 0, 0, 0), (236, .iconst 1, 237, 0, 0, 0, 1, 0), (237, .istore 10, 239, 10, 0, 0, 0, 0), (239, .iload 10, 241, 10, 0, 0, 0, 0), (241, .aload_n 0, 242, 0, 0, 0, 0, 0), (242, .getfield 9, 245, 5, 0, 1, 0, 154), (245, .arraylength, 246, 0, 0, 0, 0, 0)]),
  (264, [(246, .if_icmp .ge 25, 249, 271, 0, 0, 0, 0), (249, .aload_n 0, 250, 0, 0, 0, 0, 0), (250, .getfield 9, 253, 5, 0, 1, 0, 154), (253, .iconst 0, 254, 0, 0, 0, 0, 0), (254, .dup2, 255, 0, 0, 0, 0, 0), (255, .iaload, 256, 0, 0, 0, 0, 0), (256, .aload_n 0, 257, 0, 0, 0, 0, 0), (257, .getfield 9, 260, 5, 0, 1, 0, 154), (260, .iload 10, 262, 10, 0, 0, 0, 0), (262, .iaload, 263, 0, 0, 0, 0, 0), (263, .iadd, 264, 0, 0, 0, 0, 0), (264, .iastore, 265, 0, 0, 0, 0, 0)]),
  (272, [(265, .iinc 10 1, 268, 10, 0, 0, 1, 0), (268, .goto (-29), 271, 239, 0, 0, 0, 0), (271, .iconst 1, 272, 0, 0, 0, 1, 0), (272, .ireturn, 273, 0, 0, 1, 0, 0)])]
def tX5_ofDigits : CT := [(15, [(0, .iload_n 1, 1, 1, 0, 0, 0, 0), (1, .invokestatic 71, 4, 79, 1, 0, 0, 292), (4, .iload_n 0, 5, 0, 0, 0, 0, 0), (5, .imul, 6, 0, 0, 0, 0, 0), (6, .iload_n 2, 7, 2, 0, 0, 0, 0), (7, .invokestatic 71, 10, 79, 1, 0, 0, 292), (10, .iconst 3, 11, 0, 0, 0, 3, 0), (11, .iload_n 0, 12, 0, 0, 0, 0, 0), (12, .imul, 13, 0, 0, 0, 0, 0), (13, .iconst 2, 14, 0, 0, 0, 2, 0), (14, .idiv, 15, 0, 0, 0, 0, 0), (15, .imul, 16, 0, 0, 0, 0, 0)]),
  (17, [(16, .isub, 17, 0, 0, 0, 0, 0), (17, .ireturn, 18, 0, 0, 0, 0, 0)])]
def tX5_ofColours : CT := [(15, [(0, .iload_n 1, 1, 1, 0, 0, 0, 0), (1, .iload_n 2, 2, 2, 0, 0, 0, 0), (2, .isub, 3, 0, 0, 0, 0, 0), (3, .invokestatic 77, 6, 0, 1, 3, 0, 301), (6, .istore_n 3, 7, 3, 0, 0, 0, 0), (7, .iload_n 3, 8, 3, 0, 0, 0, 0), (8, .ifCond .ne 5, 11, 13, 0, 0, 0, 0), (11, .iload_n 0, 12, 0, 0, 0, 0, 0), (12, .ireturn, 13, 0, 0, 0, 0, 0), (13, .iload_n 3, 14, 3, 0, 0, 0, 0), (14, .iconst 1, 15, 0, 0, 0, 1, 0), (15, .if_icmp .eq 9, 18, 24, 0, 0, 0, 0)]),
  (31, [(18, .iload_n 3, 19, 3, 0, 0, 0, 0), (19, .bipush 7, 21, 0, 0, 0, 7, 0), (21, .if_icmp .ne 9, 24, 30, 0, 0, 0, 0), (24, .iload_n 0, 25, 0, 0, 0, 0, 0), (25, .iconst 3, 26, 0, 0, 0, 3, 0), (26, .idiv, 27, 0, 0, 0, 0, 0), (27, .goto 4, 30, 31, 0, 0, 0, 0), (30, .iconst 0, 31, 0, 0, 0, 0, 0), (31, .ireturn, 32, 0, 0, 0, 0, 0)])]
def tX5_ofKinds : CT := [(13, [(0, .iload_n 1, 1, 1, 0, 0, 0, 0), (1, .iload_n 2, 2, 2, 0, 0, 0, 0), (2, .if_icmp .ne 5, 5, 7, 0, 0, 0, 0), (5, .iload_n 0, 6, 0, 0, 0, 0, 0), (6, .ireturn, 7, 0, 0, 0, 0, 0), (7, .iload_n 1, 8, 1, 0, 0, 0, 0), (8, .iconst 4, 9, 0, 0, 0, 4, 0), (9, .idiv, 10, 0, 0, 0, 0, 0), (10, .iload_n 2, 11, 2, 0, 0, 0, 0), (11, .iconst 4, 12, 0, 0, 0, 4, 0), (12, .idiv, 13, 0, 0, 0, 0, 0), (13, .if_icmp .ne 9, 16, 22, 0, 0, 0, 0)]),
  (23, [(16, .iload_n 0, 17, 0, 0, 0, 0, 0), (17, .iconst 3, 18, 0, 0, 0, 3, 0), (18, .idiv, 19, 0, 0, 0, 0, 0), (19, .goto 4, 22, 23, 0, 0, 0, 0), (22, .iconst 0, 23, 0, 0, 0, 0, 0), (23, .ireturn, 24, 0, 0, 0, 0, 0)])]
def tX5_ofMarks : CT := [(15, [(0, .iload_n 1, 1, 1, 0, 0, 0, 0), (1, .iload_n 2, 2, 2, 0, 0, 0, 0), (2, .iand, 3, 0, 0, 0, 0, 0), (3, .invokestatic 71, 6, 79, 1, 0, 0, 292), (6, .iload_n 0, 7, 0, 0, 0, 0, 0), (7, .imul, 8, 0, 0, 0, 0, 0), (8, .iload_n 1, 9, 1, 0, 0, 0, 0), (9, .iload_n 2, 10, 2, 0, 0, 0, 0), (10, .ixor, 11, 0, 0, 0, 0, 0), (11, .invokestatic 71, 14, 79, 1, 0, 0, 292), (14, .iload_n 0, 15, 0, 0, 0, 0, 0), (15, .iconst 2, 16, 0, 0, 0, 2, 0)]),
  (19, [(16, .idiv, 17, 0, 0, 0, 0, 0), (17, .imul, 18, 0, 0, 0, 0, 0), (18, .isub, 19, 0, 0, 0, 0, 0), (19, .ireturn, 20, 0, 0, 0, 0, 0)])]
def tX5_ofAirport : CT := [(15, [(0, .iload_n 1, 1, 1, 0, 0, 0, 0), (1, .iload_n 2, 2, 2, 0, 0, 0, 0), (2, .ishr, 3, 0, 0, 0, 0, 0), (3, .iconst 1, 4, 0, 0, 0, 1, 0), (4, .iand, 5, 0, 0, 0, 0, 0), (5, .iconst 1, 6, 0, 0, 0, 1, 0), (6, .if_icmp .ne 7, 9, 13, 0, 0, 0, 0), (9, .iload_n 0, 10, 0, 0, 0, 0, 0), (10, .goto 5, 13, 15, 0, 0, 0, 0), (13, .iload_n 0, 14, 0, 0, 0, 0, 0), (14, .ineg, 15, 0, 0, 0, 0, 0), (15, .ireturn, 16, 0, 0, 0, 0, 0)])]
def tX6_init : CT := [(19, [(0, .aload_n 0, 1, 0, 0, 0, 0, 0), (1, .invokespecial 3, 4, 0, 1, 0, 0, 43), (4, .aload_n 0, 5, 0, 0, 0, 0, 0), (5, .iload_n 2, 6, 2, 0, 0, 0, 0), (6, .iconst 1, 7, 0, 0, 0, 1, 0), (7, .invokestatic 9, 10, 0, 2, 1, 0, 44), (10, .putfield 15, 13, 6, 0, 0, 0, 47), (13, .aload_n 0, 14, 0, 0, 0, 0, 0), (14, .iload_n 1, 15, 1, 0, 0, 0, 0), (15, .iconst 0, 16, 0, 0, 0, 0, 0), (16, .invokestatic 9, 19, 0, 2, 1, 0, 44), (19, .newarray .int, 21, 0, 0, 0, 0, 64)]),
  (40, [(21, .putfield 21, 24, 6, 2, 1, 0, 50), (24, .aload_n 0, 25, 0, 0, 0, 0, 0), (25, .aload_n 0, 26, 0, 0, 0, 0, 0), (26, .getfield 21, 29, 6, 2, 1, 0, 50), (29, .arraylength, 30, 0, 0, 0, 0, 0), (30, .aload_n 0, 31, 0, 0, 0, 0, 0), (31, .getfield 15, 34, 6, 0, 0, 0, 47), (34, .imul, 35, 0, 0, 0, 0, 0), (35, .newarray .int, 37, 0, 0, 0, 0, 64), (37, .putfield 25, 40, 6, 1, 1, 0, 49), (40, .return_, 41, 0, 0, 0, 0, 0)])]
def tX6_rows : CT := [(4, [(0, .aload_n 0, 1, 0, 0, 0, 0, 0), (1, .getfield 28, 4, 6, 3, 0, 0, 51), (4, .ireturn, 5, 0, 0, 0, 0, 0)])]
def tX6_isFull : CT := [(17, [(0, .aload_n 0, 1, 0, 0, 0, 0, 0), (1, .getfield 28, 4, 6, 3, 0, 0, 51), (4, .aload_n 0, 5, 0, 0, 0, 0, 0), (5, .getfield 21, 8, 6, 2, 1, 0, 50), (8, .arraylength, 9, 0, 0, 0, 0, 0), (9, .if_icmp .lt 7, 12, 16, 0, 0, 0, 0), (12, .iconst 1, 13, 0, 0, 0, 1, 0), (13, .goto 4, 16, 17, 0, 0, 0, 0), (16, .iconst 0, 17, 0, 0, 0, 0, 0), (17, .ireturn, 18, 0, 0, 1, 0, 0)])]
def tX6_rowOf : CT := [(19, [(0, .iconst 0, 1, 0, 0, 0, 0, 0), (1, .istore_n 2, 2, 2, 0, 0, 0, 0), (2, .iload_n 2, 3, 2, 0, 0, 0, 0), (3, .aload_n 0, 4, 0, 0, 0, 0, 0), (4, .getfield 28, 7, 6, 3, 0, 0, 51), (7, .if_icmp .ge 30, 10, 37, 0, 0, 0, 0), (10, .iload_n 2, 11, 2, 0, 0, 0, 0), (11, .aload_n 0, 12, 0, 0, 0, 0, 0), (12, .getfield 21, 15, 6, 2, 1, 0, 50), (15, .arraylength, 16, 0, 0, 0, 0, 0), (16, .if_icmp .ge 21, 19, 37, 0, 0, 0, 0), (19, .aload_n 0, 20, 0, 0, 0, 0, 0)]),
  (38, [(20, .getfield 21, 23, 6, 2, 1, 0, 50), (23, .iload_n 2, 24, 2, 0, 0, 0, 0), (24, .iaload, 25, 0, 0, 0, 0, 0), (25, .iload_n 1, 26, 1, 0, 0, 0, 0), (26, .if_icmp .ne 5, 29, 31, 0, 0, 0, 0), (29, .iload_n 2, 30, 2, 0, 0, 0, 0), (30, .ireturn, 31, 0, 0, 0, 0, 0), (31, .iinc 2 1, 34, 2, 0, 0, 1, 0), (34, .goto (-32), 37, 2, 0, 0, 0, 0), (37, .iconst (-1), 38, 0, 0, 0, (-1), 0), (38, .ireturn, 39, 0, 0, 0, 0, 0)])]
def tX6_numberOf : CT := [(20, [(0, .aload_n 0, 1, 0, 0, 0, 0, 0), (1, .iload_n 1, 2, 1, 0, 0, 0, 0), (2, .invokevirtual 31, 5, 50, 2, 6, 0, 248), (5, .ifCond .eq 12, 8, 17, 0, 0, 0, 0), (8, .aload_n 0, 9, 0, 0, 0, 0, 0), (9, .getfield 21, 12, 6, 2, 1, 0, 50), (12, .iload_n 1, 13, 1, 0, 0, 0, 0), (13, .iaload, 14, 0, 0, 0, 0, 0), (14, .goto 6, 17, 20, 0, 0, 0, 0), (17, .sipush (-10001), 20, 0, 0, 0, (-10001), 0), (20, .ireturn, 21, 0, 0, 0, 0, 0)])]
def tX6_get : CT := [(19, [(0, .aload_n 0, 1, 0, 0, 0, 0, 0), (1, .iload_n 1, 2, 1, 0, 0, 0, 0), (2, .invokevirtual 31, 5, 50, 2, 6, 0, 248), (5, .ifCond .eq 17, 8, 22, 0, 0, 0, 0), (8, .iload_n 2, 9, 2, 0, 0, 0, 0), (9, .iconst 0, 10, 0, 0, 0, 0, 0), (10, .aload_n 0, 11, 0, 0, 0, 0, 0), (11, .getfield 15, 14, 6, 0, 0, 0, 47), (14, .iconst 1, 15, 0, 0, 0, 1, 0), (15, .isub, 16, 0, 0, 0, 0, 0), (16, .invokestatic 35, 19, 76, 3, 1, 0, 0), (19, .ifCond .eq 7, 22, 26, 0, 0, 0, 0)]),
  (39, [(22, .sipush (-10006), 25, 0, 0, 0, (-10006), 0), (25, .ireturn, 26, 0, 0, 0, 0, 0), (26, .aload_n 0, 27, 0, 0, 0, 0, 0), (27, .getfield 25, 30, 6, 1, 1, 0, 49), (30, .iload_n 1, 31, 1, 0, 0, 0, 0), (31, .aload_n 0, 32, 0, 0, 0, 0, 0), (32, .getfield 15, 35, 6, 0, 0, 0, 47), (35, .imul, 36, 0, 0, 0, 0, 0), (36, .iload_n 2, 37, 2, 0, 0, 0, 0), (37, .iadd, 38, 0, 0, 0, 0, 0), (38, .iaload, 39, 0, 0, 0, 0, 0), (39, .ireturn, 40, 0, 0, 0, 0, 0)])]
def tX6_put : CT := [(19, [(0, .aload_n 0, 1, 0, 0, 0, 0, 0), (1, .iload_n 1, 2, 1, 0, 0, 0, 0), (2, .invokevirtual 31, 5, 50, 2, 6, 0, 248), (5, .ifCond .eq 31, 8, 36, 0, 0, 0, 0), (8, .iload_n 2, 9, 2, 0, 0, 0, 0), (9, .iconst 0, 10, 0, 0, 0, 0, 0), (10, .aload_n 0, 11, 0, 0, 0, 0, 0), (11, .getfield 15, 14, 6, 0, 0, 0, 47), (14, .iconst 1, 15, 0, 0, 0, 1, 0), (15, .isub, 16, 0, 0, 0, 0, 0), (16, .invokestatic 35, 19, 76, 3, 1, 0, 0), (19, .ifCond .ne 17, 22, 36, 0, 0, 0, 0)]),
  (36, [(22, .aload_n 0, 23, 0, 0, 0, 0, 0), (23, .getfield 25, 26, 6, 1, 1, 0, 49), (26, .iload_n 1, 27, 1, 0, 0, 0, 0), (27, .aload_n 0, 28, 0, 0, 0, 0, 0), (28, .getfield 15, 31, 6, 0, 0, 0, 47), (31, .imul, 32, 0, 0, 0, 0, 0), (32, .iload_n 2, 33, 2, 0, 0, 0, 0), (33, .iadd, 34, 0, 0, 0, 0, 0), (34, .iload_n 3, 35, 3, 0, 0, 0, 0), (35, .iastore, 36, 0, 0, 0, 0, 0), (36, .return_, 37, 0, 0, 0, 0, 0)])]
def tX6_partner : CT := [(11, [(0, .aload_n 0, 1, 0, 0, 0, 0, 0), (1, .iload_n 1, 2, 1, 0, 0, 0, 0), (2, .aload_n 0, 3, 0, 0, 0, 0, 0), (3, .getfield 15, 6, 6, 0, 0, 0, 47), (6, .iconst 1, 7, 0, 0, 0, 1, 0), (7, .isub, 8, 0, 0, 0, 0, 0), (8, .invokevirtual 39, 11, 41, 3, 6, 0, 529), (11, .ireturn, 12, 0, 0, 0, 0, 0)])]
def tX6_setPartner : CT := [(12, [(0, .aload_n 0, 1, 0, 0, 0, 0, 0), (1, .iload_n 1, 2, 1, 0, 0, 0, 0), (2, .aload_n 0, 3, 0, 0, 0, 0, 0), (3, .getfield 15, 6, 6, 0, 0, 0, 47), (6, .iconst 1, 7, 0, 0, 0, 1, 0), (7, .isub, 8, 0, 0, 0, 0, 0), (8, .iload_n 2, 9, 2, 0, 0, 0, 0), (9, .invokevirtual 42, 12, 42, 4, 6, 0, 466), (12, .return_, 13, 0, 0, 0, 0, 0)])]
def tX6_isFree : CT := [(19, [(0, .aload_n 0, 1, 0, 0, 0, 0, 0), (1, .iload_n 1, 2, 1, 0, 0, 0, 0), (2, .invokevirtual 31, 5, 50, 2, 6, 0, 248), (5, .ifCond .eq 31, 8, 36, 0, 0, 0, 0), (8, .aload_n 0, 9, 0, 0, 0, 0, 0), (9, .getfield 25, 12, 6, 1, 1, 0, 49), (12, .iload_n 1, 13, 1, 0, 0, 0, 0), (13, .aload_n 0, 14, 0, 0, 0, 0, 0), (14, .getfield 15, 17, 6, 0, 0, 0, 47), (17, .imul, 18, 0, 0, 0, 0, 0), (18, .aload_n 0, 19, 0, 0, 0, 0, 0), (19, .getfield 15, 22, 6, 0, 0, 0, 47)]),
  (37, [(22, .iadd, 23, 0, 0, 0, 0, 0), (23, .iconst 1, 24, 0, 0, 0, 1, 0), (24, .isub, 25, 0, 0, 0, 0, 0), (25, .iaload, 26, 0, 0, 0, 0, 0), (26, .sipush (-10006), 29, 0, 0, 0, (-10006), 0), (29, .if_icmp .ne 7, 32, 36, 0, 0, 0, 0), (32, .iconst 1, 33, 0, 0, 0, 1, 0), (33, .goto 4, 36, 37, 0, 0, 0, 0), (36, .iconst 0, 37, 0, 0, 0, 0, 0), (37, .ireturn, 38, 0, 0, 1, 0, 0)])]
def tX6_matchedRows : CT := [(17, [(0, .iconst 0, 1, 0, 0, 0, 0, 0), (1, .istore_n 1, 2, 1, 0, 0, 0, 0), (2, .iconst 0, 3, 0, 0, 0, 0, 0), (3, .istore_n 2, 4, 2, 0, 0, 0, 0), (4, .iload_n 2, 5, 2, 0, 0, 0, 0), (5, .aload_n 0, 6, 0, 0, 0, 0, 0), (6, .getfield 28, 9, 6, 3, 0, 0, 51), (9, .if_icmp .ge 20, 12, 29, 0, 0, 0, 0), (12, .aload_n 0, 13, 0, 0, 0, 0, 0), (13, .iload_n 2, 14, 2, 0, 0, 0, 0), (14, .invokevirtual 46, 17, 45, 2, 6, 0, 244), (17, .ifCond .ne 6, 20, 23, 0, 0, 0, 0)]),
  (30, [(20, .iinc 1 1, 23, 1, 0, 0, 1, 0), (23, .iinc 2 1, 26, 2, 0, 0, 1, 0), (26, .goto (-22), 29, 4, 0, 0, 0, 0), (29, .iload_n 1, 30, 1, 0, 0, 0, 0), (30, .ireturn, 31, 0, 0, 0, 0, 0)])]
def tX6_append : CT := [(19, [(0, .aload_n 0, 1, 0, 0, 0, 0, 0), (1, .invokevirtual 49, 4, 38, 1, 6, 0, 508), (4, .ifCond .eq 5, 7, 9, 0, 0, 0, 0), (7, .iconst (-1), 8, 0, 0, 0, (-1), 0), (8, .ireturn, 9, 0, 0, 0, 0, 0), (9, .aload_n 0, 10, 0, 0, 0, 0, 0), (10, .getfield 28, 13, 6, 3, 0, 0, 51), (13, .istore_n 1, 14, 1, 0, 0, 0, 0), (14, .aload_n 0, 15, 0, 0, 0, 0, 0), (15, .dup, 16, 0, 0, 0, 0, 0), (16, .getfield 28, 19, 6, 3, 0, 0, 51), (19, .iconst 1, 20, 0, 0, 0, 1, 0)]),
  (39, [(20, .iadd, 21, 0, 0, 0, 0, 0), (21, .putfield 28, 24, 6, 3, 0, 0, 51), (24, .aload_n 0, 25, 0, 0, 0, 0, 0), (25, .dup, 26, 0, 0, 0, 0, 0), (26, .getfield 53, 29, 6, 4, 0, 0, 52), (29, .iconst 1, 30, 0, 0, 0, 1, 0), (30, .iadd, 31, 0, 0, 0, 0, 0), (31, .putfield 53, 34, 6, 4, 0, 0, 52), (34, .aload_n 0, 35, 0, 0, 0, 0, 0), (35, .getfield 21, 38, 6, 2, 1, 0, 50), (38, .iload_n 1, 39, 1, 0, 0, 0, 0), (39, .aload_n 0, 40, 0, 0, 0, 0, 0)]),
  (53, [(40, .getfield 53, 43, 6, 4, 0, 0, 52), (43, .iastore, 44, 0, 0, 0, 0, 0), (44, .aload_n 0, 45, 0, 0, 0, 0, 0), (45, .iload_n 1, 46, 1, 0, 0, 0, 0), (46, .sipush (-10006), 49, 0, 0, 0, (-10006), 0), (49, .invokevirtual 56, 52, 44, 3, 6, 0, 509), (52, .iload_n 1, 53, 1, 0, 0, 0, 0), (53, .ireturn, 54, 0, 0, 0, 0, 0)])]
def tX6_remove : CT := [(17, [(0, .aload_n 0, 1, 0, 0, 0, 0, 0), (1, .iload_n 1, 2, 1, 0, 0, 0, 0), (2, .invokevirtual 31, 5, 50, 2, 6, 0, 248), (5, .ifCond .ne 4, 8, 9, 0, 0, 0, 0), (8, .return_, 9, 0, 0, 0, 0, 0), (9, .aload_n 0, 10, 0, 0, 0, 0, 0), (10, .getfield 28, 13, 6, 3, 0, 0, 51), (13, .iload_n 1, 14, 1, 0, 0, 0, 0), (14, .isub, 15, 0, 0, 0, 0, 0), (15, .iconst 1, 16, 0, 0, 0, 1, 0), (16, .isub, 17, 0, 0, 0, 0, 0), (17, .istore_n 2, 18, 2, 0, 0, 0, 0)]),
  (35, [(18, .aload_n 0, 19, 0, 0, 0, 0, 0), (19, .getfield 21, 22, 6, 2, 1, 0, 50), (22, .iload_n 1, 23, 1, 0, 0, 0, 0), (23, .iconst 1, 24, 0, 0, 0, 1, 0), (24, .iadd, 25, 0, 0, 0, 0, 0), (25, .aload_n 0, 26, 0, 0, 0, 0, 0), (26, .getfield 21, 29, 6, 2, 1, 0, 50), (29, .iload_n 1, 30, 1, 0, 0, 0, 0), (30, .iload_n 2, 31, 2, 0, 0, 0, 0), (31, .invokestatic 60, 34, 0, 5, 0, 0, 451), (34, .aload_n 0, 35, 0, 0, 0, 0, 0), (35, .getfield 25, 38, 6, 1, 1, 0, 49)]),
  (55, [(38, .iload_n 1, 39, 1, 0, 0, 0, 0), (39, .iconst 1, 40, 0, 0, 0, 1, 0), (40, .iadd, 41, 0, 0, 0, 0, 0), (41, .aload_n 0, 42, 0, 0, 0, 0, 0), (42, .getfield 15, 45, 6, 0, 0, 0, 47), (45, .imul, 46, 0, 0, 0, 0, 0), (46, .aload_n 0, 47, 0, 0, 0, 0, 0), (47, .getfield 25, 50, 6, 1, 1, 0, 49), (50, .iload_n 1, 51, 1, 0, 0, 0, 0), (51, .aload_n 0, 52, 0, 0, 0, 0, 0), (52, .getfield 15, 55, 6, 0, 0, 0, 47), (55, .imul, 56, 0, 0, 0, 0, 0)]),
  (75, [(56, .iload_n 2, 57, 2, 0, 0, 0, 0), (57, .aload_n 0, 58, 0, 0, 0, 0, 0), (58, .getfield 15, 61, 6, 0, 0, 0, 47), (61, .imul, 62, 0, 0, 0, 0, 0), (62, .invokestatic 60, 65, 0, 5, 0, 0, 451), (65, .aload_n 0, 66, 0, 0, 0, 0, 0), (66, .dup, 67, 0, 0, 0, 0, 0), (67, .getfield 28, 70, 6, 3, 0, 0, 51), (70, .iconst 1, 71, 0, 0, 0, 1, 0), (71, .isub, 72, 0, 0, 0, 0, 0), (72, .putfield 28, 75, 6, 3, 0, 0, 51), (75, .return_, 76, 0, 0, 0, 0, 0)])]
def tX6_copyFrom : CT := [(19, [(0, .aload_n 1, 1, 1, 0, 0, 0, 0), (1, .getfield 25, 4, 6, 1, 1, 0, 49), (4, .iconst 0, 5, 0, 0, 0, 0, 0), (5, .aload_n 0, 6, 0, 0, 0, 0, 0), (6, .getfield 25, 9, 6, 1, 1, 0, 49), (9, .iconst 0, 10, 0, 0, 0, 0, 0), (10, .aload_n 0, 11, 0, 0, 0, 0, 0), (11, .getfield 25, 14, 6, 1, 1, 0, 49), (14, .arraylength, 15, 0, 0, 0, 0, 0), (15, .aload_n 1, 16, 1, 0, 0, 0, 0), (16, .getfield 25, 19, 6, 1, 1, 0, 49), (19, .arraylength, 20, 0, 0, 0, 0, 0)]),
  (41, [(20, .invokestatic 72, 23, 0, 2, 2, 0, 450), (23, .invokestatic 60, 26, 0, 5, 0, 0, 451), (26, .aload_n 1, 27, 1, 0, 0, 0, 0), (27, .getfield 21, 30, 6, 2, 1, 0, 50), (30, .iconst 0, 31, 0, 0, 0, 0, 0), (31, .aload_n 0, 32, 0, 0, 0, 0, 0), (32, .getfield 21, 35, 6, 2, 1, 0, 50), (35, .iconst 0, 36, 0, 0, 0, 0, 0), (36, .aload_n 0, 37, 0, 0, 0, 0, 0), (37, .getfield 21, 40, 6, 2, 1, 0, 50), (40, .arraylength, 41, 0, 0, 0, 0, 0), (41, .aload_n 1, 42, 1, 0, 0, 0, 0)]),
  (65, [(42, .getfield 21, 45, 6, 2, 1, 0, 50), (45, .arraylength, 46, 0, 0, 0, 0, 0), (46, .invokestatic 72, 49, 0, 2, 2, 0, 450), (49, .invokestatic 60, 52, 0, 5, 0, 0, 451), (52, .aload_n 0, 53, 0, 0, 0, 0, 0), (53, .aload_n 1, 54, 1, 0, 0, 0, 0), (54, .getfield 28, 57, 6, 3, 0, 0, 51), (57, .aload_n 0, 58, 0, 0, 0, 0, 0), (58, .getfield 21, 61, 6, 2, 1, 0, 50), (61, .arraylength, 62, 0, 0, 0, 0, 0), (62, .invokestatic 72, 65, 0, 2, 2, 0, 450), (65, .putfield 28, 68, 6, 3, 0, 0, 51)]),
  (76, [(68, .aload_n 0, 69, 0, 0, 0, 0, 0), (69, .aload_n 1, 70, 1, 0, 0, 0, 0), (70, .getfield 53, 73, 6, 4, 0, 0, 52), (73, .putfield 53, 76, 6, 4, 0, 0, 52), (76, .return_, 77, 0, 0, 0, 0, 0)])]
def tX6_hasRow : CT := [(21, [(0, .iload_n 1, 1, 1, 0, 0, 0, 0), (1, .ifCond .lt 24, 4, 25, 0, 0, 0, 0), (4, .iload_n 1, 5, 1, 0, 0, 0, 0), (5, .aload_n 0, 6, 0, 0, 0, 0, 0), (6, .getfield 28, 9, 6, 3, 0, 0, 51), (9, .if_icmp .ge 16, 12, 25, 0, 0, 0, 0), (12, .iload_n 1, 13, 1, 0, 0, 0, 0), (13, .aload_n 0, 14, 0, 0, 0, 0, 0), (14, .getfield 21, 17, 6, 2, 1, 0, 50), (17, .arraylength, 18, 0, 0, 0, 0, 0), (18, .if_icmp .ge 7, 21, 25, 0, 0, 0, 0), (21, .iconst 1, 22, 0, 0, 0, 1, 0)]),
  (26, [(22, .goto 4, 25, 26, 0, 0, 0, 0), (25, .iconst 0, 26, 0, 0, 0, 0, 0), (26, .ireturn, 27, 0, 0, 1, 0, 0)])]
def tX7_common : CT := [(18, [(0, .iconst 0, 1, 0, 0, 0, 0, 0), (1, .istore_n 3, 2, 3, 0, 0, 0, 0), (2, .iload_n 0, 3, 0, 0, 0, 0, 0), (3, .istore 4, 5, 4, 0, 0, 0, 0), (5, .iload_n 1, 6, 1, 0, 0, 0, 0), (6, .istore 5, 8, 5, 0, 0, 0, 0), (8, .iconst 5, 9, 0, 0, 0, 5, 0), (9, .istore 6, 11, 6, 0, 0, 0, 0), (11, .iload 6, 13, 6, 0, 0, 0, 0), (13, .ifCond .lt 43, 16, 56, 0, 0, 0, 0), (16, .iload 4, 18, 4, 0, 0, 0, 0), (18, .bipush 10, 20, 0, 0, 0, 10, 0)]),
  (36, [(20, .irem, 21, 0, 0, 0, 0, 0), (21, .iload 5, 23, 5, 0, 0, 0, 0), (23, .bipush 10, 25, 0, 0, 0, 10, 0), (25, .irem, 26, 0, 0, 0, 0, 0), (26, .if_icmp .ne 10, 29, 36, 0, 0, 0, 0), (29, .iload_n 3, 30, 3, 0, 0, 0, 0), (30, .iconst 1, 31, 0, 0, 0, 1, 0), (31, .iload 6, 33, 6, 0, 0, 0, 0), (33, .ishl, 34, 0, 0, 0, 0, 0), (34, .ior, 35, 0, 0, 0, 0, 0), (35, .istore_n 3, 36, 3, 0, 0, 0, 0), (36, .iload 4, 38, 4, 0, 0, 0, 0)]),
  (58, [(38, .bipush 10, 40, 0, 0, 0, 10, 0), (40, .idiv, 41, 0, 0, 0, 0, 0), (41, .istore 4, 43, 4, 0, 0, 0, 0), (43, .iload 5, 45, 5, 0, 0, 0, 0), (45, .bipush 10, 47, 0, 0, 0, 10, 0), (47, .idiv, 48, 0, 0, 0, 0, 0), (48, .istore 5, 50, 5, 0, 0, 0, 0), (50, .iinc 6 (-1), 53, 6, 0, 0, (-1), 0), (53, .goto (-42), 56, 11, 0, 0, 0, 0), (56, .iload_n 3, 57, 3, 0, 0, 0, 0), (57, .iload_n 2, 58, 2, 0, 0, 0, 0), (58, .iconst (-1), 59, 0, 0, 0, (-1), 0)]),
  (61, [(59, .ixor, 60, 0, 0, 0, 0, 0), (60, .iand, 61, 0, 0, 0, 0, 0), (61, .ireturn, 62, 0, 0, 0, 0, 0)])]
def tX7_legible : CT := [(16, [(0, .iconst 0, 1, 0, 0, 0, 0, 0), (1, .istore_n 2, 2, 2, 0, 0, 0, 0), (2, .iconst 1, 3, 0, 0, 0, 1, 0), (3, .istore_n 3, 4, 3, 0, 0, 0, 0), (4, .iload_n 0, 5, 0, 0, 0, 0, 0), (5, .istore 4, 7, 4, 0, 0, 0, 0), (7, .iconst 5, 8, 0, 0, 0, 5, 0), (8, .istore 5, 10, 5, 0, 0, 0, 0), (10, .iload 5, 12, 5, 0, 0, 0, 0), (12, .ifCond .lt 40, 15, 52, 0, 0, 0, 0), (15, .iload_n 1, 16, 1, 0, 0, 0, 0), (16, .iload 5, 18, 5, 0, 0, 0, 0)]),
  (33, [(18, .ishr, 19, 0, 0, 0, 0, 0), (19, .iconst 1, 20, 0, 0, 0, 1, 0), (20, .iand, 21, 0, 0, 0, 0, 0), (21, .ifCond .ne 13, 24, 34, 0, 0, 0, 0), (24, .iload_n 2, 25, 2, 0, 0, 0, 0), (25, .iload 4, 27, 4, 0, 0, 0, 0), (27, .bipush 10, 29, 0, 0, 0, 10, 0), (29, .irem, 30, 0, 0, 0, 0, 0), (30, .iload_n 3, 31, 3, 0, 0, 0, 0), (31, .imul, 32, 0, 0, 0, 0, 0), (32, .iadd, 33, 0, 0, 0, 0, 0), (33, .istore_n 2, 34, 2, 0, 0, 0, 0)]),
  (53, [(34, .iload 4, 36, 4, 0, 0, 0, 0), (36, .bipush 10, 38, 0, 0, 0, 10, 0), (38, .idiv, 39, 0, 0, 0, 0, 0), (39, .istore 4, 41, 4, 0, 0, 0, 0), (41, .iload_n 3, 42, 3, 0, 0, 0, 0), (42, .bipush 10, 44, 0, 0, 0, 10, 0), (44, .imul, 45, 0, 0, 0, 0, 0), (45, .istore_n 3, 46, 3, 0, 0, 0, 0), (46, .iinc 5 (-1), 49, 5, 0, 0, (-1), 0), (49, .goto (-39), 52, 10, 0, 0, 0, 0), (52, .iload_n 2, 53, 2, 0, 0, 0, 0), (53, .ireturn, 54, 0, 0, 0, 0, 0)])]
def tX8_init : CT := [(23, [(0, .aload_n 0, 1, 0, 0, 0, 0, 0), (1, .invokespecial 1, 4, 0, 1, 0, 0, 29), (4, .aload_n 0, 5, 0, 0, 0, 0, 0), (5, .new 7, 8, 3, 11, 33, 12, 32), (8, .dup, 9, 0, 0, 0, 0, 0), (9, .invokespecial 9, 12, 15, 1, 0, 0, 34), (12, .putfield 10, 15, 7, 0, 1, 0, 204), (15, .aload_n 0, 16, 0, 0, 0, 0, 0), (16, .new 16, 19, 2, 3, 114, 15, 113), (19, .dup, 20, 0, 0, 0, 0, 0), (20, .invokespecial 18, 23, 11, 1, 0, 0, 115), (23, .putfield 19, 26, 7, 1, 1, 0, 205)]),
  (49, [(26, .aload_n 0, 27, 0, 0, 0, 0, 0), (27, .new 23, 30, 1, 4, 133, 16, 132), (30, .dup, 31, 0, 0, 0, 0, 0), (31, .invokespecial 25, 34, 10, 1, 0, 0, 134), (34, .putfield 26, 37, 7, 2, 1, 0, 206), (37, .aload_n 0, 38, 0, 0, 0, 0, 0), (38, .new 30, 41, 5, 1, 149, 17, 148), (41, .dup, 42, 0, 0, 0, 0, 0), (42, .invokespecial 32, 45, 27, 1, 0, 0, 150), (45, .putfield 33, 48, 7, 3, 1, 0, 207), (48, .aload_n 0, 49, 0, 0, 0, 0, 0), (49, .new 37, 52, 4, 3, 159, 18, 158)]),
  (74, [(52, .dup, 53, 0, 0, 0, 0, 0), (53, .invokespecial 39, 56, 21, 1, 0, 0, 160), (56, .putfield 40, 59, 7, 4, 1, 0, 208), (59, .aload_n 0, 60, 0, 0, 0, 0, 0), (60, .new 44, 63, 0, 6, 177, 19, 176), (63, .dup, 64, 0, 0, 0, 0, 0), (64, .invokespecial 46, 67, 1, 1, 0, 0, 178), (67, .putfield 47, 70, 7, 5, 1, 0, 209), (70, .aload_n 0, 71, 0, 0, 0, 0, 0), (71, .iconst 3, 72, 0, 0, 0, 3, 0), (72, .newarray .int, 74, 0, 0, 0, 0, 64), (74, .putfield 51, 77, 7, 6, 1, 0, 210)]),
  (100, [(77, .aload_n 0, 78, 0, 0, 0, 0, 0), (78, .getfield 51, 81, 7, 6, 1, 0, 210), (81, .sipush (-10006), 84, 0, 0, 0, (-10006), 0), (84, .invokestatic 55, 87, 80, 2, 0, 0, 201), (87, .aload_n 0, 88, 0, 0, 0, 0, 0), (88, .bipush 8, 90, 0, 0, 0, 8, 0), (90, .newarray .int, 92, 0, 0, 0, 0, 64), (92, .putfield 61, 95, 7, 7, 1, 0, 211), (95, .aload_n 0, 96, 0, 0, 0, 0, 0), (96, .bipush 12, 98, 0, 0, 0, 12, 0), (98, .newarray .int, 100, 0, 0, 0, 0, 64), (100, .putfield 64, 103, 7, 8, 1, 0, 212)]),
  (103, [(103, .return_, 104, 0, 0, 0, 0, 0)])]
def tX8_setWeight : CT := [(21, [(0, .iload_n 1, 1, 1, 0, 0, 0, 0), (1, .ifCond .lt 15, 4, 16, 0, 0, 0, 0), (4, .iload_n 1, 5, 1, 0, 0, 0, 0), (5, .aload_n 0, 6, 0, 0, 0, 0, 0), (6, .getfield 10, 9, 7, 0, 1, 0, 204), (9, .getfield 67, 12, 3, 2, 1, 0, 73), (12, .arraylength, 13, 0, 0, 0, 0, 0), (13, .if_icmp .lt 7, 16, 20, 0, 0, 0, 0), (16, .sipush (-10001), 19, 0, 0, 0, (-10001), 0), (19, .ireturn, 20, 0, 0, 0, 0, 0), (20, .iload_n 2, 21, 2, 0, 0, 0, 0), (21, .iconst 0, 22, 0, 0, 0, 0, 0)]),
  (46, [(22, .bipush 50, 24, 0, 0, 0, 50, 0), (24, .invokestatic 70, 27, 76, 3, 0, 0, 270), (27, .ifCond .eq 7, 30, 34, 0, 0, 0, 0), (30, .sipush (-10002), 33, 0, 0, 0, (-10002), 0), (33, .ireturn, 34, 0, 0, 0, 0, 0), (34, .aload_n 0, 35, 0, 0, 0, 0, 0), (35, .getfield 19, 38, 7, 1, 1, 0, 205), (38, .aload_n 0, 39, 0, 0, 0, 0, 0), (39, .getfield 10, 42, 7, 0, 1, 0, 204), (42, .invokevirtual 74, 45, 13, 2, 2, 0, 438), (45, .aload_n 0, 46, 0, 0, 0, 0, 0), (46, .getfield 10, 49, 7, 0, 1, 0, 204)]),
  (66, [(49, .getfield 67, 52, 3, 2, 1, 0, 73), (52, .iload_n 1, 53, 1, 0, 0, 0, 0), (53, .iaload, 54, 0, 0, 0, 0, 0), (54, .istore_n 3, 55, 3, 0, 0, 0, 0), (55, .aload_n 0, 56, 0, 0, 0, 0, 0), (56, .getfield 10, 59, 7, 0, 1, 0, 204), (59, .getfield 67, 62, 3, 2, 1, 0, 73), (62, .iload_n 1, 63, 1, 0, 0, 0, 0), (63, .iload_n 2, 64, 2, 0, 0, 0, 0), (64, .iastore, 65, 0, 0, 0, 0, 0), (65, .iload_n 3, 66, 3, 0, 0, 0, 0), (66, .ireturn, 67, 0, 0, 0, 0, 0)])]
def tX8_setThreshold : CT := [(23, [(0, .iload_n 1, 1, 1, 0, 0, 0, 0), (1, .iconst 0, 2, 0, 0, 0, 0, 0), (2, .sipush 200, 5, 0, 0, 0, 200, 0), (5, .invokestatic 70, 8, 76, 3, 0, 0, 270), (8, .ifCond .eq 7, 11, 15, 0, 0, 0, 0), (11, .sipush (-10002), 14, 0, 0, 0, (-10002), 0), (14, .ireturn, 15, 0, 0, 0, 0, 0), (15, .aload_n 0, 16, 0, 0, 0, 0, 0), (16, .getfield 19, 19, 7, 1, 1, 0, 205), (19, .aload_n 0, 20, 0, 0, 0, 0, 0), (20, .getfield 10, 23, 7, 0, 1, 0, 204), (23, .invokevirtual 74, 26, 13, 2, 2, 0, 438)]),
  (43, [(26, .aload_n 0, 27, 0, 0, 0, 0, 0), (27, .getfield 10, 30, 7, 0, 1, 0, 204), (30, .getfield 78, 33, 3, 4, 0, 0, 79), (33, .istore_n 2, 34, 2, 0, 0, 0, 0), (34, .aload_n 0, 35, 0, 0, 0, 0, 0), (35, .getfield 10, 38, 7, 0, 1, 0, 204), (38, .iload_n 1, 39, 1, 0, 0, 0, 0), (39, .putfield 78, 42, 3, 4, 0, 0, 79), (42, .iload_n 2, 43, 2, 0, 0, 0, 0), (43, .ireturn, 44, 0, 0, 0, 0, 0)])]
def tX8_found : CT := [(21, [(0, .iload_n 1, 1, 1, 0, 0, 0, 0), (1, .iconst 0, 2, 0, 0, 0, 0, 0), (2, .bipush 7, 4, 0, 0, 0, 7, 0), (4, .invokestatic 70, 7, 76, 3, 0, 0, 270), (7, .ifCond .ne 57, 10, 64, 0, 0, 0, 0), (10, .iload_n 2, 11, 2, 0, 0, 0, 0), (11, .iconst 0, 12, 0, 0, 0, 0, 0), (12, .ldc 88, 14, 0, 0, 0, 999999, 495), (14, .invokestatic 70, 17, 76, 3, 0, 0, 270), (17, .ifCond .ne 47, 20, 64, 0, 0, 0, 0), (20, .iload_n 3, 21, 3, 0, 0, 0, 0), (21, .iconst 0, 22, 0, 0, 0, 0, 0)]),
  (46, [(22, .bipush 63, 24, 0, 0, 0, 63, 0), (24, .invokestatic 70, 27, 76, 3, 0, 0, 270), (27, .ifCond .ne 37, 30, 64, 0, 0, 0, 0), (30, .iload 4, 32, 4, 0, 0, 0, 0), (32, .iconst 0, 33, 0, 0, 0, 0, 0), (33, .bipush 7, 35, 0, 0, 0, 7, 0), (35, .invokestatic 70, 38, 76, 3, 0, 0, 270), (38, .ifCond .ne 26, 41, 64, 0, 0, 0, 0), (41, .iload 5, 43, 5, 0, 0, 0, 0), (43, .iconst 0, 44, 0, 0, 0, 0, 0), (44, .bipush 11, 46, 0, 0, 0, 11, 0), (46, .invokestatic 70, 49, 76, 3, 0, 0, 270)]),
  (75, [(49, .ifCond .ne 15, 52, 64, 0, 0, 0, 0), (52, .iload 6, 54, 6, 0, 0, 0, 0), (54, .iconst 0, 55, 0, 0, 0, 0, 0), (55, .sipush 255, 58, 0, 0, 0, 255, 0), (58, .invokestatic 70, 61, 76, 3, 0, 0, 270), (61, .ifCond .eq 7, 64, 68, 0, 0, 0, 0), (64, .sipush (-10002), 67, 0, 0, 0, (-10002), 0), (67, .ireturn, 68, 0, 0, 0, 0, 0), (68, .aload_n 0, 69, 0, 0, 0, 0, 0), (69, .getfield 10, 72, 7, 0, 1, 0, 204), (72, .getfield 89, 75, 3, 0, 1, 0, 67), (75, .invokevirtual 93, 78, 38, 1, 6, 0, 496)]),
  (101, [(78, .ifCond .eq 7, 81, 85, 0, 0, 0, 0), (81, .sipush (-10004), 84, 0, 0, 0, (-10004), 0), (84, .ireturn, 85, 0, 0, 0, 0, 0), (85, .aload_n 0, 86, 0, 0, 0, 0, 0), (86, .getfield 19, 89, 7, 1, 1, 0, 205), (89, .aload_n 0, 90, 0, 0, 0, 0, 0), (90, .getfield 10, 93, 7, 0, 1, 0, 204), (93, .invokevirtual 74, 96, 13, 2, 2, 0, 438), (96, .aload_n 0, 97, 0, 0, 0, 0, 0), (97, .getfield 10, 100, 7, 0, 1, 0, 204), (100, .iload_n 1, 101, 1, 0, 0, 0, 0), (101, .iload_n 2, 102, 2, 0, 0, 0, 0)]),
  (112, [(102, .iload_n 3, 103, 3, 0, 0, 0, 0), (103, .iload 4, 105, 4, 0, 0, 0, 0), (105, .iload 5, 107, 5, 0, 0, 0, 0), (107, .iload 6, 109, 6, 0, 0, 0, 0), (109, .invokevirtual 99, 112, 16, 7, 3, 0, 500), (112, .ireturn, 113, 0, 0, 0, 0, 0)])]
def tX8_claim : CT := [(21, [(0, .iload_n 1, 1, 1, 0, 0, 0, 0), (1, .iconst 0, 2, 0, 0, 0, 0, 0), (2, .ldc 88, 4, 0, 0, 0, 999999, 495), (4, .invokestatic 70, 7, 76, 3, 0, 0, 270), (7, .ifCond .ne 80, 10, 87, 0, 0, 0, 0), (10, .iload_n 2, 11, 2, 0, 0, 0, 0), (11, .iconst 0, 12, 0, 0, 0, 0, 0), (12, .bipush 7, 14, 0, 0, 0, 7, 0), (14, .invokestatic 70, 17, 76, 3, 0, 0, 270), (17, .ifCond .ne 70, 20, 87, 0, 0, 0, 0), (20, .iload_n 3, 21, 3, 0, 0, 0, 0), (21, .iconst 0, 22, 0, 0, 0, 0, 0)]),
  (48, [(22, .bipush 11, 24, 0, 0, 0, 11, 0), (24, .invokestatic 70, 27, 76, 3, 0, 0, 270), (27, .ifCond .ne 60, 30, 87, 0, 0, 0, 0), (30, .iload 4, 32, 4, 0, 0, 0, 0), (32, .iconst 0, 33, 0, 0, 0, 0, 0), (33, .sipush 255, 36, 0, 0, 0, 255, 0), (36, .invokestatic 70, 39, 76, 3, 0, 0, 270), (39, .ifCond .ne 48, 42, 87, 0, 0, 0, 0), (42, .iload 5, 44, 5, 0, 0, 0, 0), (44, .iconst 1, 45, 0, 0, 0, 1, 0), (45, .sipush 255, 48, 0, 0, 0, 255, 0), (48, .invokestatic 70, 51, 76, 3, 0, 0, 270)]),
  (76, [(51, .ifCond .ne 36, 54, 87, 0, 0, 0, 0), (54, .iload 6, 56, 6, 0, 0, 0, 0), (56, .iconst 1, 57, 0, 0, 0, 1, 0), (57, .ldc 103, 59, 0, 0, 0, 99999, 518), (59, .invokestatic 70, 62, 76, 3, 0, 0, 270), (62, .ifCond .ne 25, 65, 87, 0, 0, 0, 0), (65, .iload 7, 67, 7, 0, 0, 0, 0), (67, .iconst 0, 68, 0, 0, 0, 0, 0), (68, .bipush 20, 70, 0, 0, 0, 20, 0), (70, .invokestatic 70, 73, 76, 3, 0, 0, 270), (73, .ifCond .ne 14, 76, 87, 0, 0, 0, 0), (76, .iload 8, 78, 8, 0, 0, 0, 0)]),
  (104, [(78, .iconst 0, 79, 0, 0, 0, 0, 0), (79, .bipush 30, 81, 0, 0, 0, 30, 0), (81, .invokestatic 70, 84, 76, 3, 0, 0, 270), (84, .ifCond .eq 7, 87, 91, 0, 0, 0, 0), (87, .sipush (-10002), 90, 0, 0, 0, (-10002), 0), (90, .ireturn, 91, 0, 0, 0, 0, 0), (91, .aload_n 0, 92, 0, 0, 0, 0, 0), (92, .getfield 10, 95, 7, 0, 1, 0, 204), (95, .getfield 104, 98, 3, 1, 1, 0, 71), (98, .invokevirtual 93, 101, 38, 1, 6, 0, 496), (101, .ifCond .eq 7, 104, 108, 0, 0, 0, 0), (104, .sipush (-10004), 107, 0, 0, 0, (-10004), 0)]),
  (130, [(107, .ireturn, 108, 0, 0, 0, 0, 0), (108, .aload_n 0, 109, 0, 0, 0, 0, 0), (109, .getfield 19, 112, 7, 1, 1, 0, 205), (112, .aload_n 0, 113, 0, 0, 0, 0, 0), (113, .getfield 10, 116, 7, 0, 1, 0, 204), (116, .invokevirtual 74, 119, 13, 2, 2, 0, 438), (119, .aload_n 0, 120, 0, 0, 0, 0, 0), (120, .getfield 10, 123, 7, 0, 1, 0, 204), (123, .getfield 104, 126, 3, 1, 1, 0, 71), (126, .astore 9, 128, 9, 0, 0, 0, 0), (128, .aload 9, 130, 9, 0, 0, 0, 0), (130, .invokevirtual 107, 133, 47, 1, 6, 0, 519)]),
  (153, [(133, .istore 10, 135, 10, 0, 0, 0, 0), (135, .aload 9, 137, 9, 0, 0, 0, 0), (137, .iload 10, 139, 10, 0, 0, 0, 0), (139, .iconst 0, 140, 0, 0, 0, 0, 0), (140, .iload_n 1, 141, 1, 0, 0, 0, 0), (141, .invokevirtual 111, 144, 42, 4, 6, 0, 520), (144, .aload 9, 146, 9, 0, 0, 0, 0), (146, .iload 10, 148, 10, 0, 0, 0, 0), (148, .iconst 1, 149, 0, 0, 0, 1, 0), (149, .iload_n 2, 150, 2, 0, 0, 0, 0), (150, .invokevirtual 111, 153, 42, 4, 6, 0, 520), (153, .aload 9, 155, 9, 0, 0, 0, 0)]),
  (176, [(155, .iload 10, 157, 10, 0, 0, 0, 0), (157, .iconst 2, 158, 0, 0, 0, 2, 0), (158, .iload_n 3, 159, 3, 0, 0, 0, 0), (159, .invokevirtual 111, 162, 42, 4, 6, 0, 520), (162, .aload 9, 164, 9, 0, 0, 0, 0), (164, .iload 10, 166, 10, 0, 0, 0, 0), (166, .iconst 3, 167, 0, 0, 0, 3, 0), (167, .iload 4, 169, 4, 0, 0, 0, 0), (169, .invokevirtual 111, 172, 42, 4, 6, 0, 520), (172, .aload 9, 174, 9, 0, 0, 0, 0), (174, .iload 10, 176, 10, 0, 0, 0, 0), (176, .iconst 4, 177, 0, 0, 0, 4, 0)]),
  (200, [(177, .iload 5, 179, 5, 0, 0, 0, 0), (179, .invokevirtual 111, 182, 42, 4, 6, 0, 520), (182, .aload 9, 184, 9, 0, 0, 0, 0), (184, .iload 10, 186, 10, 0, 0, 0, 0), (186, .iconst 5, 187, 0, 0, 0, 5, 0), (187, .iload 6, 189, 6, 0, 0, 0, 0), (189, .invokevirtual 111, 192, 42, 4, 6, 0, 520), (192, .aload 9, 194, 9, 0, 0, 0, 0), (194, .iload 10, 196, 10, 0, 0, 0, 0), (196, .bipush 6, 198, 0, 0, 0, 6, 0), (198, .iload 7, 200, 7, 0, 0, 0, 0), (200, .invokevirtual 111, 203, 42, 4, 6, 0, 520)]),
  (226, [(203, .aload 9, 205, 9, 0, 0, 0, 0), (205, .iload 10, 207, 10, 0, 0, 0, 0), (207, .bipush 7, 209, 0, 0, 0, 7, 0), (209, .aload_n 0, 210, 0, 0, 0, 0, 0), (210, .getfield 10, 213, 7, 0, 1, 0, 204), (213, .getfield 115, 216, 3, 3, 0, 0, 76), (216, .iload 8, 218, 8, 0, 0, 0, 0), (218, .isub, 219, 0, 0, 0, 0, 0), (219, .invokevirtual 111, 222, 42, 4, 6, 0, 520), (222, .aload 9, 224, 9, 0, 0, 0, 0), (224, .iload 10, 226, 10, 0, 0, 0, 0), (226, .invokevirtual 118, 229, 40, 2, 6, 0, 361)]),
  (229, [(229, .ireturn, 230, 0, 0, 0, 0, 0)])]
def tX8_match : CT := [(23, [(0, .aload_n 0, 1, 0, 0, 0, 0, 0), (1, .getfield 10, 4, 7, 0, 1, 0, 204), (4, .getfield 104, 7, 3, 1, 1, 0, 71), (7, .iload_n 1, 8, 1, 0, 0, 0, 0), (8, .invokevirtual 122, 11, 39, 2, 6, 0, 266), (11, .istore_n 3, 12, 3, 0, 0, 0, 0), (12, .aload_n 0, 13, 0, 0, 0, 0, 0), (13, .getfield 10, 16, 7, 0, 1, 0, 204), (16, .getfield 89, 19, 3, 0, 1, 0, 67), (19, .iload_n 2, 20, 2, 0, 0, 0, 0), (20, .invokevirtual 122, 23, 39, 2, 6, 0, 266), (23, .istore 4, 25, 4, 0, 0, 0, 0)]),
  (49, [(25, .iload_n 3, 26, 3, 0, 0, 0, 0), (26, .ifCond .lt 8, 29, 34, 0, 0, 0, 0), (29, .iload 4, 31, 4, 0, 0, 0, 0), (31, .ifCond .ge 7, 34, 38, 0, 0, 0, 0), (34, .sipush (-10001), 37, 0, 0, 0, (-10001), 0), (37, .ireturn, 38, 0, 0, 0, 0, 0), (38, .aload_n 0, 39, 0, 0, 0, 0, 0), (39, .getfield 10, 42, 7, 0, 1, 0, 204), (42, .getfield 104, 45, 3, 1, 1, 0, 71), (45, .iload_n 3, 46, 3, 0, 0, 0, 0), (46, .invokevirtual 125, 49, 45, 2, 6, 0, 486), (49, .ifCond .eq 18, 52, 67, 0, 0, 0, 0)]),
  (76, [(52, .aload_n 0, 53, 0, 0, 0, 0, 0), (53, .getfield 10, 56, 7, 0, 1, 0, 204), (56, .getfield 89, 59, 3, 0, 1, 0, 67), (59, .iload 4, 61, 4, 0, 0, 0, 0), (61, .invokevirtual 125, 64, 45, 2, 6, 0, 486), (64, .ifCond .ne 7, 67, 71, 0, 0, 0, 0), (67, .sipush (-10003), 70, 0, 0, 0, (-10003), 0), (70, .ireturn, 71, 0, 0, 0, 0, 0), (71, .aload_n 0, 72, 0, 0, 0, 0, 0), (72, .getfield 33, 75, 7, 3, 1, 0, 207), (75, .aload_n 0, 76, 0, 0, 0, 0, 0), (76, .getfield 10, 79, 7, 0, 1, 0, 204)]),
  (101, [(79, .iload_n 3, 80, 3, 0, 0, 0, 0), (80, .iload 4, 82, 4, 0, 0, 0, 0), (82, .iconst 0, 83, 0, 0, 0, 0, 0), (83, .invokevirtual 129, 86, 28, 5, 5, 0, 273), (86, .istore 5, 88, 5, 0, 0, 0, 0), (88, .iload 5, 90, 5, 0, 0, 0, 0), (90, .sipush (-10006), 93, 0, 0, 0, (-10006), 0), (93, .if_icmp .ne 7, 96, 100, 0, 0, 0, 0), (96, .sipush (-10003), 99, 0, 0, 0, (-10003), 0), (99, .ireturn, 100, 0, 0, 0, 0, 0), (100, .aload_n 0, 101, 0, 0, 0, 0, 0), (101, .getfield 19, 104, 7, 1, 1, 0, 205)]),
  (123, [(104, .aload_n 0, 105, 0, 0, 0, 0, 0), (105, .getfield 10, 108, 7, 0, 1, 0, 204), (108, .invokevirtual 74, 111, 13, 2, 2, 0, 438), (111, .aload_n 0, 112, 0, 0, 0, 0, 0), (112, .getfield 10, 115, 7, 0, 1, 0, 204), (115, .iload_n 3, 116, 3, 0, 0, 0, 0), (116, .iload 4, 118, 4, 0, 0, 0, 0), (118, .invokevirtual 133, 121, 17, 3, 3, 0, 457), (121, .iload 5, 123, 5, 0, 0, 0, 0), (123, .ireturn, 124, 0, 0, 0, 0, 0)])]
def tX8_unmatch : CT := [(21, [(0, .aload_n 0, 1, 0, 0, 0, 0, 0), (1, .getfield 10, 4, 7, 0, 1, 0, 204), (4, .getfield 104, 7, 3, 1, 1, 0, 71), (7, .iload_n 1, 8, 1, 0, 0, 0, 0), (8, .invokevirtual 122, 11, 39, 2, 6, 0, 266), (11, .istore_n 2, 12, 2, 0, 0, 0, 0), (12, .iload_n 2, 13, 2, 0, 0, 0, 0), (13, .ifCond .ge 7, 16, 20, 0, 0, 0, 0), (16, .sipush (-10001), 19, 0, 0, 0, (-10001), 0), (19, .ireturn, 20, 0, 0, 0, 0, 0), (20, .aload_n 0, 21, 0, 0, 0, 0, 0), (21, .getfield 10, 24, 7, 0, 1, 0, 204)]),
  (49, [(24, .getfield 104, 27, 3, 1, 1, 0, 71), (27, .iload_n 2, 28, 2, 0, 0, 0, 0), (28, .invokevirtual 125, 31, 45, 2, 6, 0, 486), (31, .ifCond .eq 7, 34, 38, 0, 0, 0, 0), (34, .sipush (-10003), 37, 0, 0, 0, (-10003), 0), (37, .ireturn, 38, 0, 0, 0, 0, 0), (38, .aload_n 0, 39, 0, 0, 0, 0, 0), (39, .getfield 19, 42, 7, 1, 1, 0, 205), (42, .aload_n 0, 43, 0, 0, 0, 0, 0), (43, .getfield 10, 46, 7, 0, 1, 0, 204), (46, .invokevirtual 74, 49, 13, 2, 2, 0, 438), (49, .aload_n 0, 50, 0, 0, 0, 0, 0)]),
  (75, [(50, .getfield 10, 53, 7, 0, 1, 0, 204), (53, .getfield 104, 56, 3, 1, 1, 0, 71), (56, .iload_n 2, 57, 2, 0, 0, 0, 0), (57, .invokevirtual 137, 60, 43, 2, 6, 0, 525), (60, .istore_n 3, 61, 3, 0, 0, 0, 0), (61, .aload_n 0, 62, 0, 0, 0, 0, 0), (62, .getfield 10, 65, 7, 0, 1, 0, 204), (65, .getfield 104, 68, 3, 1, 1, 0, 71), (68, .iload_n 2, 69, 2, 0, 0, 0, 0), (69, .sipush (-10006), 72, 0, 0, 0, (-10006), 0), (72, .invokevirtual 140, 75, 44, 3, 6, 0, 530), (75, .aload_n 0, 76, 0, 0, 0, 0, 0)]),
  (100, [(76, .getfield 10, 79, 7, 0, 1, 0, 204), (79, .getfield 89, 82, 3, 0, 1, 0, 67), (82, .aload_n 0, 83, 0, 0, 0, 0, 0), (83, .getfield 10, 86, 7, 0, 1, 0, 204), (86, .getfield 89, 89, 3, 0, 1, 0, 67), (89, .iload_n 3, 90, 3, 0, 0, 0, 0), (90, .invokevirtual 122, 93, 39, 2, 6, 0, 266), (93, .sipush (-10006), 96, 0, 0, 0, (-10006), 0), (96, .invokevirtual 140, 99, 44, 3, 6, 0, 530), (99, .iload_n 3, 100, 3, 0, 0, 0, 0), (100, .ireturn, 101, 0, 0, 0, 0, 0)])]
def tX8_matchAll : CT := [(23, [(0, .aload_n 0, 1, 0, 0, 0, 0, 0), (1, .getfield 19, 4, 7, 1, 1, 0, 205), (4, .aload_n 0, 5, 0, 0, 0, 0, 0), (5, .getfield 10, 8, 7, 0, 1, 0, 204), (8, .invokevirtual 74, 11, 13, 2, 2, 0, 438), (11, .aload_n 0, 12, 0, 0, 0, 0, 0), (12, .getfield 40, 15, 7, 4, 1, 0, 208), (15, .aload_n 0, 16, 0, 0, 0, 0, 0), (16, .getfield 10, 19, 7, 0, 1, 0, 204), (19, .aload_n 0, 20, 0, 0, 0, 0, 0), (20, .getfield 33, 23, 7, 3, 1, 0, 207), (23, .invokevirtual 143, 26, 22, 3, 4, 0, 372)]),
  (46, [(26, .iconst 0, 27, 0, 0, 0, 0, 0), (27, .istore_n 1, 28, 1, 0, 0, 0, 0), (28, .iload_n 1, 29, 1, 0, 0, 0, 0), (29, .bipush 10, 31, 0, 0, 0, 10, 0), (31, .if_icmp .ge 43, 34, 74, 0, 0, 0, 0), (34, .aload_n 0, 35, 0, 0, 0, 0, 0), (35, .getfield 40, 38, 7, 4, 1, 0, 208), (38, .invokevirtual 146, 41, 25, 1, 4, 0, 426), (41, .iconst (-1), 42, 0, 0, 0, (-1), 0), (42, .if_icmp .ne 5, 45, 47, 0, 0, 0, 0), (45, .iload_n 1, 46, 1, 0, 0, 0, 0), (46, .ireturn, 47, 0, 0, 0, 0, 0)]),
  (74, [(47, .aload_n 0, 48, 0, 0, 0, 0, 0), (48, .getfield 10, 51, 7, 0, 1, 0, 204), (51, .aload_n 0, 52, 0, 0, 0, 0, 0), (52, .getfield 40, 55, 7, 4, 1, 0, 208), (55, .getfield 149, 58, 4, 1, 0, 0, 166), (58, .aload_n 0, 59, 0, 0, 0, 0, 0), (59, .getfield 40, 62, 7, 4, 1, 0, 208), (62, .getfield 152, 65, 4, 2, 0, 0, 168), (65, .invokevirtual 133, 68, 17, 3, 3, 0, 457), (68, .iinc 1 1, 71, 1, 0, 0, 1, 0), (71, .goto (-43), 74, 28, 0, 0, 0, 0), (74, .bipush 10, 76, 0, 0, 0, 10, 0)]),
  (76, [(76, .ireturn, 77, 0, 0, 0, 0, 0)])]
def tX8_deliver : CT := [(21, [(0, .aload_n 0, 1, 0, 0, 0, 0, 0), (1, .getfield 10, 4, 7, 0, 1, 0, 204), (4, .getfield 104, 7, 3, 1, 1, 0, 71), (7, .iload_n 1, 8, 1, 0, 0, 0, 0), (8, .invokevirtual 122, 11, 39, 2, 6, 0, 266), (11, .istore_n 2, 12, 2, 0, 0, 0, 0), (12, .iload_n 2, 13, 2, 0, 0, 0, 0), (13, .ifCond .ge 7, 16, 20, 0, 0, 0, 0), (16, .sipush (-10001), 19, 0, 0, 0, (-10001), 0), (19, .ireturn, 20, 0, 0, 0, 0, 0), (20, .aload_n 0, 21, 0, 0, 0, 0, 0), (21, .getfield 10, 24, 7, 0, 1, 0, 204)]),
  (49, [(24, .getfield 104, 27, 3, 1, 1, 0, 71), (27, .iload_n 2, 28, 2, 0, 0, 0, 0), (28, .invokevirtual 125, 31, 45, 2, 6, 0, 486), (31, .ifCond .eq 7, 34, 38, 0, 0, 0, 0), (34, .sipush (-10003), 37, 0, 0, 0, (-10003), 0), (37, .ireturn, 38, 0, 0, 0, 0, 0), (38, .aload_n 0, 39, 0, 0, 0, 0, 0), (39, .getfield 19, 42, 7, 1, 1, 0, 205), (42, .aload_n 0, 43, 0, 0, 0, 0, 0), (43, .getfield 10, 46, 7, 0, 1, 0, 204), (46, .invokevirtual 74, 49, 13, 2, 2, 0, 438), (49, .aload_n 0, 50, 0, 0, 0, 0, 0)]),
  (73, [(50, .getfield 10, 53, 7, 0, 1, 0, 204), (53, .iload_n 2, 54, 2, 0, 0, 0, 0), (54, .aload_n 0, 55, 0, 0, 0, 0, 0), (55, .getfield 10, 58, 7, 0, 1, 0, 204), (58, .getfield 115, 61, 3, 3, 0, 0, 76), (61, .invokevirtual 155, 64, 18, 3, 3, 0, 535), (64, .istore_n 3, 65, 3, 0, 0, 0, 0), (65, .aload_n 0, 66, 0, 0, 0, 0, 0), (66, .getfield 10, 69, 7, 0, 1, 0, 204), (69, .getfield 89, 72, 3, 0, 1, 0, 67), (72, .aload_n 0, 73, 0, 0, 0, 0, 0), (73, .getfield 10, 76, 7, 0, 1, 0, 204)]),
  (103, [(76, .getfield 89, 79, 3, 0, 1, 0, 67), (79, .aload_n 0, 80, 0, 0, 0, 0, 0), (80, .getfield 10, 83, 7, 0, 1, 0, 204), (83, .getfield 104, 86, 3, 1, 1, 0, 71), (86, .iload_n 2, 87, 2, 0, 0, 0, 0), (87, .invokevirtual 137, 90, 43, 2, 6, 0, 525), (90, .invokevirtual 122, 93, 39, 2, 6, 0, 266), (93, .invokevirtual 159, 96, 48, 2, 6, 0, 549), (96, .aload_n 0, 97, 0, 0, 0, 0, 0), (97, .getfield 10, 100, 7, 0, 1, 0, 204), (100, .getfield 104, 103, 3, 1, 1, 0, 71), (103, .iload_n 2, 104, 2, 0, 0, 0, 0)]),
  (125, [(104, .invokevirtual 159, 107, 48, 2, 6, 0, 549), (107, .aload_n 0, 108, 0, 0, 0, 0, 0), (108, .getfield 10, 111, 7, 0, 1, 0, 204), (111, .dup, 112, 0, 0, 0, 0, 0), (112, .getfield 163, 115, 3, 7, 0, 0, 83), (115, .iconst 1, 116, 0, 0, 0, 1, 0), (116, .iadd, 117, 0, 0, 0, 0, 0), (117, .putfield 163, 120, 3, 7, 0, 0, 83), (120, .aload_n 0, 121, 0, 0, 0, 0, 0), (121, .getfield 10, 124, 7, 0, 1, 0, 204), (124, .dup, 125, 0, 0, 0, 0, 0), (125, .getfield 166, 128, 3, 10, 0, 0, 89)]),
  (134, [(128, .iload_n 3, 129, 3, 0, 0, 0, 0), (129, .iadd, 130, 0, 0, 0, 0, 0), (130, .putfield 166, 133, 3, 10, 0, 0, 89), (133, .iload_n 3, 134, 3, 0, 0, 0, 0), (134, .ireturn, 135, 0, 0, 0, 0, 0)])]
def tX8_giveUp : CT := [(21, [(0, .aload_n 0, 1, 0, 0, 0, 0, 0), (1, .getfield 10, 4, 7, 0, 1, 0, 204), (4, .getfield 104, 7, 3, 1, 1, 0, 71), (7, .iload_n 1, 8, 1, 0, 0, 0, 0), (8, .invokevirtual 122, 11, 39, 2, 6, 0, 266), (11, .istore_n 2, 12, 2, 0, 0, 0, 0), (12, .iload_n 2, 13, 2, 0, 0, 0, 0), (13, .ifCond .ge 7, 16, 20, 0, 0, 0, 0), (16, .sipush (-10001), 19, 0, 0, 0, (-10001), 0), (19, .ireturn, 20, 0, 0, 0, 0, 0), (20, .aload_n 0, 21, 0, 0, 0, 0, 0), (21, .getfield 10, 24, 7, 0, 1, 0, 204)]),
  (46, [(24, .getfield 115, 27, 3, 3, 0, 0, 76), (27, .aload_n 0, 28, 0, 0, 0, 0, 0), (28, .getfield 10, 31, 7, 0, 1, 0, 204), (31, .getfield 104, 34, 3, 1, 1, 0, 71), (34, .iload_n 2, 35, 2, 0, 0, 0, 0), (35, .bipush 7, 37, 0, 0, 0, 7, 0), (37, .invokevirtual 169, 40, 41, 3, 6, 0, 323), (40, .isub, 41, 0, 0, 0, 0, 0), (41, .istore_n 3, 42, 3, 0, 0, 0, 0), (42, .aload_n 0, 43, 0, 0, 0, 0, 0), (43, .getfield 10, 46, 7, 0, 1, 0, 204), (46, .getfield 104, 49, 3, 1, 1, 0, 71)]),
  (71, [(49, .iload_n 2, 50, 2, 0, 0, 0, 0), (50, .invokevirtual 125, 53, 45, 2, 6, 0, 486), (53, .ifCond .eq 9, 56, 62, 0, 0, 0, 0), (56, .iload_n 3, 57, 3, 0, 0, 0, 0), (57, .bipush 21, 59, 0, 0, 0, 21, 0), (59, .if_icmp .ge 7, 62, 66, 0, 0, 0, 0), (62, .sipush (-10003), 65, 0, 0, 0, (-10003), 0), (65, .ireturn, 66, 0, 0, 0, 0, 0), (66, .aload_n 0, 67, 0, 0, 0, 0, 0), (67, .getfield 19, 70, 7, 1, 1, 0, 205), (70, .aload_n 0, 71, 0, 0, 0, 0, 0), (71, .getfield 10, 74, 7, 0, 1, 0, 204)]),
  (98, [(74, .invokevirtual 74, 77, 13, 2, 2, 0, 438), (77, .aload_n 0, 78, 0, 0, 0, 0, 0), (78, .getfield 10, 81, 7, 0, 1, 0, 204), (81, .iload_n 2, 82, 2, 0, 0, 0, 0), (82, .invokevirtual 172, 85, 19, 2, 3, 0, 540), (85, .istore 4, 87, 4, 0, 0, 0, 0), (87, .aload_n 0, 88, 0, 0, 0, 0, 0), (88, .getfield 10, 91, 7, 0, 1, 0, 204), (91, .getfield 104, 94, 3, 1, 1, 0, 71), (94, .iload_n 2, 95, 2, 0, 0, 0, 0), (95, .invokevirtual 159, 98, 48, 2, 6, 0, 549), (98, .aload_n 0, 99, 0, 0, 0, 0, 0)]),
  (121, [(99, .getfield 10, 102, 7, 0, 1, 0, 204), (102, .dup, 103, 0, 0, 0, 0, 0), (103, .getfield 175, 106, 3, 8, 0, 0, 85), (106, .iconst 1, 107, 0, 0, 0, 1, 0), (107, .iadd, 108, 0, 0, 0, 0, 0), (108, .putfield 175, 111, 3, 8, 0, 0, 85), (111, .aload_n 0, 112, 0, 0, 0, 0, 0), (112, .getfield 10, 115, 7, 0, 1, 0, 204), (115, .dup, 116, 0, 0, 0, 0, 0), (116, .getfield 166, 119, 3, 10, 0, 0, 89), (119, .iload 4, 121, 4, 0, 0, 0, 0), (121, .iadd, 122, 0, 0, 0, 0, 0)]),
  (127, [(122, .putfield 166, 125, 3, 10, 0, 0, 89), (125, .iload 4, 127, 4, 0, 0, 0, 0), (127, .ireturn, 128, 0, 0, 0, 0, 0)])]
def tX8_auction : CT := [(21, [(0, .aload_n 0, 1, 0, 0, 0, 0, 0), (1, .getfield 10, 4, 7, 0, 1, 0, 204), (4, .getfield 89, 7, 3, 0, 1, 0, 67), (7, .iload_n 1, 8, 1, 0, 0, 0, 0), (8, .invokevirtual 122, 11, 39, 2, 6, 0, 266), (11, .istore_n 2, 12, 2, 0, 0, 0, 0), (12, .iload_n 2, 13, 2, 0, 0, 0, 0), (13, .ifCond .ge 7, 16, 20, 0, 0, 0, 0), (16, .sipush (-10001), 19, 0, 0, 0, (-10001), 0), (19, .ireturn, 20, 0, 0, 0, 0, 0), (20, .aload_n 0, 21, 0, 0, 0, 0, 0), (21, .getfield 10, 24, 7, 0, 1, 0, 204)]),
  (46, [(24, .getfield 115, 27, 3, 3, 0, 0, 76), (27, .aload_n 0, 28, 0, 0, 0, 0, 0), (28, .getfield 10, 31, 7, 0, 1, 0, 204), (31, .getfield 89, 34, 3, 0, 1, 0, 67), (34, .iload_n 2, 35, 2, 0, 0, 0, 0), (35, .bipush 6, 37, 0, 0, 0, 6, 0), (37, .invokevirtual 169, 40, 41, 3, 6, 0, 323), (40, .isub, 41, 0, 0, 0, 0, 0), (41, .istore_n 3, 42, 3, 0, 0, 0, 0), (42, .aload_n 0, 43, 0, 0, 0, 0, 0), (43, .getfield 10, 46, 7, 0, 1, 0, 204), (46, .getfield 89, 49, 3, 0, 1, 0, 67)]),
  (71, [(49, .iload_n 2, 50, 2, 0, 0, 0, 0), (50, .invokevirtual 125, 53, 45, 2, 6, 0, 486), (53, .ifCond .eq 9, 56, 62, 0, 0, 0, 0), (56, .iload_n 3, 57, 3, 0, 0, 0, 0), (57, .bipush 90, 59, 0, 0, 0, 90, 0), (59, .if_icmp .ge 7, 62, 66, 0, 0, 0, 0), (62, .sipush (-10003), 65, 0, 0, 0, (-10003), 0), (65, .ireturn, 66, 0, 0, 0, 0, 0), (66, .aload_n 0, 67, 0, 0, 0, 0, 0), (67, .getfield 19, 70, 7, 1, 1, 0, 205), (70, .aload_n 0, 71, 0, 0, 0, 0, 0), (71, .getfield 10, 74, 7, 0, 1, 0, 204)]),
  (97, [(74, .invokevirtual 74, 77, 13, 2, 2, 0, 438), (77, .aload_n 0, 78, 0, 0, 0, 0, 0), (78, .getfield 10, 81, 7, 0, 1, 0, 204), (81, .getfield 89, 84, 3, 0, 1, 0, 67), (84, .iload_n 2, 85, 2, 0, 0, 0, 0), (85, .invokevirtual 159, 88, 48, 2, 6, 0, 549), (88, .aload_n 0, 89, 0, 0, 0, 0, 0), (89, .getfield 10, 92, 7, 0, 1, 0, 204), (92, .dup, 93, 0, 0, 0, 0, 0), (93, .getfield 178, 96, 3, 9, 0, 0, 87), (96, .iconst 1, 97, 0, 0, 0, 1, 0), (97, .iadd, 98, 0, 0, 0, 0, 0)]),
  (111, [(98, .putfield 178, 101, 3, 9, 0, 0, 87), (101, .aload_n 0, 102, 0, 0, 0, 0, 0), (102, .getfield 10, 105, 7, 0, 1, 0, 204), (105, .getfield 89, 108, 3, 0, 1, 0, 67), (108, .invokevirtual 181, 111, 37, 1, 6, 0, 236), (111, .ireturn, 112, 0, 0, 0, 0, 0)])]
def tX8_pass : CT := [(23, [(0, .iload_n 1, 1, 1, 0, 0, 0, 0), (1, .iconst 1, 2, 0, 0, 0, 1, 0), (2, .sipush 400, 5, 0, 0, 0, 400, 0), (5, .invokestatic 70, 8, 76, 3, 0, 0, 270), (8, .ifCond .eq 7, 11, 15, 0, 0, 0, 0), (11, .sipush (-10002), 14, 0, 0, 0, (-10002), 0), (14, .ireturn, 15, 0, 0, 0, 0, 0), (15, .aload_n 0, 16, 0, 0, 0, 0, 0), (16, .getfield 10, 19, 7, 0, 1, 0, 204), (19, .getfield 115, 22, 3, 3, 0, 0, 76), (22, .iload_n 1, 23, 1, 0, 0, 0, 0), (23, .iadd, 24, 0, 0, 0, 0, 0)]),
  (49, [(24, .sipush 9999, 27, 0, 0, 0, 9999, 0), (27, .if_icmp .le 7, 30, 34, 0, 0, 0, 0), (30, .sipush (-10004), 33, 0, 0, 0, (-10004), 0), (33, .ireturn, 34, 0, 0, 0, 0, 0), (34, .aload_n 0, 35, 0, 0, 0, 0, 0), (35, .getfield 19, 38, 7, 1, 1, 0, 205), (38, .aload_n 0, 39, 0, 0, 0, 0, 0), (39, .getfield 10, 42, 7, 0, 1, 0, 204), (42, .invokevirtual 74, 45, 13, 2, 2, 0, 438), (45, .aload_n 0, 46, 0, 0, 0, 0, 0), (46, .getfield 10, 49, 7, 0, 1, 0, 204), (49, .dup, 50, 0, 0, 0, 0, 0)]),
  (65, [(50, .getfield 115, 53, 3, 3, 0, 0, 76), (53, .iload_n 1, 54, 1, 0, 0, 0, 0), (54, .iadd, 55, 0, 0, 0, 0, 0), (55, .putfield 115, 58, 3, 3, 0, 0, 76), (58, .aload_n 0, 59, 0, 0, 0, 0, 0), (59, .getfield 10, 62, 7, 0, 1, 0, 204), (62, .getfield 115, 65, 3, 3, 0, 0, 76), (65, .ireturn, 66, 0, 0, 0, 0, 0)])]
def tX8_count : CT := [(67, [(0, .iload_n 1, 1, 1, 0, 0, 0, 0), (1, .tableswitch 120 0 7 #[47, 55, 66, 77, 88, 96, 104, 112], 48, 0, 0, 0, 1, 0), (48, .aload_n 0, 49, 0, 0, 0, 0, 0), (49, .getfield 10, 52, 7, 0, 1, 0, 204), (52, .getfield 115, 55, 3, 3, 0, 0, 76), (55, .ireturn, 56, 0, 0, 0, 0, 0), (56, .aload_n 0, 57, 0, 0, 0, 0, 0), (57, .getfield 10, 60, 7, 0, 1, 0, 204), (60, .getfield 89, 63, 3, 0, 1, 0, 67), (63, .invokevirtual 181, 66, 37, 1, 6, 0, 236), (66, .ireturn, 67, 0, 0, 0, 0, 0), (67, .aload_n 0, 68, 0, 0, 0, 0, 0)]),
  (93, [(68, .getfield 10, 71, 7, 0, 1, 0, 204), (71, .getfield 104, 74, 3, 1, 1, 0, 71), (74, .invokevirtual 181, 77, 37, 1, 6, 0, 236), (77, .ireturn, 78, 0, 0, 0, 0, 0), (78, .aload_n 0, 79, 0, 0, 0, 0, 0), (79, .getfield 10, 82, 7, 0, 1, 0, 204), (82, .getfield 104, 85, 3, 1, 1, 0, 71), (85, .invokevirtual 184, 88, 46, 1, 6, 0, 240), (88, .ireturn, 89, 0, 0, 0, 0, 0), (89, .aload_n 0, 90, 0, 0, 0, 0, 0), (90, .getfield 10, 93, 7, 0, 1, 0, 204), (93, .getfield 163, 96, 3, 7, 0, 0, 83)]),
  (117, [(96, .ireturn, 97, 0, 0, 0, 0, 0), (97, .aload_n 0, 98, 0, 0, 0, 0, 0), (98, .getfield 10, 101, 7, 0, 1, 0, 204), (101, .getfield 175, 104, 3, 8, 0, 0, 85), (104, .ireturn, 105, 0, 0, 0, 0, 0), (105, .aload_n 0, 106, 0, 0, 0, 0, 0), (106, .getfield 10, 109, 7, 0, 1, 0, 204), (109, .getfield 178, 112, 3, 9, 0, 0, 87), (112, .ireturn, 113, 0, 0, 0, 0, 0), (113, .aload_n 0, 114, 0, 0, 0, 0, 0), (114, .getfield 10, 117, 7, 0, 1, 0, 204), (117, .getfield 166, 120, 3, 10, 0, 0, 89)]),
  (124, [(120, .ireturn, 121, 0, 0, 0, 0, 0), (121, .sipush (-10002), 124, 0, 0, 0, (-10002), 0), (124, .ireturn, 125, 0, 0, 0, 0, 0)])]
def tX8_bag : CT := [(12, [(0, .aload_n 0, 1, 0, 0, 0, 0, 0), (1, .getfield 10, 4, 7, 0, 1, 0, 204), (4, .getfield 89, 7, 3, 0, 1, 0, 67), (7, .iload_n 1, 8, 1, 0, 0, 0, 0), (8, .iload_n 2, 9, 2, 0, 0, 0, 0), (9, .invokestatic 187, 12, 77, 3, 0, 0, 320), (12, .ireturn, 13, 0, 0, 0, 0, 0)])]
def tX8_claimOf : CT := [(12, [(0, .aload_n 0, 1, 0, 0, 0, 0, 0), (1, .getfield 10, 4, 7, 0, 1, 0, 204), (4, .getfield 104, 7, 3, 1, 1, 0, 71), (7, .iload_n 1, 8, 1, 0, 0, 0, 0), (8, .iload_n 2, 9, 2, 0, 0, 0, 0), (9, .invokestatic 187, 12, 77, 3, 0, 0, 320), (12, .ireturn, 13, 0, 0, 0, 0, 0)])]
def tX8_score : CT := [(24, [(0, .aload_n 0, 1, 0, 0, 0, 0, 0), (1, .getfield 10, 4, 7, 0, 1, 0, 204), (4, .getfield 104, 7, 3, 1, 1, 0, 71), (7, .iload_n 1, 8, 1, 0, 0, 0, 0), (8, .invokevirtual 122, 11, 39, 2, 6, 0, 266), (11, .istore 4, 13, 4, 0, 0, 0, 0), (13, .aload_n 0, 14, 0, 0, 0, 0, 0), (14, .getfield 10, 17, 7, 0, 1, 0, 204), (17, .getfield 89, 20, 3, 0, 1, 0, 67), (20, .iload_n 2, 21, 2, 0, 0, 0, 0), (21, .invokevirtual 122, 24, 39, 2, 6, 0, 266), (24, .istore 5, 26, 5, 0, 0, 0, 0)]),
  (50, [(26, .iload 4, 28, 4, 0, 0, 0, 0), (28, .ifCond .lt 8, 31, 36, 0, 0, 0, 0), (31, .iload 5, 33, 5, 0, 0, 0, 0), (33, .ifCond .ge 7, 36, 40, 0, 0, 0, 0), (36, .sipush (-10001), 39, 0, 0, 0, (-10001), 0), (39, .ireturn, 40, 0, 0, 0, 0, 0), (40, .iload_n 3, 41, 3, 0, 0, 0, 0), (41, .iconst 0, 42, 0, 0, 0, 0, 0), (42, .bipush 6, 44, 0, 0, 0, 6, 0), (44, .invokestatic 70, 47, 76, 3, 0, 0, 270), (47, .ifCond .eq 7, 50, 54, 0, 0, 0, 0), (50, .sipush (-10002), 53, 0, 0, 0, (-10002), 0)]),
  (70, [(53, .ireturn, 54, 0, 0, 0, 0, 0), (54, .aload_n 0, 55, 0, 0, 0, 0, 0), (55, .getfield 33, 58, 7, 3, 1, 0, 207), (58, .aload_n 0, 59, 0, 0, 0, 0, 0), (59, .getfield 10, 62, 7, 0, 1, 0, 204), (62, .iload 4, 64, 4, 0, 0, 0, 0), (64, .iload 5, 66, 5, 0, 0, 0, 0), (66, .iload_n 3, 67, 3, 0, 0, 0, 0), (67, .invokevirtual 129, 70, 28, 5, 5, 0, 273), (70, .ireturn, 71, 0, 0, 0, 0, 0)])]
def tX8_suggest : CT := [(21, [(0, .aload_n 0, 1, 0, 0, 0, 0, 0), (1, .getfield 10, 4, 7, 0, 1, 0, 204), (4, .getfield 104, 7, 3, 1, 1, 0, 71), (7, .iload_n 1, 8, 1, 0, 0, 0, 0), (8, .invokevirtual 122, 11, 39, 2, 6, 0, 266), (11, .istore_n 3, 12, 3, 0, 0, 0, 0), (12, .iload_n 3, 13, 3, 0, 0, 0, 0), (13, .ifCond .ge 7, 16, 20, 0, 0, 0, 0), (16, .sipush (-10001), 19, 0, 0, 0, (-10001), 0), (19, .ireturn, 20, 0, 0, 0, 0, 0), (20, .iconst 0, 21, 0, 0, 0, 0, 0), (21, .istore 4, 23, 4, 0, 0, 0, 0)]),
  (45, [(23, .iload 4, 25, 4, 0, 0, 0, 0), (25, .bipush 12, 27, 0, 0, 0, 12, 0), (27, .if_icmp .ge 30, 30, 57, 0, 0, 0, 0), (30, .aload_n 0, 31, 0, 0, 0, 0, 0), (31, .getfield 64, 34, 7, 8, 1, 0, 212), (34, .iload 4, 36, 4, 0, 0, 0, 0), (36, .aload_n 0, 37, 0, 0, 0, 0, 0), (37, .getfield 33, 40, 7, 3, 1, 0, 207), (40, .aload_n 0, 41, 0, 0, 0, 0, 0), (41, .getfield 10, 44, 7, 0, 1, 0, 204), (44, .iload_n 3, 45, 3, 0, 0, 0, 0), (45, .iload 4, 47, 4, 0, 0, 0, 0)]),
  (71, [(47, .invokevirtual 191, 50, 29, 4, 5, 0, 352), (50, .iastore, 51, 0, 0, 0, 0, 0), (51, .iinc 4 1, 54, 4, 0, 0, 1, 0), (54, .goto (-31), 57, 23, 0, 0, 0, 0), (57, .iconst 0, 58, 0, 0, 0, 0, 0), (58, .istore 4, 60, 4, 0, 0, 0, 0), (60, .iload 4, 62, 4, 0, 0, 0, 0), (62, .bipush 12, 64, 0, 0, 0, 12, 0), (64, .if_icmp .ge 43, 67, 107, 0, 0, 0, 0), (67, .aload_n 0, 68, 0, 0, 0, 0, 0), (68, .getfield 64, 71, 7, 8, 1, 0, 212), (71, .iload 4, 73, 4, 0, 0, 0, 0)]),
  (95, [(73, .iaload, 74, 0, 0, 0, 0, 0), (74, .iconst (-1), 75, 0, 0, 0, (-1), 0), (75, .if_icmp .eq 26, 78, 101, 0, 0, 0, 0), (78, .aload_n 0, 79, 0, 0, 0, 0, 0), (79, .iload 4, 81, 4, 0, 0, 0, 0), (81, .invokevirtual 195, 84, 78, 2, 7, 0, 357), (84, .iload_n 2, 85, 2, 0, 0, 0, 0), (85, .if_icmp .ne 16, 88, 101, 0, 0, 0, 0), (88, .aload_n 0, 89, 0, 0, 0, 0, 0), (89, .getfield 10, 92, 7, 0, 1, 0, 204), (92, .getfield 89, 95, 3, 0, 1, 0, 67), (95, .iload 4, 97, 4, 0, 0, 0, 0)]),
  (110, [(97, .invokevirtual 118, 100, 40, 2, 6, 0, 361), (100, .ireturn, 101, 0, 0, 0, 0, 0), (101, .iinc 4 1, 104, 4, 0, 0, 1, 0), (104, .goto (-44), 107, 60, 0, 0, 0, 0), (107, .sipush (-10001), 110, 0, 0, 0, (-10001), 0), (110, .ireturn, 111, 0, 0, 0, 0, 0)])]
def tX8_sameDigits : CT := [(23, [(0, .aload_n 0, 1, 0, 0, 0, 0, 0), (1, .getfield 10, 4, 7, 0, 1, 0, 204), (4, .getfield 104, 7, 3, 1, 1, 0, 71), (7, .iload_n 1, 8, 1, 0, 0, 0, 0), (8, .invokevirtual 122, 11, 39, 2, 6, 0, 266), (11, .istore_n 3, 12, 3, 0, 0, 0, 0), (12, .aload_n 0, 13, 0, 0, 0, 0, 0), (13, .getfield 10, 16, 7, 0, 1, 0, 204), (16, .getfield 89, 19, 3, 0, 1, 0, 67), (19, .iload_n 2, 20, 2, 0, 0, 0, 0), (20, .invokevirtual 122, 23, 39, 2, 6, 0, 266), (23, .istore 4, 25, 4, 0, 0, 0, 0)]),
  (47, [(25, .iload_n 3, 26, 3, 0, 0, 0, 0), (26, .ifCond .lt 8, 29, 34, 0, 0, 0, 0), (29, .iload 4, 31, 4, 0, 0, 0, 0), (31, .ifCond .ge 7, 34, 38, 0, 0, 0, 0), (34, .sipush (-10001), 37, 0, 0, 0, (-10001), 0), (37, .ireturn, 38, 0, 0, 0, 0, 0), (38, .aload_n 0, 39, 0, 0, 0, 0, 0), (39, .getfield 10, 42, 7, 0, 1, 0, 204), (42, .getfield 104, 45, 3, 1, 1, 0, 71), (45, .iload_n 3, 46, 3, 0, 0, 0, 0), (46, .iconst 0, 47, 0, 0, 0, 0, 0), (47, .invokevirtual 169, 50, 41, 3, 6, 0, 323)]),
  (73, [(50, .aload_n 0, 51, 0, 0, 0, 0, 0), (51, .getfield 10, 54, 7, 0, 1, 0, 204), (54, .getfield 89, 57, 3, 0, 1, 0, 67), (57, .iload 4, 59, 4, 0, 0, 0, 0), (59, .iconst 1, 60, 0, 0, 0, 1, 0), (60, .invokevirtual 169, 63, 41, 3, 6, 0, 323), (63, .aload_n 0, 64, 0, 0, 0, 0, 0), (64, .getfield 10, 67, 7, 0, 1, 0, 204), (67, .getfield 89, 70, 3, 0, 1, 0, 67), (70, .iload 4, 72, 4, 0, 0, 0, 0), (72, .iconst 2, 73, 0, 0, 0, 2, 0), (73, .invokevirtual 169, 76, 41, 3, 6, 0, 323)]),
  (79, [(76, .invokestatic 198, 79, 51, 3, 0, 0, 337), (79, .ireturn, 80, 0, 0, 0, 0, 0)])]
def tX8_bestTotal : CT := [(23, [(0, .aload_n 0, 1, 0, 0, 0, 0, 0), (1, .getfield 40, 4, 7, 4, 1, 0, 208), (4, .aload_n 0, 5, 0, 0, 0, 0, 0), (5, .getfield 10, 8, 7, 0, 1, 0, 204), (8, .aload_n 0, 9, 0, 0, 0, 0, 0), (9, .getfield 33, 12, 7, 3, 1, 0, 207), (12, .invokevirtual 143, 15, 22, 3, 4, 0, 372), (15, .aload_n 0, 16, 0, 0, 0, 0, 0), (16, .getfield 47, 19, 7, 5, 1, 0, 209), (19, .aload_n 0, 20, 0, 0, 0, 0, 0), (20, .getfield 40, 23, 7, 4, 1, 0, 208), (23, .invokevirtual 204, 26, 2, 2, 0, 0, 378)]),
  (26, [(26, .ireturn, 27, 0, 0, 0, 0, 0)])]
def tX8_totalOfAll : CT := [(19, [(0, .aload_n 0, 1, 0, 0, 0, 0, 0), (1, .getfield 40, 4, 7, 4, 1, 0, 208), (4, .aload_n 0, 5, 0, 0, 0, 0, 0), (5, .getfield 10, 8, 7, 0, 1, 0, 204), (8, .aload_n 0, 9, 0, 0, 0, 0, 0), (9, .getfield 33, 12, 7, 3, 1, 0, 207), (12, .invokevirtual 143, 15, 22, 3, 4, 0, 372), (15, .iconst 0, 16, 0, 0, 0, 0, 0), (16, .istore_n 1, 17, 1, 0, 0, 0, 0), (17, .iconst 0, 18, 0, 0, 0, 0, 0), (18, .istore_n 2, 19, 2, 0, 0, 0, 0), (19, .iload_n 2, 20, 2, 0, 0, 0, 0)]),
  (40, [(20, .bipush 10, 22, 0, 0, 0, 10, 0), (22, .if_icmp .ge 28, 25, 50, 0, 0, 0, 0), (25, .aload_n 0, 26, 0, 0, 0, 0, 0), (26, .getfield 40, 29, 7, 4, 1, 0, 208), (29, .invokevirtual 146, 32, 25, 1, 4, 0, 426), (32, .istore_n 3, 33, 3, 0, 0, 0, 0), (33, .iload_n 3, 34, 3, 0, 0, 0, 0), (34, .iconst (-1), 35, 0, 0, 0, (-1), 0), (35, .if_icmp .ne 5, 38, 40, 0, 0, 0, 0), (38, .iload_n 1, 39, 1, 0, 0, 0, 0), (39, .ireturn, 40, 0, 0, 0, 0, 0), (40, .iload_n 1, 41, 1, 0, 0, 0, 0)]),
  (51, [(41, .iload_n 3, 42, 3, 0, 0, 0, 0), (42, .iadd, 43, 0, 0, 0, 0, 0), (43, .istore_n 1, 44, 1, 0, 0, 0, 0), (44, .iinc 2 1, 47, 2, 0, 0, 1, 0), (47, .goto (-28), 50, 19, 0, 0, 0, 0), (50, .iload_n 1, 51, 1, 0, 0, 0, 0), (51, .ireturn, 52, 0, 0, 0, 0, 0)])]
def tX8_thresholdFor : CT := [(23, [(0, .aload_n 0, 1, 0, 0, 0, 0, 0), (1, .getfield 10, 4, 7, 0, 1, 0, 204), (4, .getfield 104, 7, 3, 1, 1, 0, 71), (7, .iload_n 1, 8, 1, 0, 0, 0, 0), (8, .invokevirtual 122, 11, 39, 2, 6, 0, 266), (11, .istore_n 3, 12, 3, 0, 0, 0, 0), (12, .aload_n 0, 13, 0, 0, 0, 0, 0), (13, .getfield 10, 16, 7, 0, 1, 0, 204), (16, .getfield 89, 19, 3, 0, 1, 0, 67), (19, .iload_n 2, 20, 2, 0, 0, 0, 0), (20, .invokevirtual 122, 23, 39, 2, 6, 0, 266), (23, .istore 4, 25, 4, 0, 0, 0, 0)]),
  (47, [(25, .iload_n 3, 26, 3, 0, 0, 0, 0), (26, .ifCond .lt 8, 29, 34, 0, 0, 0, 0), (29, .iload 4, 31, 4, 0, 0, 0, 0), (31, .ifCond .ge 7, 34, 38, 0, 0, 0, 0), (34, .sipush (-10001), 37, 0, 0, 0, (-10001), 0), (37, .ireturn, 38, 0, 0, 0, 0, 0), (38, .aload_n 0, 39, 0, 0, 0, 0, 0), (39, .getfield 33, 42, 7, 3, 1, 0, 207), (42, .aload_n 0, 43, 0, 0, 0, 0, 0), (43, .getfield 10, 46, 7, 0, 1, 0, 204), (46, .iload_n 3, 47, 3, 0, 0, 0, 0), (47, .iload 4, 49, 4, 0, 0, 0, 0)]),
  (72, [(49, .iconst 0, 50, 0, 0, 0, 0, 0), (50, .invokevirtual 129, 53, 28, 5, 5, 0, 273), (53, .istore 5, 55, 5, 0, 0, 0, 0), (55, .iload 5, 57, 5, 0, 0, 0, 0), (57, .ifCond .ge 7, 60, 64, 0, 0, 0, 0), (60, .sipush (-10006), 63, 0, 0, 0, (-10006), 0), (63, .ireturn, 64, 0, 0, 0, 0, 0), (64, .iload 5, 66, 5, 0, 0, 0, 0), (66, .sipush 200, 69, 0, 0, 0, 200, 0), (69, .invokestatic 208, 72, 0, 2, 2, 0, 332), (72, .ireturn, 73, 0, 0, 0, 0, 0)])]
def tX8_ifEnded : CT := [(23, [(0, .aload_n 0, 1, 0, 0, 0, 0, 0), (1, .getfield 10, 4, 7, 0, 1, 0, 204), (4, .getfield 104, 7, 3, 1, 1, 0, 71), (7, .iload_n 1, 8, 1, 0, 0, 0, 0), (8, .invokevirtual 122, 11, 39, 2, 6, 0, 266), (11, .istore 4, 13, 4, 0, 0, 0, 0), (13, .iload 4, 15, 4, 0, 0, 0, 0), (15, .ifCond .ge 7, 18, 22, 0, 0, 0, 0), (18, .sipush (-10001), 21, 0, 0, 0, (-10001), 0), (21, .ireturn, 22, 0, 0, 0, 0, 0), (22, .iload_n 2, 23, 2, 0, 0, 0, 0), (23, .iconst 0, 24, 0, 0, 0, 0, 0)]),
  (47, [(24, .sipush 400, 27, 0, 0, 0, 400, 0), (27, .invokestatic 70, 30, 76, 3, 0, 0, 270), (30, .ifCond .ne 12, 33, 42, 0, 0, 0, 0), (33, .iload_n 3, 34, 3, 0, 0, 0, 0), (34, .iconst 0, 35, 0, 0, 0, 0, 0), (35, .iconst 1, 36, 0, 0, 0, 1, 0), (36, .invokestatic 70, 39, 76, 3, 0, 0, 270), (39, .ifCond .eq 7, 42, 46, 0, 0, 0, 0), (42, .sipush (-10002), 45, 0, 0, 0, (-10002), 0), (45, .ireturn, 46, 0, 0, 0, 0, 0), (46, .iload_n 3, 47, 3, 0, 0, 0, 0), (47, .ifCond .ne 22, 50, 69, 0, 0, 0, 0)]),
  (70, [(50, .aload_n 0, 51, 0, 0, 0, 0, 0), (51, .getfield 10, 54, 7, 0, 1, 0, 204), (54, .iload 4, 56, 4, 0, 0, 0, 0), (56, .aload_n 0, 57, 0, 0, 0, 0, 0), (57, .getfield 10, 60, 7, 0, 1, 0, 204), (60, .getfield 115, 63, 3, 3, 0, 0, 76), (63, .iload_n 2, 64, 2, 0, 0, 0, 0), (64, .iadd, 65, 0, 0, 0, 0, 0), (65, .invokevirtual 155, 68, 18, 3, 3, 0, 535), (68, .ireturn, 69, 0, 0, 0, 0, 0), (69, .aload_n 0, 70, 0, 0, 0, 0, 0), (70, .getfield 10, 73, 7, 0, 1, 0, 204)]),
  (78, [(73, .iload 4, 75, 4, 0, 0, 0, 0), (75, .invokevirtual 172, 78, 19, 2, 3, 0, 540), (78, .ireturn, 79, 0, 0, 0, 0, 0)])]
def tX8_undo : CT := [(25, [(0, .aload_n 0, 1, 0, 0, 0, 0, 0), (1, .getfield 19, 4, 7, 1, 1, 0, 205), (4, .invokevirtual 237, 7, 12, 1, 2, 0, 474), (7, .ifCond .ne 7, 10, 14, 0, 0, 0, 0), (10, .sipush (-10003), 13, 0, 0, 0, (-10003), 0), (13, .ireturn, 14, 0, 0, 0, 0, 0), (14, .aload_n 0, 15, 0, 0, 0, 0, 0), (15, .getfield 19, 18, 7, 1, 1, 0, 205), (18, .aload_n 0, 19, 0, 0, 0, 0, 0), (19, .getfield 10, 22, 7, 0, 1, 0, 204), (22, .invokevirtual 240, 25, 14, 2, 2, 0, 478), (25, .aload_n 0, 26, 0, 0, 0, 0, 0)]),
  (32, [(26, .getfield 19, 29, 7, 1, 1, 0, 205), (29, .invokevirtual 237, 32, 12, 1, 2, 0, 474), (32, .ireturn, 33, 0, 0, 0, 0, 0)])]
def tX8_outside : CT := [(15, [(0, .iload_n 0, 1, 0, 0, 0, 0, 0), (1, .iload_n 1, 2, 1, 0, 0, 0, 0), (2, .if_icmp .lt 8, 5, 10, 0, 0, 0, 0), (5, .iload_n 0, 6, 0, 0, 0, 0, 0), (6, .iload_n 2, 7, 2, 0, 0, 0, 0), (7, .if_icmp .le 7, 10, 14, 0, 0, 0, 0), (10, .iconst 1, 11, 0, 0, 0, 1, 0), (11, .goto 4, 14, 15, 0, 0, 0, 0), (14, .iconst 0, 15, 0, 0, 0, 0, 0), (15, .ireturn, 16, 0, 0, 1, 0, 0)])]
def tX8_tell : CT := [(17, [(0, .aload_n 0, 1, 0, 0, 0, 0, 0), (1, .iload_n 1, 2, 1, 0, 0, 0, 0), (2, .invokevirtual 122, 5, 39, 2, 6, 0, 266), (5, .istore_n 3, 6, 3, 0, 0, 0, 0), (6, .iload_n 3, 7, 3, 0, 0, 0, 0), (7, .ifCond .ge 7, 10, 14, 0, 0, 0, 0), (10, .sipush (-10001), 13, 0, 0, 0, (-10001), 0), (13, .ireturn, 14, 0, 0, 0, 0, 0), (14, .iload_n 2, 15, 2, 0, 0, 0, 0), (15, .iconst 0, 16, 0, 0, 0, 0, 0), (16, .aload_n 0, 17, 0, 0, 0, 0, 0), (17, .getfield 260, 20, 6, 0, 0, 0, 48)]),
  (38, [(20, .iconst 1, 21, 0, 0, 0, 1, 0), (21, .isub, 22, 0, 0, 0, 0, 0), (22, .invokestatic 70, 25, 76, 3, 0, 0, 270), (25, .ifCond .eq 7, 28, 32, 0, 0, 0, 0), (28, .sipush (-10002), 31, 0, 0, 0, (-10002), 0), (31, .ireturn, 32, 0, 0, 0, 0, 0), (32, .aload_n 0, 33, 0, 0, 0, 0, 0), (33, .iload_n 3, 34, 3, 0, 0, 0, 0), (34, .iload_n 2, 35, 2, 0, 0, 0, 0), (35, .invokevirtual 169, 38, 41, 3, 6, 0, 323), (38, .ireturn, 39, 0, 0, 0, 0, 0)])]
def tX8_betterBags : CT := [(16, [(0, .iconst 0, 1, 0, 0, 0, 0, 0), (1, .istore_n 2, 2, 2, 0, 0, 0, 0), (2, .iconst 0, 3, 0, 0, 0, 0, 0), (3, .istore_n 3, 4, 3, 0, 0, 0, 0), (4, .iload_n 3, 5, 3, 0, 0, 0, 0), (5, .bipush 12, 7, 0, 0, 0, 12, 0), (7, .if_icmp .ge 54, 10, 61, 0, 0, 0, 0), (10, .iload_n 3, 11, 3, 0, 0, 0, 0), (11, .iload_n 1, 12, 1, 0, 0, 0, 0), (12, .if_icmp .ge 7, 15, 19, 0, 0, 0, 0), (15, .iconst 1, 16, 0, 0, 0, 1, 0), (16, .goto 4, 19, 20, 0, 0, 0, 0)]),
  (35, [(19, .iconst 0, 20, 0, 0, 0, 0, 0), (20, .istore 4, 22, 4, 0, 0, 0, 0), (22, .aload_n 0, 23, 0, 0, 0, 0, 0), (23, .getfield 64, 26, 7, 8, 1, 0, 212), (26, .iload_n 3, 27, 3, 0, 0, 0, 0), (27, .iaload, 28, 0, 0, 0, 0, 0), (28, .aload_n 0, 29, 0, 0, 0, 0, 0), (29, .getfield 64, 32, 7, 8, 1, 0, 212), (32, .iload_n 1, 33, 1, 0, 0, 0, 0), (33, .iaload, 34, 0, 0, 0, 0, 0), (34, .isub, 35, 0, 0, 0, 0, 0), (35, .istore 5, 37, 5, 0, 0, 0, 0)]),
  (62, [(37, .iload 5, 39, 5, 0, 0, 0, 0), (39, .ifCond .gt 13, 42, 52, 0, 0, 0, 0), (42, .iload 5, 44, 5, 0, 0, 0, 0), (44, .ifCond .ne 11, 47, 55, 0, 0, 0, 0), (47, .iload 4, 49, 4, 0, 0, 0, 0), (49, .ifCond .eq 6, 52, 55, 0, 0, 0, 0), (52, .iinc 2 1, 55, 2, 0, 0, 1, 0), (55, .iinc 3 1, 58, 3, 0, 0, 1, 0), (58, .goto (-54), 61, 4, 0, 0, 0, 0), (61, .iload_n 2, 62, 2, 0, 0, 0, 0), (62, .ireturn, 63, 0, 0, 0, 0, 0)])]
def tJ6_bitCount_0f7a4 : CT := [(15, [(0, .iload_n 0, 1, 0, 0, 0, 0, 0), (1, .iload_n 0, 2, 0, 0, 0, 0, 0), (2, .iconst 1, 3, 0, 0, 0, 1, 0), (3, .iushr, 4, 0, 0, 0, 0, 0), (4, .ldc_w 265, 7, 0, 0, 0, 1431655765, 295), (7, .iand, 8, 0, 0, 0, 0, 0), (8, .isub, 9, 0, 0, 0, 0, 0), (9, .istore_n 0, 10, 0, 0, 0, 0, 0), (10, .iload_n 0, 11, 0, 0, 0, 0, 0), (11, .ldc_w 266, 14, 0, 0, 0, 858993459, 296), (14, .iand, 15, 0, 0, 0, 0, 0), (15, .iload_n 0, 16, 0, 0, 0, 0, 0)]),
  (29, [(16, .iconst 2, 17, 0, 0, 0, 2, 0), (17, .iushr, 18, 0, 0, 0, 0, 0), (18, .ldc_w 266, 21, 0, 0, 0, 858993459, 296), (21, .iand, 22, 0, 0, 0, 0, 0), (22, .iadd, 23, 0, 0, 0, 0, 0), (23, .istore_n 0, 24, 0, 0, 0, 0, 0), (24, .iload_n 0, 25, 0, 0, 0, 0, 0), (25, .iload_n 0, 26, 0, 0, 0, 0, 0), (26, .iconst 4, 27, 0, 0, 0, 4, 0), (27, .iushr, 28, 0, 0, 0, 0, 0), (28, .iadd, 29, 0, 0, 0, 0, 0), (29, .ldc_w 267, 32, 0, 0, 0, 252645135, 297)]),
  (45, [(32, .iand, 33, 0, 0, 0, 0, 0), (33, .istore_n 0, 34, 0, 0, 0, 0, 0), (34, .iload_n 0, 35, 0, 0, 0, 0, 0), (35, .iload_n 0, 36, 0, 0, 0, 0, 0), (36, .bipush 8, 38, 0, 0, 0, 8, 0), (38, .iushr, 39, 0, 0, 0, 0, 0), (39, .iadd, 40, 0, 0, 0, 0, 0), (40, .istore_n 0, 41, 0, 0, 0, 0, 0), (41, .iload_n 0, 42, 0, 0, 0, 0, 0), (42, .iload_n 0, 43, 0, 0, 0, 0, 0), (43, .bipush 16, 45, 0, 0, 0, 16, 0), (45, .iushr, 46, 0, 0, 0, 0, 0)]),
  (52, [(46, .iadd, 47, 0, 0, 0, 0, 0), (47, .istore_n 0, 48, 0, 0, 0, 0, 0), (48, .iload_n 0, 49, 0, 0, 0, 0, 0), (49, .bipush 63, 51, 0, 0, 0, 63, 0), (51, .iand, 52, 0, 0, 0, 0, 0), (52, .ireturn, 53, 0, 0, 0, 0, 0)])]
def tJ7_fill_53178 : CT := [(13, [(0, .iconst 0, 1, 0, 0, 0, 0, 0), (1, .istore_n 2, 2, 2, 0, 0, 0, 0), (2, .aload_n 0, 3, 0, 0, 0, 0, 0), (3, .arraylength, 4, 0, 0, 0, 0, 0), (4, .istore_n 3, 5, 3, 0, 0, 0, 0), (5, .iload_n 2, 6, 2, 0, 0, 0, 0), (6, .iload_n 3, 7, 3, 0, 0, 0, 0), (7, .if_icmp .ge 13, 10, 20, 0, 0, 0, 0), (10, .aload_n 0, 11, 0, 0, 0, 0, 0), (11, .iload_n 2, 12, 2, 0, 0, 0, 0), (12, .iload_n 1, 13, 1, 0, 0, 0, 0), (13, .iastore, 14, 0, 0, 0, 0, 0)]),
  (20, [(14, .iinc 2 1, 17, 2, 0, 0, 1, 0), (17, .goto (-12), 20, 5, 0, 0, 0, 0), (20, .return_, 21, 0, 0, 0, 0, 0)])]
def tL_cell : CT := [(17, [(0, .iload_n 1, 1, 1, 0, 0, 0, 0), (1, .aload_n 0, 2, 0, 0, 0, 0, 0), (2, .arraylength, 3, 0, 0, 0, 0, 0), (3, .if_icmp .ge 9, 6, 12, 0, 0, 0, 0), (6, .aload_n 0, 7, 0, 0, 0, 0, 0), (7, .iload_n 1, 8, 1, 0, 0, 0, 0), (8, .iaload, 9, 0, 0, 0, 0, 0), (9, .goto 15, 12, 24, 0, 0, 0, 0), (12, .sipush 7919, 15, 0, 0, 0, 7919, 0), (15, .iload_n 1, 16, 1, 0, 0, 0, 0), (16, .iconst 3, 17, 0, 0, 0, 3, 0), (17, .iadd, 18, 0, 0, 0, 0, 0)]),
  (24, [(18, .imul, 19, 0, 0, 0, 0, 0), (19, .iload_n 1, 20, 1, 0, 0, 0, 0), (20, .bipush 11, 22, 0, 0, 0, 11, 0), (22, .iadd, 23, 0, 0, 0, 0, 0), (23, .imul, 24, 0, 0, 0, 0, 0), (24, .ireturn, 25, 0, 0, 0, 0, 0)])]
def tL_low : CT := [(6, [(0, .iload_n 0, 1, 0, 0, 0, 0, 0), (1, .ldc 7, 3, 0, 0, 0, 2147483647, 258), (3, .iand, 4, 0, 0, 0, 0, 0), (4, .iload_n 1, 5, 1, 0, 0, 0, 0), (5, .irem, 6, 0, 0, 0, 0, 0), (6, .ireturn, 7, 0, 0, 0, 0, 0)])]
def tL_nth : CT := [(21, [(0, .iload_n 2, 1, 2, 0, 0, 0, 0), (1, .istore_n 3, 2, 3, 0, 0, 0, 0), (2, .iconst 1, 3, 0, 0, 0, 1, 0), (3, .istore 4, 5, 4, 0, 0, 0, 0), (5, .iload 4, 7, 4, 0, 0, 0, 0), (7, .sipush 130, 10, 0, 0, 0, 130, 0), (10, .if_icmp .ge 50, 13, 60, 0, 0, 0, 0), (13, .iload_n 2, 14, 2, 0, 0, 0, 0), (14, .ifCond .lt 46, 17, 60, 0, 0, 0, 0), (17, .iload_n 1, 18, 1, 0, 0, 0, 0), (18, .ifCond .eq 13, 21, 31, 0, 0, 0, 0), (21, .aload_n 0, 22, 0, 0, 0, 0, 0)]),
  (45, [(22, .iload 4, 24, 4, 0, 0, 0, 0), (24, .iconst 0, 25, 0, 0, 0, 0, 0), (25, .invokevirtual 8, 28, 66, 3, 7, 0, 316), (28, .goto 10, 31, 38, 0, 0, 0, 0), (31, .aload_n 0, 32, 0, 0, 0, 0, 0), (32, .iload 4, 34, 4, 0, 0, 0, 0), (34, .iconst 0, 35, 0, 0, 0, 0, 0), (35, .invokevirtual 14, 38, 67, 3, 7, 0, 324), (38, .sipush (-10001), 41, 0, 0, 0, (-10001), 0), (41, .if_icmp .eq 13, 44, 54, 0, 0, 0, 0), (44, .iload_n 3, 45, 3, 0, 0, 0, 0), (45, .ifCond .ne 6, 48, 51, 0, 0, 0, 0)]),
  (61, [(48, .iload 4, 50, 4, 0, 0, 0, 0), (50, .ireturn, 51, 0, 0, 0, 0, 0), (51, .iinc 3 (-1), 54, 3, 0, 0, (-1), 0), (54, .iinc 4 1, 57, 4, 0, 0, 1, 0), (57, .goto (-52), 60, 5, 0, 0, 0, 0), (60, .iconst 0, 61, 0, 0, 0, 0, 0), (61, .ireturn, 62, 0, 0, 0, 0, 0)])]
def tL_isScore : CT := [(17, [(0, .aload_n 0, 1, 0, 0, 0, 0, 0), (1, .iload_n 1, 2, 1, 0, 0, 0, 0), (2, .iload_n 2, 3, 2, 0, 0, 0, 0), (3, .iconst 0, 4, 0, 0, 0, 0, 0), (4, .invokevirtual 17, 7, 68, 4, 7, 0, 262), (7, .istore 4, 9, 4, 0, 0, 0, 0), (9, .iconst 0, 10, 0, 0, 0, 0, 0), (10, .istore 5, 12, 5, 0, 0, 0, 0), (12, .iconst 1, 13, 0, 0, 0, 1, 0), (13, .istore 6, 15, 6, 0, 0, 0, 0), (15, .iload 6, 17, 6, 0, 0, 0, 0), (17, .bipush 7, 19, 0, 0, 0, 7, 0)]),
  (41, [(19, .if_icmp .ge 57, 22, 76, 0, 0, 0, 0), (22, .aload_n 0, 23, 0, 0, 0, 0, 0), (23, .iload_n 1, 24, 1, 0, 0, 0, 0), (24, .iload_n 2, 25, 2, 0, 0, 0, 0), (25, .iload 6, 27, 6, 0, 0, 0, 0), (27, .invokevirtual 17, 30, 68, 4, 7, 0, 262), (30, .istore 7, 32, 7, 0, 0, 0, 0), (32, .iload 7, 34, 7, 0, 0, 0, 0), (34, .sipush (-10006), 37, 0, 0, 0, (-10006), 0), (37, .if_icmp .ne 7, 40, 44, 0, 0, 0, 0), (40, .iconst 1, 41, 0, 0, 0, 1, 0), (41, .goto 4, 44, 45, 0, 0, 0, 0)]),
  (65, [(44, .iconst 0, 45, 0, 0, 0, 0, 0), (45, .iload 4, 47, 4, 0, 0, 0, 0), (47, .sipush (-10006), 50, 0, 0, 0, (-10006), 0), (50, .if_icmp .ne 7, 53, 57, 0, 0, 0, 0), (53, .iconst 1, 54, 0, 0, 0, 1, 0), (54, .goto 4, 57, 58, 0, 0, 0, 0), (57, .iconst 0, 58, 0, 0, 0, 0, 0), (58, .if_icmp .eq 5, 61, 63, 0, 0, 0, 0), (61, .iconst 0, 62, 0, 0, 0, 0, 0), (62, .ireturn, 63, 0, 0, 1, 0, 0), (63, .iload 5, 65, 5, 0, 0, 0, 0), (65, .iload 7, 67, 7, 0, 0, 0, 0)]),
  (87, [(67, .iadd, 68, 0, 0, 0, 0, 0), (68, .istore 5, 70, 5, 0, 0, 0, 0), (70, .iinc 6 1, 73, 6, 0, 0, 1, 0), (73, .goto (-58), 76, 15, 0, 0, 0, 0), (76, .aload_n 0, 77, 0, 0, 0, 0, 0), (77, .iload_n 2, 78, 2, 0, 0, 0, 0), (78, .bipush 6, 80, 0, 0, 0, 6, 0), (80, .invokevirtual 8, 83, 66, 3, 7, 0, 316), (83, .aload_n 0, 84, 0, 0, 0, 0, 0), (84, .iload_n 1, 85, 1, 0, 0, 0, 0), (85, .bipush 7, 87, 0, 0, 0, 7, 0), (87, .invokevirtual 14, 90, 67, 3, 7, 0, 324)]),
  (109, [(90, .if_icmp .ge 7, 93, 97, 0, 0, 0, 0), (93, .iconst 1, 94, 0, 0, 0, 1, 0), (94, .goto 4, 97, 98, 0, 0, 0, 0), (97, .iconst 0, 98, 0, 0, 0, 0, 0), (98, .istore 6, 100, 6, 0, 0, 0, 0), (100, .aload_n 0, 101, 0, 0, 0, 0, 0), (101, .iload_n 1, 102, 1, 0, 0, 0, 0), (102, .iload_n 2, 103, 2, 0, 0, 0, 0), (103, .invokevirtual 21, 106, 73, 3, 7, 0, 328), (106, .istore 7, 108, 7, 0, 0, 0, 0), (108, .aload_n 0, 109, 0, 0, 0, 0, 0), (109, .iload_n 1, 110, 1, 0, 0, 0, 0)]),
  (134, [(110, .iload_n 2, 111, 2, 0, 0, 0, 0), (111, .invokevirtual 24, 114, 70, 3, 7, 0, 333), (114, .istore 8, 116, 8, 0, 0, 0, 0), (116, .iload 6, 118, 6, 0, 0, 0, 0), (118, .iload 4, 120, 4, 0, 0, 0, 0), (120, .sipush (-10006), 123, 0, 0, 0, (-10006), 0), (123, .if_icmp .ne 7, 126, 130, 0, 0, 0, 0), (126, .iconst 1, 127, 0, 0, 0, 1, 0), (127, .goto 4, 130, 131, 0, 0, 0, 0), (130, .iconst 0, 131, 0, 0, 0, 0, 0), (131, .if_icmp .ne 79, 134, 210, 0, 0, 0, 0), (134, .iload 6, 136, 6, 0, 0, 0, 0)]),
  (164, [(136, .ifCond .ne 10, 139, 146, 0, 0, 0, 0), (139, .iload 5, 141, 5, 0, 0, 0, 0), (141, .iload 4, 143, 4, 0, 0, 0, 0), (143, .if_icmp .ne 67, 146, 210, 0, 0, 0, 0), (146, .iload 7, 148, 7, 0, 0, 0, 0), (148, .iload 4, 150, 4, 0, 0, 0, 0), (150, .ifCond .ge 9, 153, 159, 0, 0, 0, 0), (153, .sipush (-10006), 156, 0, 0, 0, (-10006), 0), (156, .goto 19, 159, 175, 0, 0, 0, 0), (159, .iload 4, 161, 4, 0, 0, 0, 0), (161, .sipush 200, 164, 0, 0, 0, 200, 0), (164, .if_icmp .ge 8, 167, 172, 0, 0, 0, 0)]),
  (193, [(167, .iload 4, 169, 4, 0, 0, 0, 0), (169, .goto 6, 172, 175, 0, 0, 0, 0), (172, .sipush 200, 175, 0, 0, 0, 200, 0), (175, .if_icmp .ne 35, 178, 210, 0, 0, 0, 0), (178, .iload 8, 180, 8, 0, 0, 0, 0), (180, .ifCond .lt 30, 183, 210, 0, 0, 0, 0), (183, .iload 8, 185, 8, 0, 0, 0, 0), (185, .bipush 64, 187, 0, 0, 0, 64, 0), (187, .if_icmp .ge 23, 190, 210, 0, 0, 0, 0), (190, .iload 8, 192, 8, 0, 0, 0, 0), (192, .aload_n 0, 193, 0, 0, 0, 0, 0), (193, .iload_n 2, 194, 2, 0, 0, 0, 0)]),
  (211, [(194, .iconst 2, 195, 0, 0, 0, 2, 0), (195, .invokevirtual 8, 198, 66, 3, 7, 0, 316), (198, .iand, 199, 0, 0, 0, 0, 0), (199, .ifCond .ne 11, 202, 210, 0, 0, 0, 0), (202, .iload_n 3, 203, 3, 0, 0, 0, 0), (203, .ifCond .lt 7, 206, 210, 0, 0, 0, 0), (206, .iconst 1, 207, 0, 0, 0, 1, 0), (207, .goto 4, 210, 211, 0, 0, 0, 0), (210, .iconst 0, 211, 0, 0, 0, 0, 0), (211, .ireturn, 212, 0, 0, 1, 0, 0)])]
def tL_areMatches : CT := [(17, [(0, .aload_n 0, 1, 0, 0, 0, 0, 0), (1, .iconst 1, 2, 0, 0, 0, 1, 0), (2, .invokevirtual 27, 5, 65, 2, 7, 0, 232), (5, .istore_n 3, 6, 3, 0, 0, 0, 0), (6, .aload_n 0, 7, 0, 0, 0, 0, 0), (7, .iconst 2, 8, 0, 0, 0, 2, 0), (8, .invokevirtual 27, 11, 65, 2, 7, 0, 232), (11, .istore 4, 13, 4, 0, 0, 0, 0), (13, .iconst 0, 14, 0, 0, 0, 0, 0), (14, .istore 5, 16, 5, 0, 0, 0, 0), (16, .iconst 0, 17, 0, 0, 0, 0, 0), (17, .istore 6, 19, 6, 0, 0, 0, 0)]),
  (39, [(19, .iload 6, 21, 6, 0, 0, 0, 0), (21, .iload_n 3, 22, 3, 0, 0, 0, 0), (22, .if_icmp .ge 71, 25, 93, 0, 0, 0, 0), (25, .iload 6, 27, 6, 0, 0, 0, 0), (27, .bipush 12, 29, 0, 0, 0, 12, 0), (29, .if_icmp .ge 64, 32, 93, 0, 0, 0, 0), (32, .aload_n 1, 33, 1, 0, 0, 0, 0), (33, .iload 6, 35, 6, 0, 0, 0, 0), (35, .aload_n 0, 36, 0, 0, 0, 0, 0), (36, .iconst 1, 37, 0, 0, 0, 1, 0), (37, .iload 6, 39, 6, 0, 0, 0, 0), (39, .invokestatic 31, 42, 83, 3, 0, 0, 341)]),
  (59, [(42, .iastore, 43, 0, 0, 0, 0, 0), (43, .aload_n 0, 44, 0, 0, 0, 0, 0), (44, .aload_n 1, 45, 1, 0, 0, 0, 0), (45, .iload 6, 47, 6, 0, 0, 0, 0), (47, .iaload, 48, 0, 0, 0, 0, 0), (48, .bipush 7, 50, 0, 0, 0, 7, 0), (50, .invokevirtual 8, 53, 66, 3, 7, 0, 316), (53, .istore 7, 55, 7, 0, 0, 0, 0), (55, .aload_n 1, 56, 1, 0, 0, 0, 0), (56, .iload 6, 58, 6, 0, 0, 0, 0), (58, .iaload, 59, 0, 0, 0, 0, 0), (59, .ifCond .eq 26, 62, 85, 0, 0, 0, 0)]),
  (85, [(62, .iload 7, 64, 7, 0, 0, 0, 0), (64, .sipush (-10006), 67, 0, 0, 0, (-10006), 0), (67, .if_icmp .eq 20, 70, 87, 0, 0, 0, 0), (70, .aload_n 0, 71, 0, 0, 0, 0, 0), (71, .iload 7, 73, 7, 0, 0, 0, 0), (73, .bipush 8, 75, 0, 0, 0, 8, 0), (75, .invokevirtual 14, 78, 67, 3, 7, 0, 324), (78, .aload_n 1, 79, 1, 0, 0, 0, 0), (79, .iload 6, 81, 6, 0, 0, 0, 0), (81, .iaload, 82, 0, 0, 0, 0, 0), (82, .if_icmp .eq 5, 85, 87, 0, 0, 0, 0), (85, .iconst 0, 86, 0, 0, 0, 0, 0)]),
  (110, [(86, .ireturn, 87, 0, 0, 1, 0, 0), (87, .iinc 6 1, 90, 6, 0, 0, 1, 0), (90, .goto (-71), 93, 19, 0, 0, 0, 0), (93, .iconst 0, 94, 0, 0, 0, 0, 0), (94, .istore 6, 96, 6, 0, 0, 0, 0), (96, .iload 6, 98, 6, 0, 0, 0, 0), (98, .iload 4, 100, 4, 0, 0, 0, 0), (100, .if_icmp .ge 89, 103, 189, 0, 0, 0, 0), (103, .iload 6, 105, 6, 0, 0, 0, 0), (105, .bipush 10, 107, 0, 0, 0, 10, 0), (107, .if_icmp .ge 82, 110, 189, 0, 0, 0, 0), (110, .aload_n 2, 111, 2, 0, 0, 0, 0)]),
  (128, [(111, .iload 6, 113, 6, 0, 0, 0, 0), (113, .aload_n 0, 114, 0, 0, 0, 0, 0), (114, .iconst 0, 115, 0, 0, 0, 0, 0), (115, .iload 6, 117, 6, 0, 0, 0, 0), (117, .invokestatic 31, 120, 83, 3, 0, 0, 341), (120, .iastore, 121, 0, 0, 0, 0, 0), (121, .aload_n 0, 122, 0, 0, 0, 0, 0), (122, .aload_n 2, 123, 2, 0, 0, 0, 0), (123, .iload 6, 125, 6, 0, 0, 0, 0), (125, .iaload, 126, 0, 0, 0, 0, 0), (126, .bipush 8, 128, 0, 0, 0, 8, 0), (128, .invokevirtual 14, 131, 67, 3, 7, 0, 324)]),
  (152, [(131, .istore 7, 133, 7, 0, 0, 0, 0), (133, .iload 5, 135, 5, 0, 0, 0, 0), (135, .iload 7, 137, 7, 0, 0, 0, 0), (137, .sipush (-10006), 140, 0, 0, 0, (-10006), 0), (140, .if_icmp .ne 7, 143, 147, 0, 0, 0, 0), (143, .iconst 0, 144, 0, 0, 0, 0, 0), (144, .goto 4, 147, 148, 0, 0, 0, 0), (147, .iconst 1, 148, 0, 0, 0, 1, 0), (148, .iadd, 149, 0, 0, 0, 0, 0), (149, .istore 5, 151, 5, 0, 0, 0, 0), (151, .aload_n 2, 152, 2, 0, 0, 0, 0), (152, .iload 6, 154, 6, 0, 0, 0, 0)]),
  (177, [(154, .iaload, 155, 0, 0, 0, 0, 0), (155, .ifCond .eq 26, 158, 181, 0, 0, 0, 0), (158, .iload 7, 160, 7, 0, 0, 0, 0), (160, .sipush (-10006), 163, 0, 0, 0, (-10006), 0), (163, .if_icmp .eq 20, 166, 183, 0, 0, 0, 0), (166, .aload_n 0, 167, 0, 0, 0, 0, 0), (167, .iload 7, 169, 7, 0, 0, 0, 0), (169, .bipush 7, 171, 0, 0, 0, 7, 0), (171, .invokevirtual 8, 174, 66, 3, 7, 0, 316), (174, .aload_n 2, 175, 2, 0, 0, 0, 0), (175, .iload 6, 177, 6, 0, 0, 0, 0), (177, .iaload, 178, 0, 0, 0, 0, 0)]),
  (202, [(178, .if_icmp .eq 5, 181, 183, 0, 0, 0, 0), (181, .iconst 0, 182, 0, 0, 0, 0, 0), (182, .ireturn, 183, 0, 0, 1, 0, 0), (183, .iinc 6 1, 186, 6, 0, 0, 1, 0), (186, .goto (-90), 189, 96, 0, 0, 0, 0), (189, .iload_n 3, 190, 3, 0, 0, 0, 0), (190, .bipush 13, 192, 0, 0, 0, 13, 0), (192, .if_icmp .ge 43, 195, 235, 0, 0, 0, 0), (195, .iload 4, 197, 4, 0, 0, 0, 0), (197, .bipush 11, 199, 0, 0, 0, 11, 0), (199, .if_icmp .ge 36, 202, 235, 0, 0, 0, 0), (202, .aload_n 0, 203, 0, 0, 0, 0, 0)]),
  (223, [(203, .iconst 3, 204, 0, 0, 0, 3, 0), (204, .invokevirtual 27, 207, 65, 2, 7, 0, 232), (207, .iload 5, 209, 5, 0, 0, 0, 0), (209, .if_icmp .ne 26, 212, 235, 0, 0, 0, 0), (212, .aload_n 0, 213, 0, 0, 0, 0, 0), (213, .iconst 1, 214, 0, 0, 0, 1, 0), (214, .iload_n 3, 215, 3, 0, 0, 0, 0), (215, .invokestatic 31, 218, 83, 3, 0, 0, 341), (218, .ifCond .ne 17, 221, 235, 0, 0, 0, 0), (221, .aload_n 0, 222, 0, 0, 0, 0, 0), (222, .iconst 0, 223, 0, 0, 0, 0, 0), (223, .iload 4, 225, 4, 0, 0, 0, 0)]),
  (236, [(225, .invokestatic 31, 228, 83, 3, 0, 0, 341), (228, .ifCond .ne 7, 231, 235, 0, 0, 0, 0), (231, .iconst 1, 232, 0, 0, 0, 1, 0), (232, .goto 4, 235, 236, 0, 0, 0, 0), (235, .iconst 0, 236, 0, 0, 0, 0, 0), (236, .ireturn, 237, 0, 0, 1, 0, 0)])]
def tL_areSuggested : CT := [(19, [(0, .ldc 37, 2, 0, 0, 0, 100000, 347), (2, .istore_n 3, 3, 3, 0, 0, 0, 0), (3, .iconst 0, 4, 0, 0, 0, 0, 0), (4, .istore 4, 6, 4, 0, 0, 0, 0), (6, .iconst 0, 7, 0, 0, 0, 0, 0), (7, .istore 5, 9, 5, 0, 0, 0, 0), (9, .iconst 0, 10, 0, 0, 0, 0, 0), (10, .istore 6, 12, 6, 0, 0, 0, 0), (12, .iload 6, 14, 6, 0, 0, 0, 0), (14, .bipush 13, 16, 0, 0, 0, 13, 0), (16, .if_icmp .ge 87, 19, 103, 0, 0, 0, 0), (19, .aload_n 0, 20, 0, 0, 0, 0, 0)]),
  (41, [(20, .iload_n 1, 21, 1, 0, 0, 0, 0), (21, .iload 6, 23, 6, 0, 0, 0, 0), (23, .invokevirtual 38, 26, 69, 3, 7, 0, 348), (26, .istore 7, 28, 7, 0, 0, 0, 0), (28, .iload 7, 30, 7, 0, 0, 0, 0), (30, .ifCond .ge 6, 33, 36, 0, 0, 0, 0), (33, .goto 70, 36, 103, 0, 0, 0, 0), (36, .aload_n 0, 37, 0, 0, 0, 0, 0), (37, .iload_n 1, 38, 1, 0, 0, 0, 0), (38, .iload 7, 40, 7, 0, 0, 0, 0), (40, .iconst 0, 41, 0, 0, 0, 0, 0), (41, .invokevirtual 17, 44, 68, 4, 7, 0, 262)]),
  (66, [(44, .istore 8, 46, 8, 0, 0, 0, 0), (46, .iload 8, 48, 8, 0, 0, 0, 0), (48, .iload_n 2, 49, 2, 0, 0, 0, 0), (49, .if_icmp .lt 36, 52, 85, 0, 0, 0, 0), (52, .iload 8, 54, 8, 0, 0, 0, 0), (54, .iload_n 3, 55, 3, 0, 0, 0, 0), (55, .if_icmp .gt 30, 58, 85, 0, 0, 0, 0), (58, .iload 8, 60, 8, 0, 0, 0, 0), (60, .iload_n 3, 61, 3, 0, 0, 0, 0), (61, .if_icmp .ne 10, 64, 71, 0, 0, 0, 0), (64, .iload 7, 66, 7, 0, 0, 0, 0), (66, .iload 4, 68, 4, 0, 0, 0, 0)]),
  (90, [(68, .if_icmp .le 17, 71, 85, 0, 0, 0, 0), (71, .aload_n 0, 72, 0, 0, 0, 0, 0), (72, .iload 7, 74, 7, 0, 0, 0, 0), (74, .bipush 7, 76, 0, 0, 0, 7, 0), (76, .invokevirtual 8, 79, 66, 3, 7, 0, 316), (79, .sipush (-10006), 82, 0, 0, 0, (-10006), 0), (82, .if_icmp .eq 5, 85, 87, 0, 0, 0, 0), (85, .iconst 0, 86, 0, 0, 0, 0, 0), (86, .ireturn, 87, 0, 0, 1, 0, 0), (87, .iload 8, 89, 8, 0, 0, 0, 0), (89, .istore_n 3, 90, 3, 0, 0, 0, 0), (90, .iload 7, 92, 7, 0, 0, 0, 0)]),
  (113, [(92, .istore 4, 94, 4, 0, 0, 0, 0), (94, .iinc 5 1, 97, 5, 0, 0, 1, 0), (97, .iinc 6 1, 100, 6, 0, 0, 1, 0), (100, .goto (-88), 103, 12, 0, 0, 0, 0), (103, .iconst 0, 104, 0, 0, 0, 0, 0), (104, .istore 6, 106, 6, 0, 0, 0, 0), (106, .iconst 0, 107, 0, 0, 0, 0, 0), (107, .istore 7, 109, 7, 0, 0, 0, 0), (109, .iload 7, 111, 7, 0, 0, 0, 0), (111, .aload_n 0, 112, 0, 0, 0, 0, 0), (112, .iconst 1, 113, 0, 0, 0, 1, 0), (113, .invokevirtual 27, 116, 65, 2, 7, 0, 232)]),
  (138, [(116, .if_icmp .ge 61, 119, 177, 0, 0, 0, 0), (119, .iload 7, 121, 7, 0, 0, 0, 0), (121, .bipush 12, 123, 0, 0, 0, 12, 0), (123, .if_icmp .ge 54, 126, 177, 0, 0, 0, 0), (126, .aload_n 0, 127, 0, 0, 0, 0, 0), (127, .iconst 1, 128, 0, 0, 0, 1, 0), (128, .iload 7, 130, 7, 0, 0, 0, 0), (130, .invokestatic 31, 133, 83, 3, 0, 0, 341), (133, .istore 8, 135, 8, 0, 0, 0, 0), (135, .iload 6, 137, 6, 0, 0, 0, 0), (137, .aload_n 0, 138, 0, 0, 0, 0, 0), (138, .iload 8, 140, 8, 0, 0, 0, 0)]),
  (163, [(140, .bipush 7, 142, 0, 0, 0, 7, 0), (142, .invokevirtual 8, 145, 66, 3, 7, 0, 316), (145, .sipush (-10006), 148, 0, 0, 0, (-10006), 0), (148, .if_icmp .ne 19, 151, 167, 0, 0, 0, 0), (151, .aload_n 0, 152, 0, 0, 0, 0, 0), (152, .iload_n 1, 153, 1, 0, 0, 0, 0), (153, .iload 8, 155, 8, 0, 0, 0, 0), (155, .iconst 0, 156, 0, 0, 0, 0, 0), (156, .invokevirtual 17, 159, 68, 4, 7, 0, 262), (159, .iload_n 2, 160, 2, 0, 0, 0, 0), (160, .if_icmp .lt 7, 163, 167, 0, 0, 0, 0), (163, .iconst 1, 164, 0, 0, 0, 1, 0)]),
  (186, [(164, .goto 4, 167, 168, 0, 0, 0, 0), (167, .iconst 0, 168, 0, 0, 0, 0, 0), (168, .iadd, 169, 0, 0, 0, 0, 0), (169, .istore 6, 171, 6, 0, 0, 0, 0), (171, .iinc 7 1, 174, 7, 0, 0, 1, 0), (174, .goto (-65), 177, 109, 0, 0, 0, 0), (177, .iload 5, 179, 5, 0, 0, 0, 0), (179, .iload 6, 181, 6, 0, 0, 0, 0), (181, .if_icmp .ne 32, 184, 213, 0, 0, 0, 0), (184, .aload_n 0, 185, 0, 0, 0, 0, 0), (185, .iload_n 1, 186, 1, 0, 0, 0, 0), (186, .iload 6, 188, 6, 0, 0, 0, 0)]),
  (213, [(188, .invokevirtual 38, 191, 69, 3, 7, 0, 348), (191, .sipush (-10001), 194, 0, 0, 0, (-10001), 0), (194, .if_icmp .ne 19, 197, 213, 0, 0, 0, 0), (197, .aload_n 0, 198, 0, 0, 0, 0, 0), (198, .iload_n 1, 199, 1, 0, 0, 0, 0), (199, .iconst (-1), 200, 0, 0, 0, (-1), 0), (200, .invokevirtual 38, 203, 69, 3, 7, 0, 348), (203, .sipush (-10001), 206, 0, 0, 0, (-10001), 0), (206, .if_icmp .ne 7, 209, 213, 0, 0, 0, 0), (209, .iconst 1, 210, 0, 0, 0, 1, 0), (210, .goto 4, 213, 214, 0, 0, 0, 0), (213, .iconst 0, 214, 0, 0, 0, 0, 0)]),
  (214, [(214, .ireturn, 215, 0, 0, 1, 0, 0)])]
def tL_isMatched : CT := [(20, [(0, .aload_n 0, 1, 0, 0, 0, 0, 0), (1, .invokevirtual 41, 4, 71, 1, 7, 0, 368), (4, .istore 4, 6, 4, 0, 0, 0, 0), (6, .aload_n 0, 7, 0, 0, 0, 0, 0), (7, .invokevirtual 45, 10, 72, 1, 7, 0, 422), (10, .istore 5, 12, 5, 0, 0, 0, 0), (12, .aload_n 0, 13, 0, 0, 0, 0, 0), (13, .iconst 3, 14, 0, 0, 0, 3, 0), (14, .invokevirtual 27, 17, 65, 2, 7, 0, 232), (17, .istore 6, 19, 6, 0, 0, 0, 0), (19, .aload_n 0, 20, 0, 0, 0, 0, 0), (20, .invokevirtual 48, 23, 60, 1, 7, 0, 434)]),
  (44, [(23, .istore 7, 25, 7, 0, 0, 0, 0), (25, .aload_n 0, 26, 0, 0, 0, 0, 0), (26, .iconst 3, 27, 0, 0, 0, 3, 0), (27, .invokevirtual 27, 30, 65, 2, 7, 0, 232), (30, .istore 8, 32, 8, 0, 0, 0, 0), (32, .iload 8, 34, 8, 0, 0, 0, 0), (34, .iload 6, 36, 6, 0, 0, 0, 0), (36, .iload 7, 38, 7, 0, 0, 0, 0), (38, .iadd, 39, 0, 0, 0, 0, 0), (39, .if_icmp .ne 54, 42, 93, 0, 0, 0, 0), (42, .iload 5, 44, 5, 0, 0, 0, 0), (44, .iload 4, 46, 4, 0, 0, 0, 0)]),
  (71, [(46, .if_icmp .gt 47, 49, 93, 0, 0, 0, 0), (49, .aload_n 0, 50, 0, 0, 0, 0, 0), (50, .invokevirtual 41, 53, 71, 1, 7, 0, 368), (53, .ifCond .ne 40, 56, 93, 0, 0, 0, 0), (56, .aload_n 0, 57, 0, 0, 0, 0, 0), (57, .invokevirtual 45, 60, 72, 1, 7, 0, 422), (60, .ifCond .ne 33, 63, 93, 0, 0, 0, 0), (63, .aload_n 0, 64, 0, 0, 0, 0, 0), (64, .invokevirtual 51, 67, 75, 1, 7, 0, 470), (67, .ifCond .lt 26, 70, 93, 0, 0, 0, 0), (70, .aload_n 0, 71, 0, 0, 0, 0, 0), (71, .iconst 3, 72, 0, 0, 0, 3, 0)]),
  (96, [(72, .invokevirtual 27, 75, 65, 2, 7, 0, 232), (75, .iload 6, 77, 6, 0, 0, 0, 0), (77, .if_icmp .ne 16, 80, 93, 0, 0, 0, 0), (80, .aload_n 0, 81, 0, 0, 0, 0, 0), (81, .invokevirtual 41, 84, 71, 1, 7, 0, 368), (84, .iload 4, 86, 4, 0, 0, 0, 0), (86, .if_icmp .ne 7, 89, 93, 0, 0, 0, 0), (89, .iconst 1, 90, 0, 0, 0, 1, 0), (90, .goto 4, 93, 94, 0, 0, 0, 0), (93, .iconst 0, 94, 0, 0, 0, 0, 0), (94, .istore 9, 96, 9, 0, 0, 0, 0), (96, .iconst 0, 97, 0, 0, 0, 0, 0)]),
  (119, [(97, .istore 10, 99, 10, 0, 0, 0, 0), (99, .iconst 0, 100, 0, 0, 0, 0, 0), (100, .istore 11, 102, 11, 0, 0, 0, 0), (102, .iconst 0, 103, 0, 0, 0, 0, 0), (103, .istore 12, 105, 12, 0, 0, 0, 0), (105, .iload 9, 107, 9, 0, 0, 0, 0), (107, .ifCond .eq 194, 110, 301, 0, 0, 0, 0), (110, .iload 12, 112, 12, 0, 0, 0, 0), (112, .ifCond .lt 189, 115, 301, 0, 0, 0, 0), (115, .iload 11, 117, 11, 0, 0, 0, 0), (117, .bipush 11, 119, 0, 0, 0, 11, 0), (119, .if_icmp .ge 182, 122, 301, 0, 0, 0, 0)]),
  (138, [(122, .iconst (-1), 123, 0, 0, 0, (-1), 0), (123, .istore 12, 125, 12, 0, 0, 0, 0), (125, .iconst 0, 126, 0, 0, 0, 0, 0), (126, .istore 13, 128, 13, 0, 0, 0, 0), (128, .iconst 0, 129, 0, 0, 0, 0, 0), (129, .istore 14, 131, 14, 0, 0, 0, 0), (131, .iconst 0, 132, 0, 0, 0, 0, 0), (132, .istore 15, 134, 15, 0, 0, 0, 0), (134, .iload 15, 136, 15, 0, 0, 0, 0), (136, .aload_n 0, 137, 0, 0, 0, 0, 0), (137, .iconst 1, 138, 0, 0, 0, 1, 0), (138, .invokevirtual 27, 141, 65, 2, 7, 0, 232)]),
  (161, [(141, .aload_n 0, 142, 0, 0, 0, 0, 0), (142, .iconst 2, 143, 0, 0, 0, 2, 0), (143, .invokevirtual 27, 146, 65, 2, 7, 0, 232), (146, .imul, 147, 0, 0, 0, 0, 0), (147, .if_icmp .ge 116, 150, 263, 0, 0, 0, 0), (150, .iload 15, 152, 15, 0, 0, 0, 0), (152, .bipush 120, 154, 0, 0, 0, 120, 0), (154, .if_icmp .ge 109, 157, 263, 0, 0, 0, 0), (157, .aload_n 2, 158, 2, 0, 0, 0, 0), (158, .iload 15, 160, 15, 0, 0, 0, 0), (160, .aload_n 0, 161, 0, 0, 0, 0, 0), (161, .iconst 1, 162, 0, 0, 0, 1, 0)]),
  (179, [(162, .invokevirtual 27, 165, 65, 2, 7, 0, 232), (165, .idiv, 166, 0, 0, 0, 0, 0), (166, .iaload, 167, 0, 0, 0, 0, 0), (167, .istore 16, 169, 16, 0, 0, 0, 0), (169, .aload_n 1, 170, 1, 0, 0, 0, 0), (170, .iload 15, 172, 15, 0, 0, 0, 0), (172, .aload_n 0, 173, 0, 0, 0, 0, 0), (173, .iconst 1, 174, 0, 0, 0, 1, 0), (174, .invokevirtual 27, 177, 65, 2, 7, 0, 232), (177, .irem, 178, 0, 0, 0, 0, 0), (178, .iaload, 179, 0, 0, 0, 0, 0), (179, .istore 17, 181, 17, 0, 0, 0, 0)]),
  (206, [(181, .aload_n 0, 182, 0, 0, 0, 0, 0), (182, .iload 16, 184, 16, 0, 0, 0, 0), (184, .bipush 8, 186, 0, 0, 0, 8, 0), (186, .invokevirtual 14, 189, 67, 3, 7, 0, 324), (189, .sipush (-10006), 192, 0, 0, 0, (-10006), 0), (192, .if_icmp .ne 21, 195, 213, 0, 0, 0, 0), (195, .aload_n 0, 196, 0, 0, 0, 0, 0), (196, .iload 17, 198, 17, 0, 0, 0, 0), (198, .bipush 7, 200, 0, 0, 0, 7, 0), (200, .invokevirtual 8, 203, 66, 3, 7, 0, 316), (203, .sipush (-10006), 206, 0, 0, 0, (-10006), 0), (206, .if_icmp .ne 7, 209, 213, 0, 0, 0, 0)]),
  (229, [(209, .iconst 1, 210, 0, 0, 0, 1, 0), (210, .goto 4, 213, 214, 0, 0, 0, 0), (213, .iconst 0, 214, 0, 0, 0, 0, 0), (214, .istore 18, 216, 18, 0, 0, 0, 0), (216, .aload_n 0, 217, 0, 0, 0, 0, 0), (217, .iload 16, 219, 16, 0, 0, 0, 0), (219, .iload 17, 221, 17, 0, 0, 0, 0), (221, .iconst 0, 222, 0, 0, 0, 0, 0), (222, .invokevirtual 17, 225, 68, 4, 7, 0, 262), (225, .istore 19, 227, 19, 0, 0, 0, 0), (227, .iload 18, 229, 18, 0, 0, 0, 0), (229, .ifCond .eq 28, 232, 257, 0, 0, 0, 0)]),
  (255, [(232, .iload 19, 234, 19, 0, 0, 0, 0), (234, .iload_n 3, 235, 3, 0, 0, 0, 0), (235, .if_icmp .lt 22, 238, 257, 0, 0, 0, 0), (238, .iload 19, 240, 19, 0, 0, 0, 0), (240, .iload 12, 242, 12, 0, 0, 0, 0), (242, .if_icmp .le 15, 245, 257, 0, 0, 0, 0), (245, .iload 19, 247, 19, 0, 0, 0, 0), (247, .istore 12, 249, 12, 0, 0, 0, 0), (249, .iload 16, 251, 16, 0, 0, 0, 0), (251, .istore 13, 253, 13, 0, 0, 0, 0), (253, .iload 17, 255, 17, 0, 0, 0, 0), (255, .istore 14, 257, 14, 0, 0, 0, 0)]),
  (282, [(257, .iinc 15 1, 260, 15, 0, 0, 1, 0), (260, .goto (-126), 263, 134, 0, 0, 0, 0), (263, .iload 12, 265, 12, 0, 0, 0, 0), (265, .ifCond .lt 33, 268, 298, 0, 0, 0, 0), (268, .aload_n 0, 269, 0, 0, 0, 0, 0), (269, .iload 13, 271, 13, 0, 0, 0, 0), (271, .iload 14, 273, 14, 0, 0, 0, 0), (273, .invokevirtual 54, 276, 58, 3, 7, 0, 482), (276, .iload 12, 278, 12, 0, 0, 0, 0), (278, .if_icmp .ne 7, 281, 285, 0, 0, 0, 0), (281, .iconst 1, 282, 0, 0, 0, 1, 0), (282, .goto 4, 285, 286, 0, 0, 0, 0)]),
  (308, [(285, .iconst 0, 286, 0, 0, 0, 0, 0), (286, .istore 9, 288, 9, 0, 0, 0, 0), (288, .iload 10, 290, 10, 0, 0, 0, 0), (290, .iload 12, 292, 12, 0, 0, 0, 0), (292, .iadd, 293, 0, 0, 0, 0, 0), (293, .istore 10, 295, 10, 0, 0, 0, 0), (295, .iinc 11 1, 298, 11, 0, 0, 1, 0), (298, .goto (-193), 301, 105, 0, 0, 0, 0), (301, .iload 9, 303, 9, 0, 0, 0, 0), (303, .ifCond .eq 31, 306, 334, 0, 0, 0, 0), (306, .iload 11, 308, 11, 0, 0, 0, 0), (308, .iload 7, 310, 7, 0, 0, 0, 0)]),
  (334, [(310, .if_icmp .ne 24, 313, 334, 0, 0, 0, 0), (313, .iload 10, 315, 10, 0, 0, 0, 0), (315, .iload 5, 317, 5, 0, 0, 0, 0), (317, .if_icmp .ne 17, 320, 334, 0, 0, 0, 0), (320, .aload_n 0, 321, 0, 0, 0, 0, 0), (321, .iconst 3, 322, 0, 0, 0, 3, 0), (322, .invokevirtual 27, 325, 65, 2, 7, 0, 232), (325, .iload 8, 327, 8, 0, 0, 0, 0), (327, .if_icmp .ne 7, 330, 334, 0, 0, 0, 0), (330, .iconst 1, 331, 0, 0, 0, 1, 0), (331, .goto 4, 334, 335, 0, 0, 0, 0), (334, .iconst 0, 335, 0, 0, 0, 0, 0)]),
  (335, [(335, .ireturn, 336, 0, 0, 1, 0, 0)])]
def tL_does : CT := [(17, [(0, .aload_n 0, 1, 0, 0, 0, 0, 0), (1, .iconst 2, 2, 0, 0, 0, 2, 0), (2, .invokevirtual 27, 5, 65, 2, 7, 0, 232), (5, .ifCond .ne 7, 8, 12, 0, 0, 0, 0), (8, .iconst 0, 9, 0, 0, 0, 0, 0), (9, .goto 19, 12, 28, 0, 0, 0, 0), (12, .aload_n 0, 13, 0, 0, 0, 0, 0), (13, .iconst 0, 14, 0, 0, 0, 0, 0), (14, .iload_n 2, 15, 2, 0, 0, 0, 0), (15, .iconst 5, 16, 0, 0, 0, 5, 0), (16, .ishr, 17, 0, 0, 0, 0, 0), (17, .aload_n 0, 18, 0, 0, 0, 0, 0)]),
  (42, [(18, .iconst 2, 19, 0, 0, 0, 2, 0), (19, .invokevirtual 27, 22, 65, 2, 7, 0, 232), (22, .invokestatic 57, 25, 82, 2, 0, 0, 255), (25, .invokestatic 31, 28, 83, 3, 0, 0, 341), (28, .istore 4, 30, 4, 0, 0, 0, 0), (30, .aload_n 0, 31, 0, 0, 0, 0, 0), (31, .iconst 1, 32, 0, 0, 0, 1, 0), (32, .invokevirtual 27, 35, 65, 2, 7, 0, 232), (35, .ifCond .ne 7, 38, 42, 0, 0, 0, 0), (38, .iconst 0, 39, 0, 0, 0, 0, 0), (39, .goto 20, 42, 59, 0, 0, 0, 0), (42, .aload_n 0, 43, 0, 0, 0, 0, 0)]),
  (62, [(43, .iconst 1, 44, 0, 0, 0, 1, 0), (44, .iload_n 2, 45, 2, 0, 0, 0, 0), (45, .bipush 9, 47, 0, 0, 0, 9, 0), (47, .ishr, 48, 0, 0, 0, 0, 0), (48, .aload_n 0, 49, 0, 0, 0, 0, 0), (49, .iconst 1, 50, 0, 0, 0, 1, 0), (50, .invokevirtual 27, 53, 65, 2, 7, 0, 232), (53, .invokestatic 57, 56, 82, 2, 0, 0, 255), (56, .invokestatic 31, 59, 83, 3, 0, 0, 341), (59, .istore 5, 61, 5, 0, 0, 0, 0), (61, .aload_n 0, 62, 0, 0, 0, 0, 0), (62, .bipush 7, 64, 0, 0, 0, 7, 0)]),
  (84, [(64, .invokevirtual 27, 67, 65, 2, 7, 0, 232), (67, .istore 6, 69, 6, 0, 0, 0, 0), (69, .aload_n 0, 70, 0, 0, 0, 0, 0), (70, .iconst 1, 71, 0, 0, 0, 1, 0), (71, .invokevirtual 27, 74, 65, 2, 7, 0, 232), (74, .istore 7, 76, 7, 0, 0, 0, 0), (76, .aload_n 0, 77, 0, 0, 0, 0, 0), (77, .iconst 2, 78, 0, 0, 0, 2, 0), (78, .invokevirtual 27, 81, 65, 2, 7, 0, 232), (81, .istore 8, 83, 8, 0, 0, 0, 0), (83, .iload_n 2, 84, 2, 0, 0, 0, 0), (84, .bipush 16, 86, 0, 0, 0, 16, 0)]),
  (172, [(86, .invokestatic 57, 89, 82, 2, 0, 0, 255), (89, .tableswitch 1022 0 13 #[71, 71, 71, 71, 227, 227, 227, 402, 530, 591, 717, 847, 933, 969], 160, 0, 0, 0, 89, 0), (160, .iload_n 3, 161, 3, 0, 0, 0, 0), (161, .iconst 4, 162, 0, 0, 0, 4, 0), (162, .invokestatic 57, 165, 82, 2, 0, 0, 255), (165, .ldc 60, 167, 0, 0, 0, 111111, 490), (167, .imul, 168, 0, 0, 0, 0, 0), (168, .iload_n 3, 169, 3, 0, 0, 0, 0), (169, .iconst 2, 170, 0, 0, 0, 2, 0), (170, .ishr, 171, 0, 0, 0, 0, 0), (171, .iconst 3, 172, 0, 0, 0, 3, 0), (172, .invokestatic 57, 175, 82, 2, 0, 0, 255)]),
  (191, [(175, .iadd, 176, 0, 0, 0, 0, 0), (176, .istore 9, 178, 9, 0, 0, 0, 0), (178, .aload_n 0, 179, 0, 0, 0, 0, 0), (179, .iload_n 2, 180, 2, 0, 0, 0, 0), (180, .iconst 5, 181, 0, 0, 0, 5, 0), (181, .ishr, 182, 0, 0, 0, 0, 0), (182, .bipush 8, 184, 0, 0, 0, 8, 0), (184, .invokestatic 57, 187, 82, 2, 0, 0, 255), (187, .iload 9, 189, 9, 0, 0, 0, 0), (189, .iload_n 3, 190, 3, 0, 0, 0, 0), (190, .iconst 4, 191, 0, 0, 0, 4, 0), (191, .ishr, 192, 0, 0, 0, 0, 0)]),
  (211, [(192, .bipush 64, 194, 0, 0, 0, 64, 0), (194, .invokestatic 57, 197, 82, 2, 0, 0, 255), (197, .iload_n 3, 198, 3, 0, 0, 0, 0), (198, .bipush 10, 200, 0, 0, 0, 10, 0), (200, .ishr, 201, 0, 0, 0, 0, 0), (201, .bipush 64, 203, 0, 0, 0, 64, 0), (203, .invokestatic 57, 206, 82, 2, 0, 0, 255), (206, .iand, 207, 0, 0, 0, 0, 0), (207, .iload_n 2, 208, 2, 0, 0, 0, 0), (208, .bipush 8, 210, 0, 0, 0, 8, 0), (210, .ishr, 211, 0, 0, 0, 0, 0), (211, .bipush 8, 213, 0, 0, 0, 8, 0)]),
  (235, [(213, .invokestatic 57, 216, 82, 2, 0, 0, 255), (216, .iload_n 2, 217, 2, 0, 0, 0, 0), (217, .bipush 11, 219, 0, 0, 0, 11, 0), (219, .ishr, 220, 0, 0, 0, 0, 0), (220, .bipush 12, 222, 0, 0, 0, 12, 0), (222, .invokestatic 57, 225, 82, 2, 0, 0, 255), (225, .iload_n 3, 226, 3, 0, 0, 0, 0), (226, .bipush 16, 228, 0, 0, 0, 16, 0), (228, .ishr, 229, 0, 0, 0, 0, 0), (229, .sipush 256, 232, 0, 0, 0, 256, 0), (232, .invokestatic 57, 235, 82, 2, 0, 0, 255), (235, .invokevirtual 61, 238, 56, 7, 7, 0, 491)]),
  (263, [(238, .istore 10, 240, 10, 0, 0, 0, 0), (240, .iload 7, 242, 7, 0, 0, 0, 0), (242, .bipush 12, 244, 0, 0, 0, 12, 0), (244, .if_icmp .ne 19, 247, 263, 0, 0, 0, 0), (247, .iload 10, 249, 10, 0, 0, 0, 0), (249, .sipush (-10004), 252, 0, 0, 0, (-10004), 0), (252, .if_icmp .ne 7, 255, 259, 0, 0, 0, 0), (255, .iconst 1, 256, 0, 0, 0, 1, 0), (256, .goto 59, 259, 315, 0, 0, 0, 0), (259, .iconst 0, 260, 0, 0, 0, 0, 0), (260, .goto 55, 263, 315, 0, 0, 0, 0), (263, .iload 10, 265, 10, 0, 0, 0, 0)]),
  (285, [(265, .ifCond .le 49, 268, 314, 0, 0, 0, 0), (268, .aload_n 0, 269, 0, 0, 0, 0, 0), (269, .iconst 1, 270, 0, 0, 0, 1, 0), (270, .invokevirtual 27, 273, 65, 2, 7, 0, 232), (273, .iload 7, 275, 7, 0, 0, 0, 0), (275, .iconst 1, 276, 0, 0, 0, 1, 0), (276, .iadd, 277, 0, 0, 0, 0, 0), (277, .if_icmp .ne 37, 280, 314, 0, 0, 0, 0), (280, .aload_n 0, 281, 0, 0, 0, 0, 0), (281, .iload 10, 283, 10, 0, 0, 0, 0), (283, .bipush 6, 285, 0, 0, 0, 6, 0), (285, .invokevirtual 8, 288, 66, 3, 7, 0, 316)]),
  (311, [(288, .aload_n 0, 289, 0, 0, 0, 0, 0), (289, .iconst 0, 290, 0, 0, 0, 0, 0), (290, .invokevirtual 27, 293, 65, 2, 7, 0, 232), (293, .if_icmp .ne 21, 296, 314, 0, 0, 0, 0), (296, .aload_n 0, 297, 0, 0, 0, 0, 0), (297, .iload 10, 299, 10, 0, 0, 0, 0), (299, .bipush 7, 301, 0, 0, 0, 7, 0), (301, .invokevirtual 8, 304, 66, 3, 7, 0, 316), (304, .sipush (-10006), 307, 0, 0, 0, (-10006), 0), (307, .if_icmp .ne 7, 310, 314, 0, 0, 0, 0), (310, .iconst 1, 311, 0, 0, 0, 1, 0), (311, .goto 4, 314, 315, 0, 0, 0, 0)]),
  (328, [(314, .iconst 0, 315, 0, 0, 0, 0, 0), (315, .ireturn, 316, 0, 0, 1, 0, 0), (316, .aload_n 0, 317, 0, 0, 0, 0, 0), (317, .iload_n 3, 318, 3, 0, 0, 0, 0), (318, .iconst 4, 319, 0, 0, 0, 4, 0), (319, .invokestatic 57, 322, 82, 2, 0, 0, 255), (322, .ldc 60, 324, 0, 0, 0, 111111, 490), (324, .imul, 325, 0, 0, 0, 0, 0), (325, .iload_n 3, 326, 3, 0, 0, 0, 0), (326, .iconst 2, 327, 0, 0, 0, 2, 0), (327, .ishr, 328, 0, 0, 0, 0, 0), (328, .iconst 3, 329, 0, 0, 0, 3, 0)]),
  (348, [(329, .invokestatic 57, 332, 82, 2, 0, 0, 255), (332, .iadd, 333, 0, 0, 0, 0, 0), (333, .iload_n 2, 334, 2, 0, 0, 0, 0), (334, .bipush 8, 336, 0, 0, 0, 8, 0), (336, .ishr, 337, 0, 0, 0, 0, 0), (337, .bipush 8, 339, 0, 0, 0, 8, 0), (339, .invokestatic 57, 342, 82, 2, 0, 0, 255), (342, .iload_n 2, 343, 2, 0, 0, 0, 0), (343, .bipush 11, 345, 0, 0, 0, 11, 0), (345, .ishr, 346, 0, 0, 0, 0, 0), (346, .bipush 12, 348, 0, 0, 0, 12, 0), (348, .invokestatic 57, 351, 82, 2, 0, 0, 255)]),
  (372, [(351, .iload_n 3, 352, 3, 0, 0, 0, 0), (352, .bipush 16, 354, 0, 0, 0, 16, 0), (354, .ishr, 355, 0, 0, 0, 0, 0), (355, .sipush 256, 358, 0, 0, 0, 256, 0), (358, .invokestatic 57, 361, 82, 2, 0, 0, 255), (361, .iconst 1, 362, 0, 0, 0, 1, 0), (362, .iload_n 3, 363, 3, 0, 0, 0, 0), (363, .bipush 8, 365, 0, 0, 0, 8, 0), (365, .ishr, 366, 0, 0, 0, 0, 0), (366, .sipush 255, 369, 0, 0, 0, 255, 0), (369, .invokestatic 57, 372, 82, 2, 0, 0, 255), (372, .iadd, 373, 0, 0, 0, 0, 0)]),
  (390, [(373, .iconst 1, 374, 0, 0, 0, 1, 0), (374, .iload_n 3, 375, 3, 0, 0, 0, 0), (375, .iconst 4, 376, 0, 0, 0, 4, 0), (376, .ishr, 377, 0, 0, 0, 0, 0), (377, .sipush 3000, 380, 0, 0, 0, 3000, 0), (380, .invokestatic 57, 383, 82, 2, 0, 0, 255), (383, .iadd, 384, 0, 0, 0, 0, 0), (384, .iload_n 2, 385, 2, 0, 0, 0, 0), (385, .bipush 15, 387, 0, 0, 0, 15, 0), (387, .ishr, 388, 0, 0, 0, 0, 0), (388, .bipush 21, 390, 0, 0, 0, 21, 0), (390, .invokestatic 57, 393, 82, 2, 0, 0, 255)]),
  (415, [(393, .iload_n 2, 394, 2, 0, 0, 0, 0), (394, .iconst 5, 395, 0, 0, 0, 5, 0), (395, .ishr, 396, 0, 0, 0, 0, 0), (396, .bipush 31, 398, 0, 0, 0, 31, 0), (398, .invokestatic 57, 401, 82, 2, 0, 0, 255), (401, .invokevirtual 65, 404, 57, 9, 7, 0, 514), (404, .istore 11, 406, 11, 0, 0, 0, 0), (406, .iload 8, 408, 8, 0, 0, 0, 0), (408, .bipush 10, 410, 0, 0, 0, 10, 0), (410, .if_icmp .ne 19, 413, 429, 0, 0, 0, 0), (413, .iload 11, 415, 11, 0, 0, 0, 0), (415, .sipush (-10004), 418, 0, 0, 0, (-10004), 0)]),
  (441, [(418, .if_icmp .ne 7, 421, 425, 0, 0, 0, 0), (421, .iconst 1, 422, 0, 0, 0, 1, 0), (422, .goto 68, 425, 490, 0, 0, 0, 0), (425, .iconst 0, 426, 0, 0, 0, 0, 0), (426, .goto 64, 429, 490, 0, 0, 0, 0), (429, .iload 11, 431, 11, 0, 0, 0, 0), (431, .ifCond .le 58, 434, 489, 0, 0, 0, 0), (434, .aload_n 0, 435, 0, 0, 0, 0, 0), (435, .iconst 2, 436, 0, 0, 0, 2, 0), (436, .invokevirtual 27, 439, 65, 2, 7, 0, 232), (439, .iload 8, 441, 8, 0, 0, 0, 0), (441, .iconst 1, 442, 0, 0, 0, 1, 0)]),
  (465, [(442, .iadd, 443, 0, 0, 0, 0, 0), (443, .if_icmp .ne 46, 446, 489, 0, 0, 0, 0), (446, .aload_n 0, 447, 0, 0, 0, 0, 0), (447, .iload 11, 449, 11, 0, 0, 0, 0), (449, .bipush 8, 451, 0, 0, 0, 8, 0), (451, .invokevirtual 14, 454, 67, 3, 7, 0, 324), (454, .sipush (-10006), 457, 0, 0, 0, (-10006), 0), (457, .if_icmp .ne 32, 460, 489, 0, 0, 0, 0), (460, .aload_n 0, 461, 0, 0, 0, 0, 0), (461, .iload 11, 463, 11, 0, 0, 0, 0), (463, .bipush 7, 465, 0, 0, 0, 7, 0), (465, .invokevirtual 14, 468, 67, 3, 7, 0, 324)]),
  (486, [(468, .aload_n 0, 469, 0, 0, 0, 0, 0), (469, .iconst 0, 470, 0, 0, 0, 0, 0), (470, .invokevirtual 27, 473, 65, 2, 7, 0, 232), (473, .iload_n 2, 474, 2, 0, 0, 0, 0), (474, .iconst 5, 475, 0, 0, 0, 5, 0), (475, .ishr, 476, 0, 0, 0, 0, 0), (476, .bipush 31, 478, 0, 0, 0, 31, 0), (478, .invokestatic 57, 481, 82, 2, 0, 0, 255), (481, .isub, 482, 0, 0, 0, 0, 0), (482, .if_icmp .ne 7, 485, 489, 0, 0, 0, 0), (485, .iconst 1, 486, 0, 0, 0, 1, 0), (486, .goto 4, 489, 490, 0, 0, 0, 0)]),
  (510, [(489, .iconst 0, 490, 0, 0, 0, 0, 0), (490, .ireturn, 491, 0, 0, 1, 0, 0), (491, .iload 4, 493, 4, 0, 0, 0, 0), (493, .ifCond .eq 8, 496, 501, 0, 0, 0, 0), (496, .iload 5, 498, 5, 0, 0, 0, 0), (498, .ifCond .ne 7, 501, 505, 0, 0, 0, 0), (501, .iconst 0, 502, 0, 0, 0, 0, 0), (502, .goto 12, 505, 514, 0, 0, 0, 0), (505, .aload_n 0, 506, 0, 0, 0, 0, 0), (506, .iload 4, 508, 4, 0, 0, 0, 0), (508, .iload 5, 510, 5, 0, 0, 0, 0), (510, .iconst 0, 511, 0, 0, 0, 0, 0)]),
  (537, [(511, .invokevirtual 17, 514, 68, 4, 7, 0, 262), (514, .istore 12, 516, 12, 0, 0, 0, 0), (516, .iload 4, 518, 4, 0, 0, 0, 0), (518, .ifCond .le 48, 521, 566, 0, 0, 0, 0), (521, .iload 5, 523, 5, 0, 0, 0, 0), (523, .ifCond .le 43, 526, 566, 0, 0, 0, 0), (526, .aload_n 0, 527, 0, 0, 0, 0, 0), (527, .iload 4, 529, 4, 0, 0, 0, 0), (529, .bipush 8, 531, 0, 0, 0, 8, 0), (531, .invokevirtual 14, 534, 67, 3, 7, 0, 324), (534, .sipush (-10006), 537, 0, 0, 0, (-10006), 0), (537, .if_icmp .ne 29, 540, 566, 0, 0, 0, 0)]),
  (566, [(540, .aload_n 0, 541, 0, 0, 0, 0, 0), (541, .iload 5, 543, 5, 0, 0, 0, 0), (543, .bipush 7, 545, 0, 0, 0, 7, 0), (545, .invokevirtual 8, 548, 66, 3, 7, 0, 316), (548, .sipush (-10006), 551, 0, 0, 0, (-10006), 0), (551, .if_icmp .ne 15, 554, 566, 0, 0, 0, 0), (554, .iload 12, 556, 12, 0, 0, 0, 0), (556, .sipush (-10006), 559, 0, 0, 0, (-10006), 0), (559, .if_icmp .eq 7, 562, 566, 0, 0, 0, 0), (562, .iconst 1, 563, 0, 0, 0, 1, 0), (563, .goto 4, 566, 567, 0, 0, 0, 0), (566, .iconst 0, 567, 0, 0, 0, 0, 0)]),
  (591, [(567, .istore 13, 569, 13, 0, 0, 0, 0), (569, .aload_n 0, 570, 0, 0, 0, 0, 0), (570, .iload 4, 572, 4, 0, 0, 0, 0), (572, .iload 5, 574, 5, 0, 0, 0, 0), (574, .invokevirtual 54, 577, 58, 3, 7, 0, 482), (577, .istore 14, 579, 14, 0, 0, 0, 0), (579, .iload 14, 581, 14, 0, 0, 0, 0), (581, .iload 4, 583, 4, 0, 0, 0, 0), (583, .ifCond .eq 8, 586, 591, 0, 0, 0, 0), (586, .iload 5, 588, 5, 0, 0, 0, 0), (588, .ifCond .ne 9, 591, 597, 0, 0, 0, 0), (591, .sipush (-10001), 594, 0, 0, 0, (-10001), 0)]),
  (619, [(594, .goto 16, 597, 610, 0, 0, 0, 0), (597, .iload 13, 599, 13, 0, 0, 0, 0), (599, .ifCond .eq 8, 602, 607, 0, 0, 0, 0), (602, .iload 12, 604, 12, 0, 0, 0, 0), (604, .goto 6, 607, 610, 0, 0, 0, 0), (607, .sipush (-10003), 610, 0, 0, 0, (-10003), 0), (610, .if_icmp .ne 7, 613, 617, 0, 0, 0, 0), (613, .iconst 1, 614, 0, 0, 0, 1, 0), (614, .goto 4, 617, 618, 0, 0, 0, 0), (617, .iconst 0, 618, 0, 0, 0, 0, 0), (618, .ireturn, 619, 0, 0, 1, 0, 0), (619, .iload 4, 621, 4, 0, 0, 0, 0)]),
  (644, [(621, .ifCond .ne 7, 624, 628, 0, 0, 0, 0), (624, .iconst 0, 625, 0, 0, 0, 0, 0), (625, .goto 11, 628, 636, 0, 0, 0, 0), (628, .aload_n 0, 629, 0, 0, 0, 0, 0), (629, .iload 4, 631, 4, 0, 0, 0, 0), (631, .bipush 8, 633, 0, 0, 0, 8, 0), (633, .invokevirtual 14, 636, 67, 3, 7, 0, 324), (636, .istore 15, 638, 15, 0, 0, 0, 0), (638, .aload_n 0, 639, 0, 0, 0, 0, 0), (639, .iload 4, 641, 4, 0, 0, 0, 0), (641, .invokevirtual 69, 644, 59, 2, 7, 0, 521), (644, .iload 4, 646, 4, 0, 0, 0, 0)]),
  (675, [(646, .ifCond .ne 9, 649, 655, 0, 0, 0, 0), (649, .sipush (-10001), 652, 0, 0, 0, (-10001), 0), (652, .goto 19, 655, 671, 0, 0, 0, 0), (655, .iload 15, 657, 15, 0, 0, 0, 0), (657, .sipush (-10006), 660, 0, 0, 0, (-10006), 0), (660, .if_icmp .ne 9, 663, 669, 0, 0, 0, 0), (663, .sipush (-10003), 666, 0, 0, 0, (-10003), 0), (666, .goto 5, 669, 671, 0, 0, 0, 0), (669, .iload 15, 671, 15, 0, 0, 0, 0), (671, .if_icmp .ne 7, 674, 678, 0, 0, 0, 0), (674, .iconst 1, 675, 0, 0, 0, 1, 0), (675, .goto 4, 678, 679, 0, 0, 0, 0)]),
  (696, [(678, .iconst 0, 679, 0, 0, 0, 0, 0), (679, .ireturn, 680, 0, 0, 1, 0, 0), (680, .aload_n 0, 681, 0, 0, 0, 0, 0), (681, .iload 4, 683, 4, 0, 0, 0, 0), (683, .iconst 0, 684, 0, 0, 0, 0, 0), (684, .iconst 0, 685, 0, 0, 0, 0, 0), (685, .invokevirtual 72, 688, 74, 4, 7, 0, 531), (688, .istore 16, 690, 16, 0, 0, 0, 0), (690, .iload 4, 692, 4, 0, 0, 0, 0), (692, .ifCond .eq 17, 695, 709, 0, 0, 0, 0), (695, .aload_n 0, 696, 0, 0, 0, 0, 0), (696, .iload 4, 698, 4, 0, 0, 0, 0)]),
  (722, [(698, .bipush 8, 700, 0, 0, 0, 8, 0), (700, .invokevirtual 14, 703, 67, 3, 7, 0, 324), (703, .sipush (-10006), 706, 0, 0, 0, (-10006), 0), (706, .if_icmp .ne 7, 709, 713, 0, 0, 0, 0), (709, .iconst 1, 710, 0, 0, 0, 1, 0), (710, .goto 4, 713, 714, 0, 0, 0, 0), (713, .iconst 0, 714, 0, 0, 0, 0, 0), (714, .istore 17, 716, 17, 0, 0, 0, 0), (716, .aload_n 0, 717, 0, 0, 0, 0, 0), (717, .iload 4, 719, 4, 0, 0, 0, 0), (719, .invokevirtual 75, 722, 61, 2, 7, 0, 545), (722, .istore 18, 724, 18, 0, 0, 0, 0)]),
  (749, [(724, .iload 17, 726, 17, 0, 0, 0, 0), (726, .ifCond .eq 16, 729, 742, 0, 0, 0, 0), (729, .iload 18, 731, 18, 0, 0, 0, 0), (731, .ifCond .ge 7, 734, 738, 0, 0, 0, 0), (734, .iconst 1, 735, 0, 0, 0, 1, 0), (735, .goto 70, 738, 805, 0, 0, 0, 0), (738, .iconst 0, 739, 0, 0, 0, 0, 0), (739, .goto 66, 742, 805, 0, 0, 0, 0), (742, .iload 18, 744, 18, 0, 0, 0, 0), (744, .iload 16, 746, 16, 0, 0, 0, 0), (746, .if_icmp .ne 58, 749, 804, 0, 0, 0, 0), (749, .aload_n 0, 750, 0, 0, 0, 0, 0)]),
  (771, [(750, .bipush 7, 752, 0, 0, 0, 7, 0), (752, .invokevirtual 27, 755, 65, 2, 7, 0, 232), (755, .iload 6, 757, 6, 0, 0, 0, 0), (757, .iload 16, 759, 16, 0, 0, 0, 0), (759, .iadd, 760, 0, 0, 0, 0, 0), (760, .if_icmp .ne 44, 763, 804, 0, 0, 0, 0), (763, .aload_n 0, 764, 0, 0, 0, 0, 0), (764, .iconst 1, 765, 0, 0, 0, 1, 0), (765, .invokevirtual 27, 768, 65, 2, 7, 0, 232), (768, .iload 7, 770, 7, 0, 0, 0, 0), (770, .iconst 1, 771, 0, 0, 0, 1, 0), (771, .isub, 772, 0, 0, 0, 0, 0)]),
  (791, [(772, .if_icmp .ne 32, 775, 804, 0, 0, 0, 0), (775, .aload_n 0, 776, 0, 0, 0, 0, 0), (776, .iconst 2, 777, 0, 0, 0, 2, 0), (777, .invokevirtual 27, 780, 65, 2, 7, 0, 232), (780, .iload 8, 782, 8, 0, 0, 0, 0), (782, .iconst 1, 783, 0, 0, 0, 1, 0), (783, .isub, 784, 0, 0, 0, 0, 0), (784, .if_icmp .ne 20, 787, 804, 0, 0, 0, 0), (787, .aload_n 0, 788, 0, 0, 0, 0, 0), (788, .iload 4, 790, 4, 0, 0, 0, 0), (790, .iconst 0, 791, 0, 0, 0, 0, 0), (791, .invokevirtual 14, 794, 67, 3, 7, 0, 324)]),
  (814, [(794, .sipush (-10001), 797, 0, 0, 0, (-10001), 0), (797, .if_icmp .ne 7, 800, 804, 0, 0, 0, 0), (800, .iconst 1, 801, 0, 0, 0, 1, 0), (801, .goto 4, 804, 805, 0, 0, 0, 0), (804, .iconst 0, 805, 0, 0, 0, 0, 0), (805, .ireturn, 806, 0, 0, 1, 0, 0), (806, .aload_n 0, 807, 0, 0, 0, 0, 0), (807, .iload 4, 809, 4, 0, 0, 0, 0), (809, .iconst 0, 810, 0, 0, 0, 0, 0), (810, .iconst 1, 811, 0, 0, 0, 1, 0), (811, .invokevirtual 72, 814, 74, 4, 7, 0, 531), (814, .istore 19, 816, 19, 0, 0, 0, 0)]),
  (840, [(816, .iload 4, 818, 4, 0, 0, 0, 0), (818, .ifCond .le 40, 821, 858, 0, 0, 0, 0), (821, .aload_n 0, 822, 0, 0, 0, 0, 0), (822, .iload 4, 824, 4, 0, 0, 0, 0), (824, .bipush 8, 826, 0, 0, 0, 8, 0), (826, .invokevirtual 14, 829, 67, 3, 7, 0, 324), (829, .sipush (-10006), 832, 0, 0, 0, (-10006), 0), (832, .if_icmp .ne 26, 835, 858, 0, 0, 0, 0), (835, .aload_n 0, 836, 0, 0, 0, 0, 0), (836, .iconst 0, 837, 0, 0, 0, 0, 0), (837, .invokevirtual 27, 840, 65, 2, 7, 0, 232), (840, .aload_n 0, 841, 0, 0, 0, 0, 0)]),
  (862, [(841, .iload 4, 843, 4, 0, 0, 0, 0), (843, .bipush 7, 845, 0, 0, 0, 7, 0), (845, .invokevirtual 14, 848, 67, 3, 7, 0, 324), (848, .isub, 849, 0, 0, 0, 0, 0), (849, .bipush 20, 851, 0, 0, 0, 20, 0), (851, .if_icmp .le 7, 854, 858, 0, 0, 0, 0), (854, .iconst 1, 855, 0, 0, 0, 1, 0), (855, .goto 4, 858, 859, 0, 0, 0, 0), (858, .iconst 0, 859, 0, 0, 0, 0, 0), (859, .istore 20, 861, 20, 0, 0, 0, 0), (861, .aload_n 0, 862, 0, 0, 0, 0, 0), (862, .iload 4, 864, 4, 0, 0, 0, 0)]),
  (889, [(864, .invokevirtual 78, 867, 62, 2, 7, 0, 553), (867, .istore 21, 869, 21, 0, 0, 0, 0), (869, .iload 20, 871, 20, 0, 0, 0, 0), (871, .ifCond .eq 44, 874, 915, 0, 0, 0, 0), (874, .iload 21, 876, 21, 0, 0, 0, 0), (876, .iload 19, 878, 19, 0, 0, 0, 0), (878, .if_icmp .ne 33, 881, 911, 0, 0, 0, 0), (881, .aload_n 0, 882, 0, 0, 0, 0, 0), (882, .bipush 7, 884, 0, 0, 0, 7, 0), (884, .invokevirtual 27, 887, 65, 2, 7, 0, 232), (887, .iload 6, 889, 6, 0, 0, 0, 0), (889, .iload 19, 891, 19, 0, 0, 0, 0)]),
  (911, [(891, .iadd, 892, 0, 0, 0, 0, 0), (892, .if_icmp .ne 19, 895, 911, 0, 0, 0, 0), (895, .aload_n 0, 896, 0, 0, 0, 0, 0), (896, .iconst 2, 897, 0, 0, 0, 2, 0), (897, .invokevirtual 27, 900, 65, 2, 7, 0, 232), (900, .iload 8, 902, 8, 0, 0, 0, 0), (902, .iconst 1, 903, 0, 0, 0, 1, 0), (903, .isub, 904, 0, 0, 0, 0, 0), (904, .if_icmp .ne 7, 907, 911, 0, 0, 0, 0), (907, .iconst 1, 908, 0, 0, 0, 1, 0), (908, .goto 27, 911, 935, 0, 0, 0, 0), (911, .iconst 0, 912, 0, 0, 0, 0, 0)]),
  (935, [(912, .goto 23, 915, 935, 0, 0, 0, 0), (915, .iload 21, 917, 21, 0, 0, 0, 0), (917, .ifCond .ge 17, 920, 934, 0, 0, 0, 0), (920, .aload_n 0, 921, 0, 0, 0, 0, 0), (921, .iconst 2, 922, 0, 0, 0, 2, 0), (922, .invokevirtual 27, 925, 65, 2, 7, 0, 232), (925, .iload 8, 927, 8, 0, 0, 0, 0), (927, .if_icmp .ne 7, 930, 934, 0, 0, 0, 0), (930, .iconst 1, 931, 0, 0, 0, 1, 0), (931, .goto 4, 934, 935, 0, 0, 0, 0), (934, .iconst 0, 935, 0, 0, 0, 0, 0), (935, .ireturn, 936, 0, 0, 1, 0, 0)]),
  (960, [(936, .iload 5, 938, 5, 0, 0, 0, 0), (938, .ifCond .le 40, 941, 978, 0, 0, 0, 0), (941, .aload_n 0, 942, 0, 0, 0, 0, 0), (942, .iload 5, 944, 5, 0, 0, 0, 0), (944, .bipush 7, 946, 0, 0, 0, 7, 0), (946, .invokevirtual 8, 949, 66, 3, 7, 0, 316), (949, .sipush (-10006), 952, 0, 0, 0, (-10006), 0), (952, .if_icmp .ne 26, 955, 978, 0, 0, 0, 0), (955, .aload_n 0, 956, 0, 0, 0, 0, 0), (956, .iconst 0, 957, 0, 0, 0, 0, 0), (957, .invokevirtual 27, 960, 65, 2, 7, 0, 232), (960, .aload_n 0, 961, 0, 0, 0, 0, 0)]),
  (982, [(961, .iload 5, 963, 5, 0, 0, 0, 0), (963, .bipush 6, 965, 0, 0, 0, 6, 0), (965, .invokevirtual 8, 968, 66, 3, 7, 0, 316), (968, .isub, 969, 0, 0, 0, 0, 0), (969, .bipush 89, 971, 0, 0, 0, 89, 0), (971, .if_icmp .le 7, 974, 978, 0, 0, 0, 0), (974, .iconst 1, 975, 0, 0, 0, 1, 0), (975, .goto 4, 978, 979, 0, 0, 0, 0), (978, .iconst 0, 979, 0, 0, 0, 0, 0), (979, .istore 22, 981, 22, 0, 0, 0, 0), (981, .aload_n 0, 982, 0, 0, 0, 0, 0), (982, .iload 5, 984, 5, 0, 0, 0, 0)]),
  (1010, [(984, .invokevirtual 81, 987, 63, 2, 7, 0, 557), (987, .iload 5, 989, 5, 0, 0, 0, 0), (989, .ifCond .ne 9, 992, 998, 0, 0, 0, 0), (992, .sipush (-10001), 995, 0, 0, 0, (-10001), 0), (995, .goto 18, 998, 1013, 0, 0, 0, 0), (998, .iload 22, 1000, 22, 0, 0, 0, 0), (1000, .ifCond .eq 10, 1003, 1010, 0, 0, 0, 0), (1003, .iload 7, 1005, 7, 0, 0, 0, 0), (1005, .iconst 1, 1006, 0, 0, 0, 1, 0), (1006, .isub, 1007, 0, 0, 0, 0, 0), (1007, .goto 6, 1010, 1013, 0, 0, 0, 0), (1010, .sipush (-10003), 1013, 0, 0, 0, (-10003), 0)]),
  (1033, [(1013, .if_icmp .ne 7, 1016, 1020, 0, 0, 0, 0), (1016, .iconst 1, 1017, 0, 0, 0, 1, 0), (1017, .goto 4, 1020, 1021, 0, 0, 0, 0), (1020, .iconst 0, 1021, 0, 0, 0, 0, 0), (1021, .ireturn, 1022, 0, 0, 1, 0, 0), (1022, .iload_n 3, 1023, 3, 0, 0, 0, 0), (1023, .sipush 201, 1026, 0, 0, 0, 201, 0), (1026, .invokestatic 57, 1029, 82, 2, 0, 0, 255), (1029, .istore 23, 1031, 23, 0, 0, 0, 0), (1031, .aload_n 1, 1032, 1, 0, 0, 0, 0), (1032, .iconst 0, 1033, 0, 0, 0, 0, 0), (1033, .iaload, 1034, 0, 0, 0, 0, 0)]),
  (1053, [(1034, .istore 24, 1036, 24, 0, 0, 0, 0), (1036, .aload_n 1, 1037, 1, 0, 0, 0, 0), (1037, .iconst 0, 1038, 0, 0, 0, 0, 0), (1038, .iload 23, 1040, 23, 0, 0, 0, 0), (1040, .iastore, 1041, 0, 0, 0, 0, 0), (1041, .aload_n 0, 1042, 0, 0, 0, 0, 0), (1042, .iload 23, 1044, 23, 0, 0, 0, 0), (1044, .invokevirtual 84, 1047, 55, 2, 7, 0, 561), (1047, .iload 24, 1049, 24, 0, 0, 0, 0), (1049, .if_icmp .ne 7, 1052, 1056, 0, 0, 0, 0), (1052, .iconst 1, 1053, 0, 0, 0, 1, 0), (1053, .goto 4, 1056, 1057, 0, 0, 0, 0)]),
  (1072, [(1056, .iconst 0, 1057, 0, 0, 0, 0, 0), (1057, .ireturn, 1058, 0, 0, 1, 0, 0), (1058, .iload_n 2, 1059, 2, 0, 0, 0, 0), (1059, .iconst 5, 1060, 0, 0, 0, 5, 0), (1060, .ishr, 1061, 0, 0, 0, 0, 0), (1061, .bipush 6, 1063, 0, 0, 0, 6, 0), (1063, .invokestatic 57, 1066, 82, 2, 0, 0, 255), (1066, .istore 25, 1068, 25, 0, 0, 0, 0), (1068, .aload_n 1, 1069, 1, 0, 0, 0, 0), (1069, .iconst 1, 1070, 0, 0, 0, 1, 0), (1070, .iload 25, 1072, 25, 0, 0, 0, 0), (1072, .iadd, 1073, 0, 0, 0, 0, 0)]),
  (1089, [(1073, .iaload, 1074, 0, 0, 0, 0, 0), (1074, .istore 26, 1076, 26, 0, 0, 0, 0), (1076, .aload_n 1, 1077, 1, 0, 0, 0, 0), (1077, .iconst 1, 1078, 0, 0, 0, 1, 0), (1078, .iload 25, 1080, 25, 0, 0, 0, 0), (1080, .iadd, 1081, 0, 0, 0, 0, 0), (1081, .iload_n 3, 1082, 3, 0, 0, 0, 0), (1082, .bipush 51, 1084, 0, 0, 0, 51, 0), (1084, .invokestatic 57, 1087, 82, 2, 0, 0, 255), (1087, .iastore, 1088, 0, 0, 0, 0, 0), (1088, .aload_n 0, 1089, 0, 0, 0, 0, 0), (1089, .iload 25, 1091, 25, 0, 0, 0, 0)]),
  (1110, [(1091, .aload_n 1, 1092, 1, 0, 0, 0, 0), (1092, .iconst 1, 1093, 0, 0, 0, 1, 0), (1093, .iload 25, 1095, 25, 0, 0, 0, 0), (1095, .iadd, 1096, 0, 0, 0, 0, 0), (1096, .iaload, 1097, 0, 0, 0, 0, 0), (1097, .invokevirtual 87, 1100, 54, 3, 7, 0, 565), (1100, .iload 26, 1102, 26, 0, 0, 0, 0), (1102, .if_icmp .ne 7, 1105, 1109, 0, 0, 0, 0), (1105, .iconst 1, 1106, 0, 0, 0, 1, 0), (1106, .goto 4, 1109, 1110, 0, 0, 0, 0), (1109, .iconst 0, 1110, 0, 0, 0, 0, 0), (1110, .ireturn, 1111, 0, 0, 1, 0, 0)]),
  (1125, [(1111, .aload_n 0, 1112, 0, 0, 0, 0, 0), (1112, .iconst 0, 1113, 0, 0, 0, 0, 0), (1113, .invokevirtual 27, 1116, 65, 2, 7, 0, 232), (1116, .istore 27, 1118, 27, 0, 0, 0, 0), (1118, .iconst 1, 1119, 0, 0, 0, 1, 0), (1119, .iload_n 3, 1120, 3, 0, 0, 0, 0), (1120, .iload_n 2, 1121, 2, 0, 0, 0, 0), (1121, .iconst 5, 1122, 0, 0, 0, 5, 0), (1122, .ishr, 1123, 0, 0, 0, 0, 0), (1123, .iconst 3, 1124, 0, 0, 0, 3, 0), (1124, .iand, 1125, 0, 0, 0, 0, 0), (1125, .ifCond .ne 8, 1128, 1133, 0, 0, 0, 0)]),
  (1151, [(1128, .bipush 99, 1130, 0, 0, 0, 99, 0), (1130, .goto 5, 1133, 1135, 0, 0, 0, 0), (1133, .bipush 12, 1135, 0, 0, 0, 12, 0), (1135, .invokestatic 57, 1138, 82, 2, 0, 0, 255), (1138, .iadd, 1139, 0, 0, 0, 0, 0), (1139, .istore 28, 1141, 28, 0, 0, 0, 0), (1141, .aload_n 0, 1142, 0, 0, 0, 0, 0), (1142, .iload 28, 1144, 28, 0, 0, 0, 0), (1144, .invokevirtual 90, 1147, 64, 2, 7, 0, 569), (1147, .iload 27, 1149, 27, 0, 0, 0, 0), (1149, .iload 28, 1151, 28, 0, 0, 0, 0), (1151, .iadd, 1152, 0, 0, 0, 0, 0)]),
  (1160, [(1152, .if_icmp .ne 7, 1155, 1159, 0, 0, 0, 0), (1155, .iconst 1, 1156, 0, 0, 0, 1, 0), (1156, .goto 4, 1159, 1160, 0, 0, 0, 0), (1159, .iconst 0, 1160, 0, 0, 0, 0, 0), (1160, .ireturn, 1161, 0, 0, 1, 0, 0)])]
def tL_law : CT := [(20, [(0, .new 9, 3, 7, 9, 25, 11, 24), (3, .dup, 4, 0, 0, 0, 0, 0), (4, .invokespecial 93, 7, 53, 1, 0, 0, 26), (7, .astore_n 1, 8, 1, 0, 0, 0, 0), (8, .bipush 7, 10, 0, 0, 0, 7, 0), (10, .newarray .int, 12, 0, 0, 0, 0, 64), (12, .astore_n 2, 13, 2, 0, 0, 0, 0), (13, .bipush 12, 15, 0, 0, 0, 12, 0), (15, .newarray .int, 17, 0, 0, 0, 0, 64), (17, .astore_n 3, 18, 3, 0, 0, 0, 0), (18, .bipush 10, 20, 0, 0, 0, 10, 0), (20, .newarray .int, 22, 0, 0, 0, 0, 64)]),
  (36, [(22, .astore 4, 24, 4, 0, 0, 0, 0), (24, .aload_n 2, 25, 2, 0, 0, 0, 0), (25, .iconst 0, 26, 0, 0, 0, 0, 0), (26, .bipush 40, 28, 0, 0, 0, 40, 0), (28, .iastore, 29, 0, 0, 0, 0, 0), (29, .aload_n 2, 30, 2, 0, 0, 0, 0), (30, .iconst 1, 31, 0, 0, 0, 1, 0), (31, .bipush 8, 33, 0, 0, 0, 8, 0), (33, .iastore, 34, 0, 0, 0, 0, 0), (34, .aload_n 2, 35, 2, 0, 0, 0, 0), (35, .iconst 2, 36, 0, 0, 0, 2, 0), (36, .bipush 10, 38, 0, 0, 0, 10, 0)]),
  (50, [(38, .iastore, 39, 0, 0, 0, 0, 0), (39, .aload_n 2, 40, 2, 0, 0, 0, 0), (40, .iconst 3, 41, 0, 0, 0, 3, 0), (41, .bipush 12, 43, 0, 0, 0, 12, 0), (43, .iastore, 44, 0, 0, 0, 0, 0), (44, .aload_n 2, 45, 2, 0, 0, 0, 0), (45, .iconst 4, 46, 0, 0, 0, 4, 0), (46, .iconst 5, 47, 0, 0, 0, 5, 0), (47, .iastore, 48, 0, 0, 0, 0, 0), (48, .aload_n 2, 49, 2, 0, 0, 0, 0), (49, .iconst 5, 50, 0, 0, 0, 5, 0), (50, .bipush 15, 52, 0, 0, 0, 15, 0)]),
  (69, [(52, .iastore, 53, 0, 0, 0, 0, 0), (53, .aload_n 2, 54, 2, 0, 0, 0, 0), (54, .bipush 6, 56, 0, 0, 0, 6, 0), (56, .iconst 1, 57, 0, 0, 0, 1, 0), (57, .iastore, 58, 0, 0, 0, 0, 0), (58, .iconst 0, 59, 0, 0, 0, 0, 0), (59, .istore 5, 61, 5, 0, 0, 0, 0), (61, .iload 5, 63, 5, 0, 0, 0, 0), (63, .bipush 60, 65, 0, 0, 0, 60, 0), (65, .if_icmp .ge 169, 68, 234, 0, 0, 0, 0), (68, .aload_n 0, 69, 0, 0, 0, 0, 0), (69, .iconst 2, 70, 0, 0, 0, 2, 0)]),
  (87, [(70, .iload 5, 72, 5, 0, 0, 0, 0), (72, .imul, 73, 0, 0, 0, 0, 0), (73, .invokestatic 94, 76, 81, 2, 0, 0, 252), (76, .istore 6, 78, 6, 0, 0, 0, 0), (78, .aload_n 1, 79, 1, 0, 0, 0, 0), (79, .aload_n 2, 80, 2, 0, 0, 0, 0), (80, .iload 6, 82, 6, 0, 0, 0, 0), (82, .aload_n 0, 83, 0, 0, 0, 0, 0), (83, .iconst 2, 84, 0, 0, 0, 2, 0), (84, .iload 5, 86, 5, 0, 0, 0, 0), (86, .imul, 87, 0, 0, 0, 0, 0), (87, .iconst 1, 88, 0, 0, 0, 1, 0)]),
  (110, [(88, .iadd, 89, 0, 0, 0, 0, 0), (89, .invokestatic 94, 92, 81, 2, 0, 0, 252), (92, .invokestatic 98, 95, 88, 4, 0, 0, 487), (95, .ifCond .eq 13, 98, 108, 0, 0, 0, 0), (98, .aload_n 1, 99, 1, 0, 0, 0, 0), (99, .aload_n 3, 100, 3, 0, 0, 0, 0), (100, .aload 4, 102, 4, 0, 0, 0, 0), (102, .invokestatic 102, 105, 85, 3, 0, 0, 338), (105, .ifCond .ne 5, 108, 110, 0, 0, 0, 0), (108, .iconst 0, 109, 0, 0, 0, 0, 0), (109, .ireturn, 110, 0, 0, 1, 0, 0), (110, .aload_n 1, 111, 1, 0, 0, 0, 0)]),
  (134, [(111, .iconst 1, 112, 0, 0, 0, 1, 0), (112, .invokevirtual 27, 115, 65, 2, 7, 0, 232), (115, .istore 7, 117, 7, 0, 0, 0, 0), (117, .aload_n 1, 118, 1, 0, 0, 0, 0), (118, .iconst 2, 119, 0, 0, 0, 2, 0), (119, .invokevirtual 27, 122, 65, 2, 7, 0, 232), (122, .istore 8, 124, 8, 0, 0, 0, 0), (124, .iload 7, 126, 7, 0, 0, 0, 0), (126, .ifCond .le 42, 129, 168, 0, 0, 0, 0), (129, .iload 8, 131, 8, 0, 0, 0, 0), (131, .ifCond .le 37, 134, 168, 0, 0, 0, 0), (134, .aload_n 1, 135, 1, 0, 0, 0, 0)]),
  (153, [(135, .aload 4, 137, 4, 0, 0, 0, 0), (137, .iload 6, 139, 6, 0, 0, 0, 0), (139, .iconst 3, 140, 0, 0, 0, 3, 0), (140, .ishr, 141, 0, 0, 0, 0, 0), (141, .iload 8, 143, 8, 0, 0, 0, 0), (143, .invokestatic 57, 146, 82, 2, 0, 0, 255), (146, .iaload, 147, 0, 0, 0, 0, 0), (147, .aload_n 3, 148, 3, 0, 0, 0, 0), (148, .iload 6, 150, 6, 0, 0, 0, 0), (150, .bipush 6, 152, 0, 0, 0, 6, 0), (152, .ishr, 153, 0, 0, 0, 0, 0), (153, .iload 7, 155, 7, 0, 0, 0, 0)]),
  (176, [(155, .invokestatic 57, 158, 82, 2, 0, 0, 255), (158, .iaload, 159, 0, 0, 0, 0, 0), (159, .aload_n 2, 160, 2, 0, 0, 0, 0), (160, .iconst 0, 161, 0, 0, 0, 0, 0), (161, .iaload, 162, 0, 0, 0, 0, 0), (162, .invokestatic 106, 165, 84, 4, 0, 0, 259), (165, .ifCond .eq 61, 168, 226, 0, 0, 0, 0), (168, .iload 8, 170, 8, 0, 0, 0, 0), (170, .ifCond .le 33, 173, 203, 0, 0, 0, 0), (173, .iload 5, 175, 5, 0, 0, 0, 0), (175, .iconst 4, 176, 0, 0, 0, 4, 0), (176, .irem, 177, 0, 0, 0, 0, 0)]),
  (195, [(177, .iconst 1, 178, 0, 0, 0, 1, 0), (178, .if_icmp .ne 25, 181, 203, 0, 0, 0, 0), (181, .aload_n 1, 182, 1, 0, 0, 0, 0), (182, .aload 4, 184, 4, 0, 0, 0, 0), (184, .iload 6, 186, 6, 0, 0, 0, 0), (186, .iconst 4, 187, 0, 0, 0, 4, 0), (187, .ishr, 188, 0, 0, 0, 0, 0), (188, .iload 8, 190, 8, 0, 0, 0, 0), (190, .invokestatic 57, 193, 82, 2, 0, 0, 255), (193, .iaload, 194, 0, 0, 0, 0, 0), (194, .aload_n 2, 195, 2, 0, 0, 0, 0), (195, .iconst 0, 196, 0, 0, 0, 0, 0)]),
  (217, [(196, .iaload, 197, 0, 0, 0, 0, 0), (197, .invokestatic 110, 200, 86, 3, 0, 0, 344), (200, .ifCond .eq 26, 203, 226, 0, 0, 0, 0), (203, .iload 5, 205, 5, 0, 0, 0, 0), (205, .bipush 20, 207, 0, 0, 0, 20, 0), (207, .irem, 208, 0, 0, 0, 0, 0), (208, .bipush 17, 210, 0, 0, 0, 17, 0), (210, .if_icmp .ne 18, 213, 228, 0, 0, 0, 0), (213, .aload_n 1, 214, 1, 0, 0, 0, 0), (214, .aload_n 3, 215, 3, 0, 0, 0, 0), (215, .aload 4, 217, 4, 0, 0, 0, 0), (217, .aload_n 2, 218, 2, 0, 0, 0, 0)]),
  (235, [(218, .iconst 0, 219, 0, 0, 0, 0, 0), (219, .iaload, 220, 0, 0, 0, 0, 0), (220, .invokestatic 114, 223, 87, 4, 0, 0, 365), (223, .ifCond .ne 5, 226, 228, 0, 0, 0, 0), (226, .iconst 0, 227, 0, 0, 0, 0, 0), (227, .ireturn, 228, 0, 0, 1, 0, 0), (228, .iinc 5 1, 231, 5, 0, 0, 1, 0), (231, .goto (-170), 234, 61, 0, 0, 0, 0), (234, .iconst 1, 235, 0, 0, 0, 1, 0), (235, .ireturn, 236, 0, 0, 1, 0, 0)])]
def zMRs : List Mr := [(tX0_init, 1, yX0_init, cX0_init, none, 1, 26, [180, 19, 179, 0]),
  (tX0_bestSum, 4, yX0_bestSum, cX0_bestSum, some .int, 4, 97, [381, 19, 379, 380]),
  (tX0_gain, 3, yX0_gain, cX0_gain, some .int, 1, 26, [403, 19, 402, 0]),
  (tX0_place, 5, yX0_place, cX0_place, none, 3, 73, [394, 19, 393, 3]),
  (tX0_relax, 6, yX0_relax, cX0_relax, none, 2, 48, [399, 19, 398, 4]),
  (tX0_nearest, 3, yX0_nearest, cX0_nearest, some .int, 1, 21, [413, 19, 412, 6]),
  (tX0_shiftPrices, 4, yX0_shiftPrices, cX0_shiftPrices, none, 1, 22, [417, 19, 416, 7]),
  (tX0_handOn, 5, yX0_handOn, cX0_handOn, none, 1, 22, [421, 19, 420, 8]),
  (tX0_isReached, 2, yX0_isReached, cX0_isReached, some .boolean, 0, 0, [409, 19, 408, 5]),
  (tX1_init, 1, yX1_init, cX1_init, none, 1, 26, [136, 16, 135, 0]),
  (tX2_init, 2, yX2_init, cX2_init, none, 3, 68, [117, 15, 116, 0]),
  (tX2_saved, 1, yX2_saved, cX2_saved, some .int, 0, 0, [477, 15, 475, 476]),
  (tX2_save, 2, yX2_save, cX2_save, none, 3, 68, [441, 15, 439, 440]),
  (tX2_restore, 3, yX2_restore, cX2_restore, none, 3, 68, [481, 15, 479, 480]),
  (tX3_init, 1, yX3_init, cX3_init, none, 2, 48, [36, 12, 35, 0]),
  (tX3_addBag, 8, yX3_addBag, cX3_addBag, some .int, 4, 88, [503, 12, 501, 502]),
  (tX3_join, 3, yX3_join, cX3_join, none, 3, 67, [460, 12, 458, 459]),
  (tX3_payForDelivery, 4, yX3_payForDelivery, cX3_payForDelivery, some .int, 2, 44, [538, 12, 536, 537]),
  (tX3_payForGivingUp, 3, yX3_payForGivingUp, cX3_payForGivingUp, some .int, 2, 44, [543, 12, 541, 542]),
  (tX3_copyFrom, 2, yX3_copyFrom, cX3_copyFrom, none, 2, 47, [445, 12, 443, 444]),
  (tX4_init, 1, yX4_init, cX4_init, none, 1, 26, [162, 18, 161, 0]),
  (tX4_fill, 6, yX4_fill, cX4_fill, none, 4, 102, [375, 18, 373, 374]),
  (tX4_gain, 3, yX4_gain, cX4_gain, some .int, 0, 0, [390, 18, 388, 389]),
  (tX4_hasGain, 3, yX4_hasGain, cX4_hasGain, some .boolean, 1, 22, [386, 18, 384, 385]),
  (tX4_takeGreatest, 4, yX4_takeGreatest, cX4_takeGreatest, some .int, 1, 22, [429, 18, 427, 428]),
  (tX4_strikeOut, 3, yX4_strikeOut, cX4_strikeOut, none, 0, 0, [433, 18, 432, 9]),
  (tX5_init, 1, yX5_init, cX5_init, none, 1, 26, [152, 17, 151, 0]),
  (tX5_part, 5, yX5_part, cX5_part, some .int, 3, 79, [276, 17, 274, 275]),
  (tX5_likely, 4, yX5_likely, cX5_likely, some .int, 3, 79, [355, 17, 353, 354]),
  (tX5_compare, 11, yX5_compare, cX5_compare, some .boolean, 2, 49, [280, 17, 279, 1]),
  (tX5_ofDigits, 3, yX5_ofDigits, cX5_ofDigits, some .int, 1, 20, [291, 17, 290, 0]),
  (tX5_ofColours, 4, yX5_ofColours, cX5_ofColours, some .int, 1, 26, [300, 17, 299, 0]),
  (tX5_ofKinds, 3, yX5_ofKinds, cX5_ofKinds, some .int, 0, 0, [306, 17, 305, 0]),
  (tX5_ofMarks, 3, yX5_ofMarks, cX5_ofMarks, some .int, 1, 20, [309, 17, 308, 0]),
  (tX5_ofAirport, 3, yX5_ofAirport, cX5_ofAirport, some .int, 0, 0, [312, 17, 311, 0]),
  (tX6_init, 3, yX6_init, cX6_init, none, 1, 26, [42, 13, 41, 0]),
  (tX6_rows, 1, yX6_rows, cX6_rows, some .int, 0, 0, [239, 13, 237, 238]),
  (tX6_isFull, 1, yX6_isFull, cX6_isFull, some .boolean, 0, 0, [499, 13, 497, 498]),
  (tX6_rowOf, 3, yX6_rowOf, cX6_rowOf, some .int, 0, 0, [269, 13, 267, 268]),
  (tX6_numberOf, 2, yX6_numberOf, cX6_numberOf, some .int, 1, 21, [364, 13, 362, 363]),
  (tX6_get, 3, yX6_get, cX6_get, some .int, 1, 22, [284, 13, 282, 283]),
  (tX6_put, 4, yX6_put, cX6_put, none, 1, 22, [469, 13, 467, 468]),
  (tX6_partner, 2, yX6_partner, cX6_partner, some .int, 2, 44, [528, 13, 526, 527]),
  (tX6_setPartner, 3, yX6_setPartner, cX6_setPartner, none, 2, 45, [465, 13, 463, 464]),
  (tX6_isFree, 2, yX6_isFree, cX6_isFree, some .boolean, 1, 21, [247, 13, 245, 246]),
  (tX6_matchedRows, 3, yX6_matchedRows, cX6_matchedRows, some .int, 2, 42, [243, 13, 241, 242]),
  (tX6_append, 2, yX6_append, cX6_append, some .int, 3, 67, [507, 13, 505, 506]),
  (tX6_remove, 3, yX6_remove, cX6_remove, none, 1, 26, [552, 13, 550, 551]),
  (tX6_copyFrom, 2, yX6_copyFrom, cX6_copyFrom, none, 1, 26, [449, 13, 447, 448]),
  (tX6_hasRow, 2, yX6_hasRow, cX6_hasRow, some .boolean, 0, 0, [251, 13, 250, 0]),
  (tX7_common, 7, yX7_common, cX7_common, some .int, 0, 0, [288, 22, 287, 0]),
  (tX7_legible, 6, yX7_legible, cX7_legible, some .int, 0, 0, [513, 22, 512, 0]),
  (tX8_init, 1, yX8_init, cX8_init, none, 4, 89, [28, 11, 27, 0]),
  (tX8_setWeight, 4, yX8_setWeight, cX8_setWeight, some .int, 4, 89, [568, 11, 566, 567]),
  (tX8_setThreshold, 3, yX8_setThreshold, cX8_setThreshold, some .int, 4, 89, [564, 11, 562, 563]),
  (tX8_found, 7, yX8_found, cX8_found, some .int, 5, 115, [494, 11, 492, 493]),
  (tX8_claim, 11, yX8_claim, cX8_claim, some .int, 4, 89, [517, 11, 515, 516]),
  (tX8_match, 6, yX8_match, cX8_match, some .int, 4, 103, [485, 11, 483, 484]),
  (tX8_unmatch, 4, yX8_unmatch, cX8_unmatch, some .int, 4, 89, [524, 11, 522, 523]),
  (tX8_matchAll, 2, yX8_matchAll, cX8_matchAll, some .int, 5, 127, [437, 11, 435, 436]),
  (tX8_deliver, 4, yX8_deliver, cX8_deliver, some .int, 4, 89, [548, 11, 546, 547]),
  (tX8_giveUp, 5, yX8_giveUp, cX8_giveUp, some .int, 4, 89, [556, 11, 554, 555]),
  (tX8_auction, 4, yX8_auction, cX8_auction, some .int, 4, 89, [560, 11, 558, 559]),
  (tX8_pass, 2, yX8_pass, cX8_pass, some .int, 4, 89, [572, 11, 570, 571]),
  (tX8_count, 2, yX8_count, cX8_count, some .int, 3, 64, [235, 11, 233, 234]),
  (tX8_bag, 3, yX8_bag, cX8_bag, some .int, 3, 67, [319, 11, 317, 318]),
  (tX8_claimOf, 3, yX8_claimOf, cX8_claimOf, some .int, 3, 67, [327, 11, 325, 326]),
  (tX8_score, 6, yX8_score, cX8_score, some .int, 4, 103, [265, 11, 263, 264]),
  (tX8_suggest, 5, yX8_suggest, cX8_suggest, some .int, 4, 102, [351, 11, 349, 350]),
  (tX8_sameDigits, 5, yX8_sameDigits, cX8_sameDigits, some .int, 2, 44, [336, 11, 334, 335]),
  (tX8_bestTotal, 1, yX8_bestTotal, cX8_bestTotal, some .int, 5, 127, [371, 11, 369, 370]),
  (tX8_totalOfAll, 4, yX8_totalOfAll, cX8_totalOfAll, some .int, 5, 127, [425, 11, 423, 424]),
  (tX8_thresholdFor, 6, yX8_thresholdFor, cX8_thresholdFor, some .int, 4, 103, [331, 11, 329, 330]),
  (tX8_ifEnded, 5, yX8_ifEnded, cX8_ifEnded, some .int, 3, 67, [534, 11, 532, 533]),
  (tX8_undo, 1, yX8_undo, cX8_undo, some .int, 4, 90, [473, 11, 471, 472]),
  (tX8_outside, 3, yX8_outside, cX8_outside, some .boolean, 0, 0, [272, 11, 271, 0]),
  (tX8_tell, 4, yX8_tell, cX8_tell, some .int, 2, 44, [322, 11, 321, 0]),
  (tX8_betterBags, 6, yX8_betterBags, cX8_betterBags, some .int, 0, 0, [360, 11, 359, 2]),
  (tJ6_bitCount_0f7a4, 1, yJ6_bitCount_0f7a4, cJ6_bitCount_0f7a4, some .int, 0, 0, [294, 23, 293, 0]),
  (tJ7_fill_53178, 4, yJ7_fill_53178, cJ7_fill_53178, none, 0, 0, [203, 20, 202, 0]),
  (tL_cell, 2, yL_cell, cL_cell, some .int, 0, 0, [254, 10, 253, 0]),
  (tL_low, 2, yL_low, cL_low, some .int, 0, 0, [257, 10, 256, 0]),
  (tL_nth, 5, yL_nth, cL_nth, some .int, 4, 89, [343, 10, 342, 0]),
  (tL_isScore, 9, yL_isScore, cL_isScore, some .boolean, 5, 128, [261, 10, 260, 0]),
  (tL_areMatches, 8, yL_areMatches, cL_areMatches, some .boolean, 5, 113, [340, 10, 339, 0]),
  (tL_areSuggested, 9, yL_areSuggested, cL_areSuggested, some .boolean, 5, 128, [346, 10, 345, 0]),
  (tL_isMatched, 20, yL_isMatched, cL_isMatched, some .boolean, 6, 150, [367, 10, 366, 0]),
  (tL_does, 29, yL_does, cL_does, some .boolean, 6, 141, [489, 10, 488, 0])]
def zpl : List Nat := [14, 21, 30, 31, 64, 45, 46, 314, 315, 302, 303, 452, 453]
end
section
/-- one step of an instruction that neither chooses, nor looks into a row, nor calls, nor makes a row -/
def zst (sc : Sc) (e : En) (L st : List ZV) (S : Sh) (M : Me) (h : Ml) : Option Zs :=
  match e with
  | (i, nx, a, b, d, c, _) =>
    match i with
    | .iconst _ => some (nx, L, .inl c :: st, S, M, h)
    | .bipush _ => some (nx, L, .inl c :: st, S, M, h)
    | .sipush _ => some (nx, L, .inl c :: st, S, M, h)
    | .ldc _ => some (nx, L, .inl c :: st, S, M, h)
    | .ldc_w _ => some (nx, L, .inl c :: st, S, M, h)
    | .ldc2_w _ => some (nx, L, .inr (.inl (Int64.ofInt c)) :: st, S, M, h)
    | .iload _ => (match zgt L a with | some (.inl x) => some (nx, L, .inl x :: st, S, M, h) | _ => none)
    | .iload_n _ => (match zgt L a with | some (.inl x) => some (nx, L, .inl x :: st, S, M, h) | _ => none)
    | .lload _ => (match zgt L a with | some (.inr (.inl x)) => some (nx, L, .inr (.inl x) :: st, S, M, h) | _ => none)
    | .lload_n _ => (match zgt L a with | some (.inr (.inl x)) => some (nx, L, .inr (.inl x) :: st, S, M, h) | _ => none)
    | .aload _ => (match zgt L a with | some (.inr (.inr (.inl k))) => some (nx, L, .inr (.inr (.inl k)) :: st, S, M, h) | some (.inr (.inr (.inr 1))) => some (nx, L, .inr (.inr (.inr 1)) :: st, S, M, h) | _ => none)
    | .aload_n _ => (match zgt L a with | some (.inr (.inr (.inl k))) => some (nx, L, .inr (.inr (.inl k)) :: st, S, M, h) | some (.inr (.inr (.inr 1))) => some (nx, L, .inr (.inr (.inr 1)) :: st, S, M, h) | _ => none)
    | .istore _ => (match st with | .inl x :: r => bif zok L a then zput L a (.inl x) (fun L' => some (nx, L', r, S, M, h)) else none | _ => none)
    | .istore_n _ => (match st with | .inl x :: r => bif zok L a then zput L a (.inl x) (fun L' => some (nx, L', r, S, M, h)) else none | _ => none)
    | .lstore _ => (match st with | .inr (.inl x) :: r => bif zok L a then zput L a (.inr (.inl x)) (fun L1 => zput L1 (a + 1) (.inr (.inr (.inr 0))) (fun L' => some (nx, L', r, S, M, h))) else none | _ => none)
    | .lstore_n _ => (match st with | .inr (.inl x) :: r => bif zok L a then zput L a (.inr (.inl x)) (fun L1 => zput L1 (a + 1) (.inr (.inr (.inr 0))) (fun L' => some (nx, L', r, S, M, h))) else none | _ => none)
    | .astore _ => (match st with | .inr (.inr (.inl k)) :: r => bif zok L a then zput L a (.inr (.inr (.inl k))) (fun L' => some (nx, L', r, S, M, h)) else none | _ => none)
    | .astore_n _ => (match st with | .inr (.inr (.inl k)) :: r => bif zok L a then zput L a (.inr (.inr (.inl k))) (fun L' => some (nx, L', r, S, M, h)) else none | _ => none)
    | .iinc _ _ => (match zgt L a with | some (.inl x) => bif zok L a then zput L a (.inl (w32 (x + c))) (fun L' => some (nx, L', st, S, M, h)) else none | _ => none)
    | .iadd => (match st with | .inl y :: .inl x :: r => some (nx, L, .inl (w32 (x + y)) :: r, S, M, h) | _ => none)
    | .isub => (match st with | .inl y :: .inl x :: r => some (nx, L, .inl (w32 (x - y)) :: r, S, M, h) | _ => none)
    | .imul => (match st with | .inl y :: .inl x :: r => some (nx, L, .inl (w32 (x * y)) :: r, S, M, h) | _ => none)
    | .ineg => (match st with | .inl x :: r => some (nx, L, .inl (w32 (-x)) :: r, S, M, h) | _ => none)
    | .iand => (match st with | .inl y :: .inl x :: r => some (nx, L, .inl (bAnd x y) :: r, S, M, h) | _ => none)
    | .ior => (match st with | .inl y :: .inl x :: r => some (nx, L, .inl (bOr x y) :: r, S, M, h) | _ => none)
    | .ixor => (match st with | .inl y :: .inl x :: r => some (nx, L, .inl (bXor x y) :: r, S, M, h) | _ => none)
    | .ishl => (match st with | .inl y :: .inl x :: r => some (nx, L, .inl (bShl x y) :: r, S, M, h) | _ => none)
    | .ishr => (match st with | .inl y :: .inl x :: r => some (nx, L, .inl (bShr x y) :: r, S, M, h) | _ => none)
    | .iushr => (match st with | .inl y :: .inl x :: r => some (nx, L, .inl (bUsh x y) :: r, S, M, h) | _ => none)
    | .i2l => (match st with | .inl x :: r => some (nx, L, .inr (.inl (Int64.ofInt x)) :: r, S, M, h) | _ => none)
    | .lmul => (match st with | .inr (.inl y) :: .inr (.inl x) :: r => some (nx, L, .inr (.inl (x * y)) :: r, S, M, h) | _ => none)
    | .ladd => (match st with | .inr (.inl y) :: .inr (.inl x) :: r => some (nx, L, .inr (.inl (x + y)) :: r, S, M, h) | _ => none)
    | .lcmp => (match st with | .inr (.inl y) :: .inr (.inl x) :: r => some (nx, L, .inl (zlc x y) :: r, S, M, h) | _ => none)
    | .dup => (match st with | v :: r => bif Nat.beq (zcat v) 1 then some (nx, L, v :: v :: r, S, M, h) else none | _ => none)
    | .dup2 => (match st with | v :: u :: r => bif Nat.beq (zcat v) 1 then bif Nat.beq (zcat u) 1 then some (nx, L, v :: u :: v :: u :: r, S, M, h) else none else none | _ => none)
    | .pop => (match st with | v :: r => bif Nat.beq (zcat v) 1 then some (nx, L, r, S, M, h) else none | _ => none)
    | .goto _ => some (a, L, st, S, M, h)
    | .ifnonnull _ => (match st with | .inr (.inr (.inl _)) :: r => some (a, L, r, S, M, h) | .inr (.inr (.inr 0)) :: r => some (nx, L, r, S, M, h) | _ => none)
    | .arraylength => (match st with
      | .inr (.inr (.inl k)) :: r => (match zgt S k with | some (cl, n, _) => bif Nat.beq cl 100 || Nat.beq cl 101 then bif Nat.ble n 100000 then some (nx, L, .inl (n : Int) :: r, S, M, h) else none else none | none => none)
      | .inr (.inr (.inr 1)) :: r => (match sc with | some (n, _) => some (nx, L, .inl (n : Int) :: r, S, M, h) | none => none)
      | _ => none)
    | .getfield _ => (match st with
      | .inr (.inr (.inl k)) :: r => (match zgt S k with
        | some (cl, _, rs) => bif Nat.beq cl a then (match d with
          | 0 => some (nx, L, .inl (M k b) :: r, S, M, h)
          | 1 => (match zgt rs b with | some (some q) => some (nx, L, .inr (.inr (.inl q)) :: r, S, M, h) | _ => none)
          | _ => some (nx, L, .inr (.inl (h k)) :: r, S, M, h)) else none
        | none => none)
      | _ => none)
    | .putfield _ => (match st with
      | v :: .inr (.inr (.inl k)) :: r => (match zgt S k with
        | some (cl, n, rs) => bif Nat.beq cl a then (match d with
          | 0 => (match v with | .inl x => some (nx, L, r, S, upd2 M k b x, h) | _ => none)
          | 1 => (match v with | .inr (.inr (.inl q)) => bif Nat.ble (b + 1) rs.length then some (nx, L, r, S.set k (cl, n, rs.set b (some q)), M, h) else none | _ => none)
          | _ => (match v with | .inr (.inl x) => some (nx, L, r, S, M, updl h k x) | _ => none)) else none
        | none => none)
      | _ => none)
    | .new _ => some (nx, L, .inr (.inr (.inl S.length)) :: st, S ++ [(a, 0, List.replicate b none)], M, h)
    | .invokespecial _ => (match a with
      | 0 => (match st with | .inr (.inr (.inl _)) :: r => bif Nat.ble (zwt r) 8 then some (nx, L, r, S, M, h) else none | _ => none)
      | _ + 1 => none)
    | .invokestatic _ => (match a with
      | 0 => (match d with
        | 1 => (match st with | .inl y :: .inl x :: r => bif Nat.ble (zwt r) 8 then some (nx, L, .inl (max x y) :: r, S, M, h) else none | _ => none)
        | 2 => (match st with | .inl y :: .inl x :: r => bif Nat.ble (zwt r) 8 then some (nx, L, .inl (min x y) :: r, S, M, h) else none | _ => none)
        | 3 => (match st with | .inl x :: r => bif Nat.ble (zwt r) 8 then some (nx, L, .inl (w32 (x.natAbs : Int)) :: r, S, M, h) else none | _ => none)
        | _ => none)
      | _ + 1 => none)
    | _ => none
/-- the steps that choose, look into rows, or make rows -/
def zbr (sc : Sc) (e : En) (L st : List ZV) (S : Sh) (M : Me) (h : Ml) : Option Zs :=
  match e with
  | (i, nx, a, _, d, c, _) =>
    match i with
    | .if_icmp q _ => (match st with
      | .inl y :: .inl x :: r => (match q with
        | .eq => some (if x = y then a else nx, L, r, S, M, h)
        | .ne => some (if x ≠ y then a else nx, L, r, S, M, h)
        | .lt => some (if x < y then a else nx, L, r, S, M, h)
        | .ge => some (if y ≤ x then a else nx, L, r, S, M, h)
        | .gt => some (if y < x then a else nx, L, r, S, M, h)
        | .le => some (if x ≤ y then a else nx, L, r, S, M, h))
      | _ => none)
    | .ifCond q _ => (match st with
      | .inl x :: r => (match q with
        | .eq => some (if x = 0 then a else nx, L, r, S, M, h)
        | .ne => some (if x ≠ 0 then a else nx, L, r, S, M, h)
        | .lt => some (if x < 0 then a else nx, L, r, S, M, h)
        | .ge => some (if 0 ≤ x then a else nx, L, r, S, M, h)
        | .gt => some (if 0 < x then a else nx, L, r, S, M, h)
        | .le => some (if x ≤ 0 then a else nx, L, r, S, M, h))
      | _ => none)
    | .idiv => (match st with | .inl y :: .inl x :: r => if 0 ≤ x ∧ 0 < y then some (nx, L, .inl (x / y) :: r, S, M, h) else none | _ => none)
    | .irem => (match st with | .inl y :: .inl x :: r => if 0 ≤ x ∧ 0 < y then some (nx, L, .inl (x % y) :: r, S, M, h) else none | _ => none)
    | .iaload => (match st with
      | .inl j :: .inr (.inr (.inl k)) :: r => (match zgt S k with
        | some (cl, n, _) => if cl = 100 ∧ 0 ≤ j ∧ j < (n : Int) then some (nx, L, .inl (M k j.toNat) :: r, S, M, h) else none
        | none => none)
      | .inl j :: .inr (.inr (.inr 1)) :: r => (match sc with
        | some (n, xs) => if 0 ≤ j ∧ j < (n : Int) then some (nx, L, .inl (xs j.toNat) :: r, S, M, h) else none
        | none => none)
      | _ => none)
    | .iastore => (match st with
      | .inl x :: .inl j :: .inr (.inr (.inl k)) :: r => (match zgt S k with
        | some (cl, n, _) => if cl = 100 ∧ 0 ≤ j ∧ j < (n : Int) then some (nx, L, r, S, upd2 M k j.toNat x, h) else none
        | none => none)
      | _ => none)
    | .aaload => (match st with
      | .inl j :: .inr (.inr (.inl k)) :: r => (match zgt S k with
        | some (cl, n, rs) => if cl = 101 ∧ 0 ≤ j ∧ j < (n : Int) then (match zgt rs j.toNat with
          | some (some q) => some (nx, L, .inr (.inr (.inl q)) :: r, S, M, h)
          | _ => none) else none
        | none => none)
      | _ => none)
    | .aastore => (match st with
      | .inr (.inr (.inl q)) :: .inl j :: .inr (.inr (.inl k)) :: r => (match zgt S k with
        | some (cl, n, rs) => (match zgt S q with
          | some (cq, _, _) => if cl = 101 ∧ 0 ≤ j ∧ j < (n : Int) ∧ cq = 3 ∧ j.toNat < rs.length then some (nx, L, r, S.set k (cl, n, rs.set j.toNat (some q)), M, h) else none
          | none => none)
        | none => none)
      | _ => none)
    | .newarray _ => (match st with | .inl n :: r => if 0 ≤ n ∧ n ≤ 100000 then some (nx, L, .inr (.inr (.inl S.length)) :: r, S ++ [(100, n.toNat, [])], M, h) else none | _ => none)
    | .anewarray _ => (match st with | .inl n :: r => if 0 ≤ n ∧ n ≤ 100000 then some (nx, L, .inr (.inr (.inl S.length)) :: r, S ++ [(101, n.toNat, List.replicate n.toNat none)], M, h) else none | _ => none)
    | .tableswitch df lo hi offs => (match st with
      | .inl x :: r => if x < lo ∨ hi < x then some ((c + df).toNat, L, r, S, M, h) else (match zgt offs.toList (x - lo).toNat with
        | some o => some ((c + o).toNat, L, r, S, M, h)
        | none => none)
      | _ => none)
    | .invokestatic _ => (match a with
      | 0 => (match d, st with
        | 0, .inl n :: .inl dp :: .inr (.inr (.inl k2)) :: .inl sp :: .inr (.inr (.inl k1)) :: r => (match zgt S k1 with
          | some (c1, n1, _) => (match zgt S k2 with
            | some (c2, n2, _) => if c1 = 100 ∧ c2 = 100 ∧ 0 ≤ n ∧ 0 ≤ dp ∧ 0 ≤ sp ∧ sp + n ≤ (n1 : Int) ∧ dp + n ≤ (n2 : Int) ∧ zwt r ≤ 8 then some (nx, L, r, S, cpy2 M k1 k2 sp.toNat dp.toNat n.toNat, h) else none
            | none => none)
          | none => none)
        | _, _ => none)
      | _ + 1 => none)
    | _ => none
/-- a call: the callee's table, its first locals, where it goes on, what stays on the stack -/
def zcl (a b nx : Nat) (st : List ZV) : Option (CT × List ZV × Nat × List ZV) := match a with
  | 0 => none
  | a + 1 => match zgt zMRs a with
    | some (T', nl, _) => (match zca2 b st [] with
      | some (as, r) => bif Nat.ble (zwt r) 8 then bif Nat.ble (zex as).length nl then some (T', zpad nl (zex as), nx, r) else none else none
      | none => none)
    | none => none
/-- the receiver is of the class d -/
def zrc (S : Sh) (st : List ZV) (b d : Nat) : Bool := match b with
  | 0 => false
  | b + 1 => match zgt st b with
    | some (.inr (.inr (.inl k))) => (match zgt S k with | some (cl, _, _) => Nat.beq cl d | none => false)
    | _ => false
def zrr (st : List ZV) (b : Nat) : Bool := match b with
  | 0 => false
  | b + 1 => match zgt st b with
    | some (.inr (.inr (.inl _))) => true
    | _ => false
def zca (e : En) (st : List ZV) (S : Sh) : Option (CT × List ZV × Nat × List ZV) :=
  match e with
  | (i, nx, a, b, d, _, _) =>
    match i with
    | .invokevirtual _ => bif zrc S st b d then zcl a b nx st else none
    | .invokespecial _ => bif zrr st b then zcl a b nx st else none
    | .invokestatic _ => zcl a b nx st
    | _ => none
def zre (e : En) (st : List ZV) : Option (Option ZV) :=
  match e with
  | (i, _, _, _, d, _, _) =>
    match i with
    | .ireturn => (match st with
      | [.inl x] => (match d with
        | 0 => some (some (.inl x))
        | _ => if x = 0 ∨ x = 1 then some (some (.inl x)) else none)
      | _ => none)
    | .lreturn => (match st with | [.inr (.inl x)] => some (some (.inr (.inl x))) | _ => none)
    | .return_ => (match st with | [] => some none | _ => none)
    | _ => none
def zpush (v : Option ZV) (r : List ZV) : List ZV := match v with
  | some v => v :: r
  | none => r
def run : Nat → CT → Sc → Nat → List ZV → List ZV → Sh → Me → Ml → Option Zr
  | 0, _, _, _, _, _, _, _, _ => none
  | n + 1, T, sc, pc, L, st, S, M, h => match look2 T pc with
    | none => none
    | some e => match zst sc e L st S M h with
      | some (pc', L', st', S', M', h') => run n T sc pc' L' st' S' M' h'
      | none => match zbr sc e L st S M h with
        | some (pc', L', st', S', M', h') => run n T sc pc' L' st' S' M' h'
        | none => match zca e st S with
          | some (T', L0, nx, r) => (match run n T' sc 0 L0 [] S M h with
            | some (v, S', M', h') => run n T sc nx L (zpush v r) S' M' h'
            | none => none)
          | none => match zre e st with
            | some v => some (v, S, M, h)
            | none => none
/-- the method of this table, from this place, comes to this end -/
def Ev (T : CT) (sc : Sc) (pc : Nat) (L st : List ZV) (S : Sh) (M : Me) (h : Ml) (r : Zr) : Prop := ∃ n, run n T sc pc L st S M h = some r
end
section
/-! what a table must keep for its answers to be the real machine's: decided by evaluation, method by method -/
def TB : List Cond := lw_tbl.filter goodWord
def zin (p : Nat) (w : Cond) : Bool := decide (lw_tbl[p]? = some w) && goodWord w
theorem zin_mem {p : Nat} {w : Cond} (h : zin p w = true) : w ∈ TB := by
  unfold zin at h
  rw [Bool.and_eq_true] at h
  exact List.mem_filter.mpr ⟨List.mem_of_getElem? (of_decide_eq_true h.1), h.2⟩
def zFK (a : Nat) : List Nat := (zgt zFKs a).getD []
def zrgb (c : Int) : Bool := decide (-2147483648 ≤ c) && decide (c < 2147483648)
def zns (y : MethodName) : Nat := ((parseMethodDescriptor y.desc).map (fun d => d.parameters.length)).getD 99
def nest1 : Cond := .methodLinkNest "LuggageTracing$Table" 35 ⟨"LuggageTracing", "outside", "(III)Z"⟩ "LuggageTracing"
def nest2 : Cond := .methodLinkNest "LuggageTracing$Assignment" 74 ⟨"LuggageTracing", "outside", "(III)Z"⟩ "LuggageTracing"
def zOff : String := "LuggageTracing$Office"
def zcallee (fr lo b : Nat) (r : Mr) (k : MethodName → Nat → Nat → Bool) (extra : Nat) : Bool := match r with
  | (_, nl, y, _, _, fr', lo', [_, _, p3, p4]) => decide (fr' + 1 ≤ fr) && decide (8 + (nl + 11) + lo' ≤ lo) && Nat.beq (zns y + extra) b && k y p3 p4
  | _ => false
def zchk (own : String) (nL : Nat) (isI : Bool) (ret : Option FieldType) (fr lo pc len : Nat) (i : Instr) (a b d : Nat) (c : Int) (w : Nat) : Bool := match i with
  | .iconst n => Nat.beq len 1 && decide (c = n) && zrgb c
  | .bipush n => Nat.beq len 2 && decide ((Int8.ofInt n).toInt32 = Int32.ofInt c) && zrgb c
  | .sipush n => Nat.beq len 3 && decide ((Int16.ofInt n).toInt32 = Int32.ofInt c) && zrgb c
  | .ldc k => Nat.beq len 2 && zin w (.constant own k (Int32.ofInt c)) && zrgb c
  | .ldc_w k => Nat.beq len 3 && zin w (.constant own k (Int32.ofInt c)) && zrgb c
  | .ldc2_w k => Nat.beq len 3 && zin w (.constantLong own k (Int64.ofInt c))
  | .iload k => Nat.beq len 2 && Nat.beq k a
  | .lload k => Nat.beq len 2 && Nat.beq k a
  | .aload k => Nat.beq len 2 && Nat.beq k a
  | .iload_n k => Nat.beq len 1 && Nat.beq k.val a
  | .lload_n k => Nat.beq len 1 && Nat.beq k.val a
  | .aload_n k => Nat.beq len 1 && Nat.beq k.val a
  | .istore k => Nat.beq len 2 && Nat.beq k a
  | .lstore k => Nat.beq len 2 && Nat.beq k a
  | .astore k => Nat.beq len 2 && Nat.beq k a
  | .istore_n k => Nat.beq len 1 && Nat.beq k.val a
  | .lstore_n k => Nat.beq len 1 && Nat.beq k.val a
  | .astore_n k => Nat.beq len 1 && Nat.beq k.val a
  | .iinc k n => Nat.beq len 3 && Nat.beq k a && decide (c = n)
  | .iadd => Nat.beq len 1
  | .isub => Nat.beq len 1
  | .imul => Nat.beq len 1
  | .ineg => Nat.beq len 1
  | .iand => Nat.beq len 1
  | .ior => Nat.beq len 1
  | .ixor => Nat.beq len 1
  | .ishl => Nat.beq len 1
  | .ishr => Nat.beq len 1
  | .iushr => Nat.beq len 1
  | .i2l => Nat.beq len 1
  | .lmul => Nat.beq len 1
  | .ladd => Nat.beq len 1
  | .lcmp => Nat.beq len 1
  | .dup => Nat.beq len 1
  | .dup2 => Nat.beq len 1
  | .pop => Nat.beq len 1
  | .arraylength => Nat.beq len 1
  | .iaload => Nat.beq len 1
  | .iastore => Nat.beq len 1
  | .aaload => Nat.beq len 1
  | .aastore => Nat.beq len 1
  | .idiv => Nat.beq len 1
  | .irem => Nat.beq len 1
  | .goto off => Nat.beq len 3 && decide ((pc : Int) + off = (a : Int))
  | .ifnonnull off => Nat.beq len 3 && decide ((pc : Int) + off = (a : Int))
  | .if_icmp _ off => Nat.beq len 3 && decide ((pc : Int) + off = (a : Int))
  | .ifCond _ off => Nat.beq len 3 && decide ((pc : Int) + off = (a : Int))
  | .getfield k => Nat.beq len 3 && (match vwCl[a]? with
    | some (_, T, N) => decide (b < N) && zin w (.fieldLink own k (T b).1 (T b).2.1 (T b).2.2.1) && decide (zgt (zFK a) b = some d)
    | none => false)
  | .putfield k => Nat.beq len 3 && (match vwCl[a]? with
    | some (_, T, N) => decide (b < N) && zin w (.fieldLink own k (T b).1 (T b).2.1 (T b).2.2.1) && decide (zgt (zFK a) b = some d) && (bif (T b).2.2.2 then isI && decide ((T b).1 = own) else true)
    | none => false)
  | .new k => Nat.beq len 3 && (match vwCl[a]? with
    | some (C, _, N) => decide (b = N) && zin w (.classLink own k C) && zin d (.instantiable C N) && zin c.toNat (.initialized C)
    | none => false)
  | .newarray t => Nat.beq len 2 && decide (t = .int)
  | .anewarray k => Nat.beq len 3 && zin w (.classLink own k zOff)
  | .tableswitch df lo' hi offs => decide (c = (pc : Int)) && decide (0 ≤ c + df) && offs.toList.all (fun o => decide (0 ≤ c + o))
  | .invokevirtual k => Nat.beq len 3 && (match a with
    | 0 => false
    | a + 1 => match zgt zMRs a with
      | some r => zcallee fr lo b r (fun y p3 p4 => zin w (.methodLink own k y) && zin p3 (.instanceMethod y) && zin p4 (.selects y.cls y y) && (match vwCl[d]? with | some (C, _, _) => decide (y.cls = C) | none => false)) 1
      | none => false)
  | .invokespecial k => Nat.beq len 3 && (match a with
    | 0 => decide (1 ≤ fr) && decide (26 ≤ lo) && zin w (.methodLink own k Lib.objectInit)
    | a + 1 => match zgt zMRs a with
      | some r => zcallee fr lo b r (fun y p3 _ => zin w (.methodLink own k y) && zin p3 (.instanceMethod y) && decide (y.name = "<init>")) 1 && decide (r.2.2.2.2.1 = none)
      | none => false)
  | .invokestatic k => Nat.beq len 3 && (match a with
    | 0 => decide (1 ≤ fr) && decide (26 ≤ lo) && (match d with
      | 0 => zin w (.methodLink own k arraycopyName)
      | 1 => zin w (.methodLink own k Lib.Math.max.name)
      | 2 => zin w (.methodLink own k Lib.Math.min.name)
      | _ => zin w (.methodLink own k Lib.Math.abs.name))
    | a + 1 => match zgt zMRs a with
      | some r => zcallee fr lo b r (fun y p3 _ => zin p3 (.static y) && (match d with
        | 0 => zin w (.methodLink own k y)
        | 1 => decide (Cond.methodLinkNest own k y "LuggageTracing" = nest1)
        | _ => decide (Cond.methodLinkNest own k y "LuggageTracing" = nest2))) 0
      | none => false)
  | .ireturn => Nat.beq len 1 && (match d with
    | 0 => decide (ret = some .int)
    | _ => decide (ret = some .boolean))
  | .lreturn => Nat.beq len 1 && decide (ret = some .long)
  | .return_ => Nat.beq len 1 && decide (ret = none)
  | _ => false
def zchkE (own : String) (cc : ByteArray) (nL : Nat) (isI : Bool) (ret : Option FieldType) (fr lo : Nat) (pe : Nat × En) : Bool :=
  match pe with
  | (pc, i, nx, a, b, d, c, w) => match decode cc pc with
    | .ok (i', len) => decide (i' = i) && Nat.beq (pc + len) nx && zchk own nL isI ret fr lo pc len i a b d c w
    | .error _ => false
def zchkT (own : String) (cc : ByteArray) (nL : Nat) (isI : Bool) (ret : Option FieldType) (fr lo : Nat) (T : CT) : Bool := T.all fun q => q.2.all (zchkE own cc nL isI ret fr lo)
def zplain (C : String) : Bool := plainName C && decide (C ≠ "java/lang/invoke/MethodHandle") && decide (C ≠ "java/lang/invoke/VarHandle")
def zchkM (r : Mr) : Bool := match r with
  | (T, nl, y, cc, ret, fr, lo, [p1, p2, _, _]) => zchkT y.cls cc nl (decide (y.name = "<init>")) ret fr lo T && zin p1 (.code y cc nl ret) && zin p2 (.initialized y.cls) && zplain y.cls
  | _ => false
theorem look2_mem : ∀ {T : CT} {pc : Nat} {e : En}, look2 T pc = some e → ∃ q ∈ T, (pc, e) ∈ q.2 := by
  have h1 : ∀ (l : List (Nat × En)) (pc : Nat) (e : En), zlook l pc = some e → (pc, e) ∈ l := by
    intro l
    induction l with
    | nil => intro pc e h; cases h
    | cons q l ih =>
      intro pc e h
      unfold zlook at h
      cases hq : Nat.beq q.1 pc with
      | true =>
        rw [hq, cond_true] at h
        have := Nat.eq_of_beq_eq_true hq
        cases h
        subst this
        exact List.mem_cons_self
      | false =>
        rw [hq, cond_false] at h
        exact List.mem_cons_of_mem _ (ih pc e h)
  intro T
  induction T with
  | nil => intro pc e h; cases h
  | cons q l ih =>
    intro pc e h
    unfold look2 at h
    cases hq : Nat.ble pc q.1 with
    | true =>
      rw [hq, cond_true] at h
      exact ⟨q, List.mem_cons_self, h1 _ _ _ h⟩
    | false =>
      rw [hq, cond_false] at h
      obtain ⟨q', h2, h3⟩ := ih h
      exact ⟨q', List.mem_cons_of_mem _ h2, h3⟩
theorem zchkT_at {own : String} {cc : ByteArray} {nL : Nat} {isI : Bool} {ret : Option FieldType} {fr lo : Nat} {T : CT} (h : zchkT own cc nL isI ret fr lo T = true) {pc : Nat} {i : Instr} {nx a b d : Nat} {c : Int} {w : Nat} (hl : look2 T pc = some (i, nx, a, b, d, c, w)) :
    ∃ len, decode cc pc = .ok (i, len) ∧ pc + len = nx ∧ zchk own nL isI ret fr lo pc len i a b d c w = true := by
  obtain ⟨q, hq, hm⟩ := look2_mem hl
  have h1 := List.all_eq_true.mp (List.all_eq_true.mp h q hq) _ hm
  unfold zchkE at h1
  dsimp only at h1
  split at h1
  · next i' len he =>
    rw [Bool.and_eq_true, Bool.and_eq_true] at h1
    obtain ⟨⟨h2, h3⟩, h4⟩ := h1
    have h5 := of_decide_eq_true h2
    subst h5
    exact ⟨len, he, Nat.eq_of_beq_eq_true h3, h4⟩
  · cases h1
end
section
/-! whole numbers and the machine's own -/
def zrn (x : Int) : Prop := -2147483648 ≤ x ∧ x < 2147483648
def zrv (v : ZV) : Prop := match v with
  | .inl x => zrn x
  | _ => True
theorem w32_def (x : Int) : w32 x = (x + 2147483648) % 4294967296 - 2147483648 := by
  unfold w32
  rw [Int.bmod_def]
  split <;> omega
theorem w32_rn (x : Int) : zrn (w32 x) := by
  rw [w32_def]
  unfold zrn
  omega
theorem w32_id {x : Int} (h : zrn x) : w32 x = x := by
  rw [w32_def]
  unfold zrn at h
  omega
theorem zI_toInt (x : Int) : (Int32.ofInt x).toInt = w32 x := by
  unfold w32
  rw [Int32.toInt_ofInt]
theorem zI_in {x : Int} (h : zrn x) : (Int32.ofInt x).toInt = x := by rw [zI_toInt, w32_id h]
theorem zI_of (x : Int32) : Int32.ofInt x.toInt = x := Int32.ofInt_toInt x
theorem zI_rn (x : Int32) : zrn x.toInt := ⟨by have := x.le_toInt; omega, by have := x.toInt_lt; omega⟩
theorem zI_w (x : Int) : Int32.ofInt (w32 x) = Int32.ofInt x := by
  rw [← Int32.toInt_inj, zI_toInt, zI_toInt, w32_id (w32_rn x)]
theorem zI_add (x y : Int) : Int32.ofInt (w32 (x + y)) = Int32.ofInt x + Int32.ofInt y := by rw [zI_w, Int32.ofInt_add]
theorem zI_sub (x y : Int) : Int32.ofInt (w32 (x - y)) = Int32.ofInt x - Int32.ofInt y := by rw [zI_w, Int32.ofInt_sub]
theorem zI_mul (x y : Int) : Int32.ofInt (w32 (x * y)) = Int32.ofInt x * Int32.ofInt y := by rw [zI_w, Int32.ofInt_mul]
theorem zI_neg (x : Int) : Int32.ofInt (w32 (-x)) = -Int32.ofInt x := by rw [zI_w, Int32.ofInt_neg]
theorem zI_inj {x y : Int} (hx : zrn x) (hy : zrn y) : Int32.ofInt x = Int32.ofInt y ↔ x = y := by
  rw [← Int32.toInt_inj, zI_in hx, zI_in hy]
theorem zI_lt {x y : Int} (hx : zrn x) (hy : zrn y) : Int32.ofInt x < Int32.ofInt y ↔ x < y := by
  rw [Int32.lt_iff_toInt_lt, zI_in hx, zI_in hy]
theorem zI_le {x y : Int} (hx : zrn x) (hy : zrn y) : Int32.ofInt x ≤ Int32.ofInt y ↔ x ≤ y := by
  rw [Int32.le_iff_toInt_le, zI_in hx, zI_in hy]
theorem zrn0 : zrn 0 := ⟨by decide, by decide⟩
theorem zI0 : Int32.ofInt 0 = 0 := by decide
theorem zI_lt0 {x : Int} (hx : zrn x) : Int32.ofInt x < 0 ↔ x < 0 := by rw [← zI0]; exact zI_lt hx zrn0
theorem zI_le0 {x : Int} (hx : zrn x) : Int32.ofInt x ≤ 0 ↔ x ≤ 0 := by rw [← zI0]; exact zI_le hx zrn0
theorem zI_gt0 {x : Int} (hx : zrn x) : 0 < Int32.ofInt x ↔ 0 < x := by rw [← zI0]; exact zI_lt zrn0 hx
theorem zI_ge0 {x : Int} (hx : zrn x) : 0 ≤ Int32.ofInt x ↔ 0 ≤ x := by rw [← zI0]; exact zI_le zrn0 hx
theorem zI_eq0 {x : Int} (hx : zrn x) : Int32.ofInt x = 0 ↔ x = 0 := by rw [← zI0]; exact zI_inj hx zrn0
theorem zI_cl {x : Int} (h : zrn x) : (Int32.ofInt x).toNatClampNeg = x.toNat := by
  show (Int32.ofInt x).toInt.toNat = x.toNat
  rw [zI_in h]
theorem zI_vp {x : Int} {n : Nat} (h : zrn x) (h0 : 0 ≤ x) (h1 : x < (n : Int)) : vp_in (Int32.ofInt x) n := by
  unfold vp_in
  rw [zI_lt0 h, zI_cl h]
  omega
theorem zI_div {x y : Int} (hx : zrn x) (hy : zrn y) (h0 : 0 ≤ x) (h1 : 0 < y) : Int32.ofInt (x / y) = Int32.ofInt x / Int32.ofInt y ∧ zrn (x / y) := by
  have h2 : 0 ≤ x / y := Int.ediv_nonneg h0 (Int.le_of_lt h1)
  have h3 : x / y ≤ x := Int.ediv_le_self y h0
  have h4 : zrn (x / y) := by unfold zrn at hx ⊢; omega
  refine ⟨?_, h4⟩
  rw [← Int32.toInt_inj, zI_in h4, Int32.toInt_div, zI_in hx, zI_in hy, Int.tdiv_eq_ediv_of_nonneg h0]
  exact (w32_id h4).symm
theorem zI_rem {x y : Int} (hx : zrn x) (hy : zrn y) (h0 : 0 ≤ x) (h1 : 0 < y) : Int32.ofInt (x % y) = Int32.ofInt x - Int32.ofInt x / Int32.ofInt y * Int32.ofInt y ∧ zrn (x % y) := by
  have h2 : 0 ≤ x % y := Int.emod_nonneg x (Int.ne_of_gt h1)
  have h3 : x % y < y := Int.emod_lt_of_pos x h1
  have h4 : zrn (x % y) := by unfold zrn at hy ⊢; omega
  refine ⟨?_, h4⟩
  rw [← (zI_div hx hy h0 h1).1, ← zI_mul, ← zI_sub, zI_w]
  congr 1
  rw [Int.emod_def, Int.mul_comm y (x / y)]
  have h5 : zrn (x / y * y) := by
    have := Int.ediv_mul_le x (Int.ne_of_gt h1)
    have h6 : 0 ≤ x / y * y := Int.mul_nonneg (Int.ediv_nonneg h0 (Int.le_of_lt h1)) (Int.le_of_lt h1)
    unfold zrn at hx ⊢; omega
  rw [w32_id h5]
theorem zI_and (x y : Int) : Int32.ofInt (bAnd x y) = Int32.ofInt x &&& Int32.ofInt y ∧ zrn (bAnd x y) := ⟨zI_of _, zI_rn _⟩
theorem zI_or (x y : Int) : Int32.ofInt (bOr x y) = Int32.ofInt x ||| Int32.ofInt y ∧ zrn (bOr x y) := ⟨zI_of _, zI_rn _⟩
theorem zI_xor (x y : Int) : Int32.ofInt (bXor x y) = Int32.ofInt x ^^^ Int32.ofInt y ∧ zrn (bXor x y) := ⟨zI_of _, zI_rn _⟩
theorem zI_shl (x y : Int) : Int32.ofInt (bShl x y) = Int32.ofInt x <<< (Int32.ofInt y &&& 31) ∧ zrn (bShl x y) := ⟨zI_of _, zI_rn _⟩
theorem zI_shr (x y : Int) : Int32.ofInt (bShr x y) = Int32.ofInt x >>> (Int32.ofInt y &&& 31) ∧ zrn (bShr x y) := ⟨zI_of _, zI_rn _⟩
theorem zI_ush (x y : Int) : Int32.ofInt (bUsh x y) = ((Int32.ofInt x).toUInt32 >>> ((Int32.ofInt y).toUInt32 &&& Int32.toUInt32 31)).toInt32 ∧ zrn (bUsh x y) := ⟨zI_of _, zI_rn _⟩
theorem zI_lcmp (x y : Int64) : Int32.ofInt (zlc x y) = lg_cmp x y ∧ zrn (zlc x y) := by
  unfold zlc lg_cmp
  by_cases h1 : y < x
  · rw [if_pos h1, if_pos h1]; exact ⟨by decide, by decide, by decide⟩
  · rw [if_neg h1, if_neg h1]
    by_cases h2 : x = y
    · rw [if_pos h2, if_pos h2]; exact ⟨by decide, by decide, by decide⟩
    · rw [if_neg h2, if_neg h2]; exact ⟨by decide, by decide, by decide⟩
theorem zI_i2l {x : Int} (h : zrn x) : (Int32.ofInt x).toInt64 = Int64.ofInt x := by
  rw [← Int64.toInt_inj, Int32.toInt_toInt64, zI_in h, Int64.toInt_ofInt]
  rw [Int.bmod_def, show (Int64.size : Int) = 18446744073709551616 from rfl]
  unfold zrn at h
  split <;> omega
theorem zrn_nat {n : Nat} (h : n ≤ 100000) : zrn (n : Int) := by unfold zrn; omega
theorem zI_nat {n : Nat} : Int32.ofInt (n : Int) = Int32.ofNat n := rfl
theorem zrgb_rn {c : Int} (h : zrgb c = true) : zrn c := by
  unfold zrgb at h
  rw [Bool.and_eq_true] at h
  exact ⟨of_decide_eq_true h.1, of_decide_eq_true h.2⟩
/-! the lists -/
theorem zgt_eq {α : Type} : ∀ (l : List α) (k : Nat), zgt l k = l[k]? := by
  intro l
  induction l with
  | nil => intro k; simp [zgt]
  | cons a l ih =>
    intro k
    cases k with
    | zero => simp [zgt]
    | succ k => simp [zgt, ih]
theorem zput_some {β : Type} : ∀ {L : List ZV} {i : Nat} {v : ZV} {k : List ZV → Option β} {r : β}, zput L i v k = some r → i < L.length ∧ k (L.set i v) = some r := by
  intro L
  induction L with
  | nil => intro i v k r h; cases h
  | cons a l ih =>
    intro i v k r h
    cases i with
    | zero => exact ⟨Nat.zero_lt_succ _, h⟩
    | succ i =>
      obtain ⟨h1, h2⟩ := ih (i := i) (v := v) (k := fun l' => k (a :: l')) h
      exact ⟨Nat.succ_lt_succ h1, h2⟩
end
section
/-! the small machine's values, locals and cells, as the real machine has them -/
def zv (b base : Nat) : ZV → Value
  | .inl x => .int (Int32.ofInt x)
  | .inr (.inl y) => .long y
  | .inr (.inr (.inl k)) => .ref (base + k)
  | .inr (.inr (.inr 0)) => .null
  | .inr (.inr (.inr (_ + 1))) => .ref b
theorem zv_cat (b base : Nat) (v : ZV) : (zv b base v).category = zcat v := by
  rcases v with x | y | k | n
  · rfl
  · rfl
  · rfl
  · cases n <;> rfl
theorem zv_wt (b base : Nat) (l : List ZV) : ((l.map (zv b base)).map fun v => v.category).sum = zwt l := by
  induction l with
  | nil => rfl
  | cons v l ih =>
    rw [List.map_cons, List.map_cons, List.sum_cons, ih, zv_cat]
    rfl
def asL (b base : Nat) (L : List ZV) : List (Nat × Value) := (List.range L.length).filterMap fun (j : Nat) => match (L[j]? : Option ZV) with
  | some (.inr (.inr (.inr 0))) => none
  | some v => some (j, zv b base v)
  | none => none
theorem asL_mem {b base : Nat} {L : List ZV} {j : Nat} {u : Value} : (j, u) ∈ asL b base L ↔ ∃ v, L[j]? = some v ∧ v ≠ zn ∧ u = zv b base v := by
  unfold asL
  rw [List.mem_filterMap]
  constructor
  · rintro ⟨i, hi, h⟩
    split at h
    · cases h
    · next v hv hn =>
      cases h
      exact ⟨v, hn, fun e => hv e, rfl⟩
    · cases h
  · rintro ⟨v, hv, hn, rfl⟩
    refine ⟨j, List.mem_range.mpr (List.getElem?_eq_some_iff.mp hv).1, ?_⟩
    rw [hv]
    split
    · next h => cases h; exact absurd rfl hn
    · next h => cases h; rfl
    · next h => cases h
def RelL (b base : Nat) (ls : Array Slot) (nL : Nat) (L : List ZV) : Prop := L.length = nL ∧ lv_has ls nL (asL b base L) ∧ ∀ v ∈ L, zrv v
theorem RelL.at {b base nL : Nat} {ls : Array Slot} {L : List ZV} (h : RelL b base ls nL L) {j : Nat} {v : ZV} (hj : zgt L j = some v) (hn : v ≠ zn) : ls[j]? = some (.val (zv b base v)) ∧ zrv v := by
  rw [zgt_eq] at hj
  exact ⟨h.2.1.2.2 (j, zv b base v) (asL_mem.mpr ⟨v, hj, hn, rfl⟩), h.2.2 v (List.mem_of_getElem? hj)⟩
theorem RelL.size {b base nL : Nat} {ls : Array Slot} {L : List ZV} (h : RelL b base ls nL L) : ls.size = nL := h.2.1.1
theorem zok_cat {L : List ZV} {i j : Nat} {v : ZV} (h : zok L i = true) (hj : L[j]? = some v) (e : j + 1 = i) : zcat v = 1 := by
  subst e
  have h : (match zgt L j with | some (.inr (.inl _)) => false | _ => true) = true := h
  rw [zgt_eq, hj] at h
  rcases v with x | y | k
  · rfl
  · cases h
  · rfl
theorem RelL.put {b base nL : Nat} {ls ls' : Array Slot} {L : List ZV} (h : RelL b base ls nL L) {i : Nat} {v : ZV} (hi : i < L.length) (ho : zok L i = true) (hv : zrv v)
    (h' : lv_has ls' nL ((i, zv b base v) :: (asL b base L).filter (fun q => !(q.1 == i) && !(q.1 + 1 == i && q.2.category == 2)))) : RelL b base ls' nL (L.set i v) := by
  refine ⟨by rw [List.length_set]; exact h.1, ⟨h'.1, h'.2.1, ?_⟩, ?_⟩
  · rintro ⟨j, u⟩ hq
    obtain ⟨w, hw, hn, rfl⟩ := asL_mem.mp hq
    refine h'.2.2 (j, zv b base w) ?_
    rw [List.getElem?_set] at hw
    by_cases hij : i = j
    · subst hij
      rw [if_pos rfl, if_pos hi] at hw
      cases hw
      exact List.mem_cons_self
    · rw [if_neg hij] at hw
      refine List.mem_cons_of_mem _ (List.mem_filter.mpr ⟨asL_mem.mpr ⟨w, hw, hn, rfl⟩, ?_⟩)
      have h1 : (j == i) = false := beq_false_of_ne (Ne.symm hij)
      have h2 : (j + 1 == i && (zv b base w).category == 2) = false := by
        by_cases e : j + 1 = i
        · rw [zv_cat, zok_cat ho hw e]; simp
        · rw [beq_false_of_ne e]; rfl
      show (!(j == i) && !(j + 1 == i && (zv b base w).category == 2)) = true
      rw [h1, h2]; rfl
  · intro w hw
    rcases List.mem_or_eq_of_mem_set hw with h1 | h1
    · exact h.2.2 w h1
    · rw [h1]; exact hv
theorem RelL.put2 {b base nL : Nat} {ls ls' : Array Slot} {L : List ZV} (h : RelL b base ls nL L) {i : Nat} {x : Int64} (hi : i + 1 < L.length) (ho : zok L i = true)
    (h' : lv_has ls' nL ((i, Value.long x) :: (asL b base L).filter (fun q => !(q.1 == i) && (!(q.1 == i + 1) && !(q.1 + 1 == i && q.2.category == 2))))) : RelL b base ls' nL ((L.set i (zl x)).set (i + 1) zn) := by
  refine ⟨by rw [List.length_set, List.length_set]; exact h.1, ⟨h'.1, h'.2.1, ?_⟩, ?_⟩
  · rintro ⟨j, u⟩ hq
    obtain ⟨w, hw, hn, rfl⟩ := asL_mem.mp hq
    refine h'.2.2 (j, zv b base w) ?_
    rw [List.getElem?_set] at hw
    by_cases hij : i + 1 = j
    · subst hij
      rw [if_pos rfl, List.length_set, if_pos hi] at hw
      cases hw
      exact absurd rfl hn
    rw [if_neg hij, List.getElem?_set] at hw
    by_cases hii : i = j
    · subst hii
      rw [if_pos rfl, if_pos (by omega)] at hw
      cases hw
      exact List.mem_cons_self
    · rw [if_neg hii] at hw
      refine List.mem_cons_of_mem _ (List.mem_filter.mpr ⟨asL_mem.mpr ⟨w, hw, hn, rfl⟩, ?_⟩)
      have h1 : (j == i) = false := beq_false_of_ne (Ne.symm hii)
      have h3 : (j == i + 1) = false := beq_false_of_ne (Ne.symm hij)
      have h2 : (j + 1 == i && (zv b base w).category == 2) = false := by
        by_cases e : j + 1 = i
        · rw [zv_cat, zok_cat ho hw e]; simp
        · rw [beq_false_of_ne e]; rfl
      show (!(j == i) && (!(j == i + 1) && !(j + 1 == i && (zv b base w).category == 2))) = true
      rw [h1, h2, h3]; rfl
  · intro w hw
    rcases List.mem_or_eq_of_mem_set hw with h1 | h1
    · rcases List.mem_or_eq_of_mem_set h1 with h2 | h2
      · exact h.2.2 w h2
      · rw [h2]; exact trivial
    · rw [h1]; exact trivial
/-! cells -/
def zvo (base : Nat) (o : Option (Option Nat)) : Option Nat := match o with
  | some (some k) => some (base + k)
  | _ => none
def zfv (base : Nat) (M : Me) (h : Ml) (k : Nat) (rs : List (Option Nat)) (j d : Nat) : Value := match d with
  | 0 => .int (Int32.ofInt (M k j))
  | 1 => va_rf (zvo base (zgt rs j))
  | _ => .long (h k)
def zce (cI cO : ClassId) (base : Nat) (M : Me) (h : Ml) (k : Nat) (s : Nat × Nat × List (Option Nat)) : va_E :=
  if s.1 = 100 then .inl (cI, s.2.1, .inl (fun j => Int32.ofInt (M k j)))
  else if s.1 = 101 then .inl (cO, s.2.1, .inr (.inr (.inr (.inr (fun j => zvo base (zgt s.2.2 j))))))
  else .inr (s.1, (zFK s.1).mapIdx (zfv base M h k s.2.2))
def zws (cI cO : ClassId) (base : Nat) (S : Sh) (M : Me) (h : Ml) : va_W := S.mapIdx fun k s => (base + k, zce cI cO base M h k s)
theorem zws_at {cI cO : ClassId} {base : Nat} {S : Sh} {M : Me} {h : Ml} (k : Nat) : (zws cI cO base S M h)[k]? = (S[k]?).map fun s => (base + k, zce cI cO base M h k s) := by
  unfold zws
  rw [List.getElem?_mapIdx]
theorem zws_len {cI cO : ClassId} {base : Nat} {S : Sh} {M : Me} {h : Ml} : (zws cI cO base S M h).length = S.length := by
  unfold zws
  rw [List.length_mapIdx]
theorem zws_set {cI cO : ClassId} {base : Nat} {S S' : Sh} {M M' : Me} {h h' : Ml} {k : Nat} {s' : Nat × Nat × List (Option Nat)} (hk : k < S.length) (hS : S' = S.set k s') (hM : ∀ a, a ≠ k → M' a = M a) (hh : ∀ a, a ≠ k → h' a = h a) :
    (zws cI cO base S M h).set k (base + k, zce cI cO base M' h' k s') = zws cI cO base S' M' h' := by
  apply List.ext_getElem?
  intro j
  rw [zws_at, List.getElem?_set, zws_len, hS, List.getElem?_set]
  by_cases hj : k = j
  · subst hj
    rw [if_pos rfl, if_pos hk, if_pos rfl, if_pos hk]
    rfl
  · rw [if_neg hj, if_neg hj, zws_at]
    cases S[j]? with
    | none => rfl
    | some s =>
      simp only [Option.map_some]
      have e : zce cI cO base M h j s = zce cI cO base M' h' j s := by
        unfold zce
        have e2 : zfv base M h j s.2.2 = zfv base M' h' j s.2.2 := by
          funext a d
          unfold zfv
          rw [hM j (Ne.symm hj), hh j (Ne.symm hj)]
        rw [hM j (Ne.symm hj), e2]
      rw [e]
theorem zws_app {cI cO : ClassId} {base : Nat} {S : Sh} {M : Me} {h : Ml} {s : Nat × Nat × List (Option Nat)} : zws cI cO base (S ++ [s]) M h = zws cI cO base S M h ++ [(base + S.length, zce cI cO base M h S.length s)] := by
  unfold zws
  rw [List.mapIdx_append, List.mapIdx_cons, List.mapIdx_nil, Nat.zero_add]
theorem zD {cI cO : ClassId} {base : Nat} {S : Sh} {M : Me} {h : Ml} : va_D (fun q => base ≤ q) (zws cI cO base S M h) := by
  have key : ∀ (k : Nat) (q : Nat × va_E), (zws cI cO base S M h)[k]? = some q → q.1 = base + k := by
    intro k q hq
    rw [zws_at] at hq
    obtain ⟨s, -, rfl⟩ := Option.map_eq_some_iff.mp hq
    rfl
  refine ⟨fun i j p q hi hj hpq => ?_, fun k q hq => ?_⟩
  · have h1 := key i p hi
    have h2 := key j q hj
    omega
  · have h1 := key k q hq
    show base ≤ q.1
    omega
def WO (dC : Nat → ClassId) (dI : Nat → Nat → Nat) (cI cO : ClassId) (base : Nat) (S : Sh) (M : Me) (h : Ml) (H : Heap) : Prop :=
  va_P (dC, dI) vwCl (zws cI cO base S M h) H ∧ (∀ k j, zrn (M k j)) ∧ ∀ k, S.length ≤ k → h k = 0 ∧ ∀ j, M k j = 0
def ZK (dC : Nat → ClassId) (dI : Nat → Nat → Nat) (cI cO : ClassId) (U : State) : Prop := va_K (dC, dI) vwCl [(cI, .int), (cO, .object zOff)] U ∧ va_Nw nest1 U ∧ va_Nw nest2 U ∧ va_AO zOff U
def zsz (S : Sh) : Nat := (S.map fun s => if s.1 = 100 ∨ s.1 = 101 then s.2.1 else s.2.2.length).sum
/-! what the tables say of the nine classes -/
theorem zuw {ws : List Cond} (h : ws.all (fun w => decide (w ∈ lw_tbl) && goodWord w) = true) : ∀ w ∈ ws, w ∈ TB := by
  intro w hw
  have h1 := List.all_eq_true.mp h w hw
  rw [Bool.and_eq_true] at h1
  exact List.mem_filter.mpr ⟨of_decide_eq_true h1.1, h1.2⟩
def zTyOk (d : Nat) (t : FieldType) : Bool := match d, t with
  | 0, .int => true
  | 1, .array _ => true
  | 1, .object _ => true
  | 2, .long => true
  | _, _ => false
def zCl (a : Nat) (C : String) (T : u_T) (N : Nat) (ty : Nat → FieldType) : Prop := vwCl[a]? = some (C, T, N) ∧ (∀ w ∈ u_ws C T N, w ∈ TB) ∧ (∀ k, k < N → parseFieldDescriptor (T k).2.2.1 = some (ty k)) ∧ (∀ x, x < N → ∀ y, y < N → x ≠ y → (T x).2.1 ≠ (T y).2.1) ∧ (zFK a).length = N ∧ ∀ k d, zgt (zFK a) k = some d → zTyOk d (ty k) = true
theorem zTyAll {l : List Nat} {ty : Nat → FieldType} (h : (List.range l.length).all (fun k => zTyOk (l.getD k 9) (ty k)) = true) : ∀ k d, zgt l k = some d → zTyOk d (ty k) = true := by
  intro k d hk
  rw [zgt_eq] at hk
  have hl := (List.getElem?_eq_some_iff.mp hk).1
  have h1 := List.all_eq_true.mp h k (List.mem_range.mpr hl)
  rw [List.getD_eq_getElem?_getD, hk] at h1
  exact h1
theorem zcl0 : zCl 0 RX0 TX0 6 tyX0 := ⟨rfl, zuw (by decide +kernel), tyX0_ok, nmX0, rfl, zTyAll (by decide +kernel)⟩
theorem zcl1 : zCl 1 RX1 TX1 4 tyX1 := ⟨rfl, zuw (by decide +kernel), tyX1_ok, nmX1, rfl, zTyAll (by decide +kernel)⟩
theorem zcl2 : zCl 2 RX2 TX2 3 tyX2 := ⟨rfl, zuw (by decide +kernel), tyX2_ok, nmX2, rfl, zTyAll (by decide +kernel)⟩
theorem zcl3 : zCl 3 RX3 TX3 11 tyX3 := ⟨rfl, zuw (by decide +kernel), tyX3_ok, nmX3, rfl, zTyAll (by decide +kernel)⟩
theorem zcl4 : zCl 4 RX4 TX4 3 tyX4 := ⟨rfl, zuw (by decide +kernel), tyX4_ok, nmX4, rfl, zTyAll (by decide +kernel)⟩
theorem zcl5 : zCl 5 RX5 TX5 1 tyX5 := ⟨rfl, zuw (by decide +kernel), tyX5_ok, nmX5, rfl, zTyAll (by decide +kernel)⟩
theorem zcl6 : zCl 6 RX6 TX6 5 tyX6 := ⟨rfl, zuw (by decide +kernel), tyX6_ok, nmX6, rfl, zTyAll (by decide +kernel)⟩
theorem zcl7 : zCl 7 RX8 TX8 9 tyX8 := ⟨rfl, zuw (by decide +kernel), tyX8_ok, nmX8, rfl, zTyAll (by decide +kernel)⟩
theorem zcls {a : Nat} {C : String} {T : u_T} {N : Nat} (h : vwCl[a]? = some (C, T, N)) : ∃ ty, zCl a C T N ty := by
  have h9 : a < 8 := (List.getElem?_eq_some_iff.mp h).1
  match a, h9, h with
  | 0, _, h => cases h; exact ⟨_, zcl0⟩
  | 1, _, h => cases h; exact ⟨_, zcl1⟩
  | 2, _, h => cases h; exact ⟨_, zcl2⟩
  | 3, _, h => cases h; exact ⟨_, zcl3⟩
  | 4, _, h => cases h; exact ⟨_, zcl4⟩
  | 5, _, h => cases h; exact ⟨_, zcl5⟩
  | 6, _, h => cases h; exact ⟨_, zcl6⟩
  | 7, _, h => cases h; exact ⟨_, zcl7⟩
end
section
section ZST
def ZN (p : Program) (l : Launch) (e : Env) (R : Room) (s : State) (m : MethodId) (args : Array Value) (below : List Frame) (meth : Method) (c : Code) (Q : State → Prop) (dC : Nat → ClassId) (dI : Nat → Nat → Nat) (cI cO : ClassId) (b base nL : Nat) (pc : Nat) (L st : List ZV) (S : Sh) (M : Me) (h : Ml) (cells slots : Nat) : Prop :=
  base + S.length = s.heap.size + cells → ∀ (H : Heap) (locs : List Loc) (ls : Array Slot), WO dC dI cI cO base S M h H → va_S (fun q => base ≤ q) s.heap H locs → RelL b base ls nL L → (∀ v ∈ st, zrv v) → W p l e R s m args below meth c H locs cells slots Q (F0 m pc ls (st.map (zv b base)))
def ZCx (p : Program) (s : State) (m : MethodId) (args : Array Value) (meth : Method) (c : Code) (own : String) (cc : ByteArray) (nL : Nat) (isI : Bool) (dC : Nat → ClassId) (dI : Nat → Nat → Nat) (cI cO : ClassId) (base : Nat) : Prop :=
  p.tables.exec = Jvm.exec ∧ c.code = cc ∧ c.maxLocals = nL ∧ s.vm.findClass own = some m.cls ∧ (∀ w ∈ TB, w.before args s = true) ∧ ZK dC dI cI cO s ∧ (isI = true → meth.name = "<init>") ∧ base ≤ s.heap.size
def zSc (sc : Sc) (b base : Nat) (s : State) : Prop := match sc with
  | none => True
  | some (n, xs) => va_X b n (fun j => Int32.ofInt (xs j)) s s.heap ∧ b < s.heap.size ∧ b < base ∧ (∀ j, zrn (xs j)) ∧ n ≤ 100000
variable {p : Program} {l : Launch} {e : Env} {R : Room} {s : State} {m : MethodId} {args : Array Value} {below : List Frame} {meth : Method} {c : Code} {Q : State → Prop} {dC : Nat → ClassId} {dI : Nat → Nat → Nat} {cI cO : ClassId} {b base : Nat} {own : String} {cc : ByteArray} {nL : Nat} {isI : Bool} {ret : Option FieldType} {fr lo : Nat} {sc : Sc}
theorem zSc.call {sc : Sc} {b base : Nat} {U U' : State} (h : zSc sc b base U) (hA : U.vm.Alike U'.vm) (hh : U'.heap = U.heap) : zSc sc b base U' := by
  cases sc with
  | none => exact trivial
  | some q =>
    obtain ⟨n, xs⟩ := q
    obtain ⟨h1, h2, h3, h4, h5⟩ := h
    exact ⟨(va_X.moved hA h1).kept (by rw [hh]), by rw [hh]; exact h2, h3, h4, h5⟩
theorem zSc.at {sc : Sc} {b base : Nat} {s U : State} {H : Heap} {locs : List Loc} (h : zSc sc b base s) (hS : va_S (fun q => base ≤ q) s.heap H locs) (hU : U.heap = H) (hW : s.WarmedH U.vm) : zSc sc b base U := by
  cases sc with
  | none => exact trivial
  | some q =>
    obtain ⟨n, xs⟩ := q
    obtain ⟨h1, h2, h3, h4, h5⟩ := h
    exact ⟨(va_X.moved hW.alike h1).kept (by rw [hU]; exact hS.2.1 b h2 (by omega)), by rw [hU]; exact Nat.lt_of_lt_of_le h2 hS.1, h3, h4, h5⟩
theorem zkk {pc : Nat} {L st : List ZV} {S S0 : Sh} {M : Me} {h : Ml} {cells slots : Nat} (k : ZN p l e R s m args below meth c Q dC dI cI cO b base nL pc L st S M h (cells + (S0.length - S0.length)) (slots + (zsz S0 - zsz S0))) : ZN p l e R s m args below meth c Q dC dI cI cO b base nL pc L st S M h cells slots := by
  rw [Nat.sub_self, Nat.sub_self, Nat.add_zero, Nat.add_zero] at k
  exact k
theorem zlen1 {x y : Nat} {z : Bool} (h : (Nat.beq x y && z) = true) : x = y ∧ z = true := by
  rw [Bool.and_eq_true] at h
  exact ⟨Nat.eq_of_beq_eq_true h.1, h.2⟩
set_option maxHeartbeats 1000000 in
theorem zs_iadd (hC : ZCx p s m args meth c own cc nL isI dC dI cI cO base) (hX : zSc sc b base s) (hR : fr ≤ R.frames ∧ lo ≤ R.locals) {nx a bb d w len pc pc' : Nat} {cv : Int} {L st L' st' : List ZV} {S S' : Sh} {M M' : Me} {h h' : Ml} {cells slots : Nat} (hd : decode cc pc = .ok (.iadd, len)) (hnx : pc + len = nx) (hk : zchk own nL isI ret fr lo pc len (.iadd) a bb d cv w = true) (hst : zst sc (.iadd, nx, a, bb, d, cv, w) L st S M h = some (pc', L', st', S', M', h')) (hrm : cells + (S'.length - S.length) ≤ R.cells ∧ slots + (zsz S' - zsz S) ≤ R.slots) (kk : ZN p l e R s m args below meth c Q dC dI cI cO b base nL pc' L' st' S' M' h' (cells + (S'.length - S.length)) (slots + (zsz S' - zsz S))) : ZN p l e R s m args below meth c Q dC dI cI cO b base nL pc L st S M h cells slots := by
  obtain ⟨hx, hb, hml, hown, hts, hK, hin, hbs⟩ := hC
  have h1 := Nat.eq_of_beq_eq_true hk
  subst h1; subst hnx
  simp only [zst] at hst
  split at hst
  · next y x r =>
    cases hst
    intro hz0 H locs ls hO hS hL hr
    have hx1 : zrn x := hr (.inl x) (List.mem_cons_of_mem _ List.mem_cons_self)
    have hy1 : zrn y := hr (.inl y) List.mem_cons_self
    refine lv_iadd hx hb hd ?_
    have e1 : Value.int (Int32.ofInt x + Int32.ofInt y) = .int (Int32.ofInt (w32 (x + y))) := by rw [zI_add]
    rw [e1]
    exact zkk kk hz0 H locs ls hO hS hL (fun v hv => by
      rcases List.mem_cons.mp hv with e2 | e2
      · subst e2; exact w32_rn _
      · exact hr v (List.mem_cons_of_mem _ (List.mem_cons_of_mem _ e2)))
  · cases hst

set_option maxHeartbeats 1000000 in
theorem zs_isub (hC : ZCx p s m args meth c own cc nL isI dC dI cI cO base) (hX : zSc sc b base s) (hR : fr ≤ R.frames ∧ lo ≤ R.locals) {nx a bb d w len pc pc' : Nat} {cv : Int} {L st L' st' : List ZV} {S S' : Sh} {M M' : Me} {h h' : Ml} {cells slots : Nat} (hd : decode cc pc = .ok (.isub, len)) (hnx : pc + len = nx) (hk : zchk own nL isI ret fr lo pc len (.isub) a bb d cv w = true) (hst : zst sc (.isub, nx, a, bb, d, cv, w) L st S M h = some (pc', L', st', S', M', h')) (hrm : cells + (S'.length - S.length) ≤ R.cells ∧ slots + (zsz S' - zsz S) ≤ R.slots) (kk : ZN p l e R s m args below meth c Q dC dI cI cO b base nL pc' L' st' S' M' h' (cells + (S'.length - S.length)) (slots + (zsz S' - zsz S))) : ZN p l e R s m args below meth c Q dC dI cI cO b base nL pc L st S M h cells slots := by
  obtain ⟨hx, hb, hml, hown, hts, hK, hin, hbs⟩ := hC
  have h1 := Nat.eq_of_beq_eq_true hk
  subst h1; subst hnx
  simp only [zst] at hst
  split at hst
  · next y x r =>
    cases hst
    intro hz0 H locs ls hO hS hL hr
    have hx1 : zrn x := hr (.inl x) (List.mem_cons_of_mem _ List.mem_cons_self)
    have hy1 : zrn y := hr (.inl y) List.mem_cons_self
    refine lv_isub hx hb hd ?_
    have e1 : Value.int (Int32.ofInt x - Int32.ofInt y) = .int (Int32.ofInt (w32 (x - y))) := by rw [zI_sub]
    rw [e1]
    exact zkk kk hz0 H locs ls hO hS hL (fun v hv => by
      rcases List.mem_cons.mp hv with e2 | e2
      · subst e2; exact w32_rn _
      · exact hr v (List.mem_cons_of_mem _ (List.mem_cons_of_mem _ e2)))
  · cases hst

set_option maxHeartbeats 1000000 in
theorem zs_imul (hC : ZCx p s m args meth c own cc nL isI dC dI cI cO base) (hX : zSc sc b base s) (hR : fr ≤ R.frames ∧ lo ≤ R.locals) {nx a bb d w len pc pc' : Nat} {cv : Int} {L st L' st' : List ZV} {S S' : Sh} {M M' : Me} {h h' : Ml} {cells slots : Nat} (hd : decode cc pc = .ok (.imul, len)) (hnx : pc + len = nx) (hk : zchk own nL isI ret fr lo pc len (.imul) a bb d cv w = true) (hst : zst sc (.imul, nx, a, bb, d, cv, w) L st S M h = some (pc', L', st', S', M', h')) (hrm : cells + (S'.length - S.length) ≤ R.cells ∧ slots + (zsz S' - zsz S) ≤ R.slots) (kk : ZN p l e R s m args below meth c Q dC dI cI cO b base nL pc' L' st' S' M' h' (cells + (S'.length - S.length)) (slots + (zsz S' - zsz S))) : ZN p l e R s m args below meth c Q dC dI cI cO b base nL pc L st S M h cells slots := by
  obtain ⟨hx, hb, hml, hown, hts, hK, hin, hbs⟩ := hC
  have h1 := Nat.eq_of_beq_eq_true hk
  subst h1; subst hnx
  simp only [zst] at hst
  split at hst
  · next y x r =>
    cases hst
    intro hz0 H locs ls hO hS hL hr
    have hx1 : zrn x := hr (.inl x) (List.mem_cons_of_mem _ List.mem_cons_self)
    have hy1 : zrn y := hr (.inl y) List.mem_cons_self
    refine lv_imul hx hb hd ?_
    have e1 : Value.int (Int32.ofInt x * Int32.ofInt y) = .int (Int32.ofInt (w32 (x * y))) := by rw [zI_mul]
    rw [e1]
    exact zkk kk hz0 H locs ls hO hS hL (fun v hv => by
      rcases List.mem_cons.mp hv with e2 | e2
      · subst e2; exact w32_rn _
      · exact hr v (List.mem_cons_of_mem _ (List.mem_cons_of_mem _ e2)))
  · cases hst

set_option maxHeartbeats 1000000 in
theorem zs_iand (hC : ZCx p s m args meth c own cc nL isI dC dI cI cO base) (hX : zSc sc b base s) (hR : fr ≤ R.frames ∧ lo ≤ R.locals) {nx a bb d w len pc pc' : Nat} {cv : Int} {L st L' st' : List ZV} {S S' : Sh} {M M' : Me} {h h' : Ml} {cells slots : Nat} (hd : decode cc pc = .ok (.iand, len)) (hnx : pc + len = nx) (hk : zchk own nL isI ret fr lo pc len (.iand) a bb d cv w = true) (hst : zst sc (.iand, nx, a, bb, d, cv, w) L st S M h = some (pc', L', st', S', M', h')) (hrm : cells + (S'.length - S.length) ≤ R.cells ∧ slots + (zsz S' - zsz S) ≤ R.slots) (kk : ZN p l e R s m args below meth c Q dC dI cI cO b base nL pc' L' st' S' M' h' (cells + (S'.length - S.length)) (slots + (zsz S' - zsz S))) : ZN p l e R s m args below meth c Q dC dI cI cO b base nL pc L st S M h cells slots := by
  obtain ⟨hx, hb, hml, hown, hts, hK, hin, hbs⟩ := hC
  have h1 := Nat.eq_of_beq_eq_true hk
  subst h1; subst hnx
  simp only [zst] at hst
  split at hst
  · next y x r =>
    cases hst
    intro hz0 H locs ls hO hS hL hr
    have hx1 : zrn x := hr (.inl x) (List.mem_cons_of_mem _ List.mem_cons_self)
    have hy1 : zrn y := hr (.inl y) List.mem_cons_self
    refine lv_iand hx hb hd ?_
    have e1 : Value.int (Int32.ofInt x &&& Int32.ofInt y) = .int (Int32.ofInt (bAnd x y)) := by rw [(zI_and x y).1]
    rw [e1]
    exact zkk kk hz0 H locs ls hO hS hL (fun v hv => by
      rcases List.mem_cons.mp hv with e2 | e2
      · subst e2; exact (zI_and x y).2
      · exact hr v (List.mem_cons_of_mem _ (List.mem_cons_of_mem _ e2)))
  · cases hst

set_option maxHeartbeats 1000000 in
theorem zs_ior (hC : ZCx p s m args meth c own cc nL isI dC dI cI cO base) (hX : zSc sc b base s) (hR : fr ≤ R.frames ∧ lo ≤ R.locals) {nx a bb d w len pc pc' : Nat} {cv : Int} {L st L' st' : List ZV} {S S' : Sh} {M M' : Me} {h h' : Ml} {cells slots : Nat} (hd : decode cc pc = .ok (.ior, len)) (hnx : pc + len = nx) (hk : zchk own nL isI ret fr lo pc len (.ior) a bb d cv w = true) (hst : zst sc (.ior, nx, a, bb, d, cv, w) L st S M h = some (pc', L', st', S', M', h')) (hrm : cells + (S'.length - S.length) ≤ R.cells ∧ slots + (zsz S' - zsz S) ≤ R.slots) (kk : ZN p l e R s m args below meth c Q dC dI cI cO b base nL pc' L' st' S' M' h' (cells + (S'.length - S.length)) (slots + (zsz S' - zsz S))) : ZN p l e R s m args below meth c Q dC dI cI cO b base nL pc L st S M h cells slots := by
  obtain ⟨hx, hb, hml, hown, hts, hK, hin, hbs⟩ := hC
  have h1 := Nat.eq_of_beq_eq_true hk
  subst h1; subst hnx
  simp only [zst] at hst
  split at hst
  · next y x r =>
    cases hst
    intro hz0 H locs ls hO hS hL hr
    have hx1 : zrn x := hr (.inl x) (List.mem_cons_of_mem _ List.mem_cons_self)
    have hy1 : zrn y := hr (.inl y) List.mem_cons_self
    refine lv_ior hx hb hd ?_
    have e1 : Value.int (Int32.ofInt x ||| Int32.ofInt y) = .int (Int32.ofInt (bOr x y)) := by rw [(zI_or x y).1]
    rw [e1]
    exact zkk kk hz0 H locs ls hO hS hL (fun v hv => by
      rcases List.mem_cons.mp hv with e2 | e2
      · subst e2; exact (zI_or x y).2
      · exact hr v (List.mem_cons_of_mem _ (List.mem_cons_of_mem _ e2)))
  · cases hst

set_option maxHeartbeats 1000000 in
theorem zs_ixor (hC : ZCx p s m args meth c own cc nL isI dC dI cI cO base) (hX : zSc sc b base s) (hR : fr ≤ R.frames ∧ lo ≤ R.locals) {nx a bb d w len pc pc' : Nat} {cv : Int} {L st L' st' : List ZV} {S S' : Sh} {M M' : Me} {h h' : Ml} {cells slots : Nat} (hd : decode cc pc = .ok (.ixor, len)) (hnx : pc + len = nx) (hk : zchk own nL isI ret fr lo pc len (.ixor) a bb d cv w = true) (hst : zst sc (.ixor, nx, a, bb, d, cv, w) L st S M h = some (pc', L', st', S', M', h')) (hrm : cells + (S'.length - S.length) ≤ R.cells ∧ slots + (zsz S' - zsz S) ≤ R.slots) (kk : ZN p l e R s m args below meth c Q dC dI cI cO b base nL pc' L' st' S' M' h' (cells + (S'.length - S.length)) (slots + (zsz S' - zsz S))) : ZN p l e R s m args below meth c Q dC dI cI cO b base nL pc L st S M h cells slots := by
  obtain ⟨hx, hb, hml, hown, hts, hK, hin, hbs⟩ := hC
  have h1 := Nat.eq_of_beq_eq_true hk
  subst h1; subst hnx
  simp only [zst] at hst
  split at hst
  · next y x r =>
    cases hst
    intro hz0 H locs ls hO hS hL hr
    have hx1 : zrn x := hr (.inl x) (List.mem_cons_of_mem _ List.mem_cons_self)
    have hy1 : zrn y := hr (.inl y) List.mem_cons_self
    refine lv_ixor hx hb hd ?_
    have e1 : Value.int (Int32.ofInt x ^^^ Int32.ofInt y) = .int (Int32.ofInt (bXor x y)) := by rw [(zI_xor x y).1]
    rw [e1]
    exact zkk kk hz0 H locs ls hO hS hL (fun v hv => by
      rcases List.mem_cons.mp hv with e2 | e2
      · subst e2; exact (zI_xor x y).2
      · exact hr v (List.mem_cons_of_mem _ (List.mem_cons_of_mem _ e2)))
  · cases hst

set_option maxHeartbeats 1000000 in
theorem zs_ishl (hC : ZCx p s m args meth c own cc nL isI dC dI cI cO base) (hX : zSc sc b base s) (hR : fr ≤ R.frames ∧ lo ≤ R.locals) {nx a bb d w len pc pc' : Nat} {cv : Int} {L st L' st' : List ZV} {S S' : Sh} {M M' : Me} {h h' : Ml} {cells slots : Nat} (hd : decode cc pc = .ok (.ishl, len)) (hnx : pc + len = nx) (hk : zchk own nL isI ret fr lo pc len (.ishl) a bb d cv w = true) (hst : zst sc (.ishl, nx, a, bb, d, cv, w) L st S M h = some (pc', L', st', S', M', h')) (hrm : cells + (S'.length - S.length) ≤ R.cells ∧ slots + (zsz S' - zsz S) ≤ R.slots) (kk : ZN p l e R s m args below meth c Q dC dI cI cO b base nL pc' L' st' S' M' h' (cells + (S'.length - S.length)) (slots + (zsz S' - zsz S))) : ZN p l e R s m args below meth c Q dC dI cI cO b base nL pc L st S M h cells slots := by
  obtain ⟨hx, hb, hml, hown, hts, hK, hin, hbs⟩ := hC
  have h1 := Nat.eq_of_beq_eq_true hk
  subst h1; subst hnx
  simp only [zst] at hst
  split at hst
  · next y x r =>
    cases hst
    intro hz0 H locs ls hO hS hL hr
    have hx1 : zrn x := hr (.inl x) (List.mem_cons_of_mem _ List.mem_cons_self)
    have hy1 : zrn y := hr (.inl y) List.mem_cons_self
    refine lv_ishl hx hb hd ?_
    have e1 : Value.int (Int32.ofInt x <<< (Int32.ofInt y &&& 31)) = .int (Int32.ofInt (bShl x y)) := by rw [(zI_shl x y).1]
    rw [e1]
    exact zkk kk hz0 H locs ls hO hS hL (fun v hv => by
      rcases List.mem_cons.mp hv with e2 | e2
      · subst e2; exact (zI_shl x y).2
      · exact hr v (List.mem_cons_of_mem _ (List.mem_cons_of_mem _ e2)))
  · cases hst

set_option maxHeartbeats 1000000 in
theorem zs_ishr (hC : ZCx p s m args meth c own cc nL isI dC dI cI cO base) (hX : zSc sc b base s) (hR : fr ≤ R.frames ∧ lo ≤ R.locals) {nx a bb d w len pc pc' : Nat} {cv : Int} {L st L' st' : List ZV} {S S' : Sh} {M M' : Me} {h h' : Ml} {cells slots : Nat} (hd : decode cc pc = .ok (.ishr, len)) (hnx : pc + len = nx) (hk : zchk own nL isI ret fr lo pc len (.ishr) a bb d cv w = true) (hst : zst sc (.ishr, nx, a, bb, d, cv, w) L st S M h = some (pc', L', st', S', M', h')) (hrm : cells + (S'.length - S.length) ≤ R.cells ∧ slots + (zsz S' - zsz S) ≤ R.slots) (kk : ZN p l e R s m args below meth c Q dC dI cI cO b base nL pc' L' st' S' M' h' (cells + (S'.length - S.length)) (slots + (zsz S' - zsz S))) : ZN p l e R s m args below meth c Q dC dI cI cO b base nL pc L st S M h cells slots := by
  obtain ⟨hx, hb, hml, hown, hts, hK, hin, hbs⟩ := hC
  have h1 := Nat.eq_of_beq_eq_true hk
  subst h1; subst hnx
  simp only [zst] at hst
  split at hst
  · next y x r =>
    cases hst
    intro hz0 H locs ls hO hS hL hr
    have hx1 : zrn x := hr (.inl x) (List.mem_cons_of_mem _ List.mem_cons_self)
    have hy1 : zrn y := hr (.inl y) List.mem_cons_self
    refine lv_ishr hx hb hd ?_
    have e1 : Value.int (Int32.ofInt x >>> (Int32.ofInt y &&& 31)) = .int (Int32.ofInt (bShr x y)) := by rw [(zI_shr x y).1]
    rw [e1]
    exact zkk kk hz0 H locs ls hO hS hL (fun v hv => by
      rcases List.mem_cons.mp hv with e2 | e2
      · subst e2; exact (zI_shr x y).2
      · exact hr v (List.mem_cons_of_mem _ (List.mem_cons_of_mem _ e2)))
  · cases hst

set_option maxHeartbeats 1000000 in
theorem zs_iushr (hC : ZCx p s m args meth c own cc nL isI dC dI cI cO base) (hX : zSc sc b base s) (hR : fr ≤ R.frames ∧ lo ≤ R.locals) {nx a bb d w len pc pc' : Nat} {cv : Int} {L st L' st' : List ZV} {S S' : Sh} {M M' : Me} {h h' : Ml} {cells slots : Nat} (hd : decode cc pc = .ok (.iushr, len)) (hnx : pc + len = nx) (hk : zchk own nL isI ret fr lo pc len (.iushr) a bb d cv w = true) (hst : zst sc (.iushr, nx, a, bb, d, cv, w) L st S M h = some (pc', L', st', S', M', h')) (hrm : cells + (S'.length - S.length) ≤ R.cells ∧ slots + (zsz S' - zsz S) ≤ R.slots) (kk : ZN p l e R s m args below meth c Q dC dI cI cO b base nL pc' L' st' S' M' h' (cells + (S'.length - S.length)) (slots + (zsz S' - zsz S))) : ZN p l e R s m args below meth c Q dC dI cI cO b base nL pc L st S M h cells slots := by
  obtain ⟨hx, hb, hml, hown, hts, hK, hin, hbs⟩ := hC
  have h1 := Nat.eq_of_beq_eq_true hk
  subst h1; subst hnx
  simp only [zst] at hst
  split at hst
  · next y x r =>
    cases hst
    intro hz0 H locs ls hO hS hL hr
    have hx1 : zrn x := hr (.inl x) (List.mem_cons_of_mem _ List.mem_cons_self)
    have hy1 : zrn y := hr (.inl y) List.mem_cons_self
    refine lv_iushr (v := Int32.ofInt (bUsh x y)) hx hb hd (zI_ush x y).1.symm ?_
    have e1 : Value.int (Int32.ofInt (bUsh x y)) = .int (Int32.ofInt (bUsh x y)) := rfl
    rw [e1]
    exact zkk kk hz0 H locs ls hO hS hL (fun v hv => by
      rcases List.mem_cons.mp hv with e2 | e2
      · subst e2; exact (zI_ush x y).2
      · exact hr v (List.mem_cons_of_mem _ (List.mem_cons_of_mem _ e2)))
  · cases hst

set_option maxHeartbeats 1000000 in
theorem zs_iconst (hC : ZCx p s m args meth c own cc nL isI dC dI cI cO base) (hX : zSc sc b base s) (hR : fr ≤ R.frames ∧ lo ≤ R.locals) {nx a bb d w len pc pc' : Nat} {cv : Int} {L st L' st' : List ZV} {S S' : Sh} {M M' : Me} {h h' : Ml} {cells slots : Nat} {n : Int} (hd : decode cc pc = .ok (.iconst n, len)) (hnx : pc + len = nx) (hk : zchk own nL isI ret fr lo pc len (.iconst n) a bb d cv w = true) (hst : zst sc (.iconst n, nx, a, bb, d, cv, w) L st S M h = some (pc', L', st', S', M', h')) (hrm : cells + (S'.length - S.length) ≤ R.cells ∧ slots + (zsz S' - zsz S) ≤ R.slots) (kk : ZN p l e R s m args below meth c Q dC dI cI cO b base nL pc' L' st' S' M' h' (cells + (S'.length - S.length)) (slots + (zsz S' - zsz S))) : ZN p l e R s m args below meth c Q dC dI cI cO b base nL pc L st S M h cells slots := by
  obtain ⟨hx, hb, hml, hown, hts, hK, hin, hbs⟩ := hC
  simp only [zchk, Bool.and_eq_true] at hk
  obtain ⟨⟨h1, h2⟩, hrg⟩ := hk
  have h1 := Nat.eq_of_beq_eq_true h1
  have h2 := of_decide_eq_true h2
  subst h1; subst hnx
  simp only [zst] at hst
  cases hst
  intro hz0 H locs ls hO hS hL hr
  subst h2
  refine lv_iconst (v := Int32.ofInt cv) hx hb hd rfl ?_
  exact zkk kk hz0 H locs ls hO hS hL (fun v hv => by
    rcases List.mem_cons.mp hv with e2 | e2
    · subst e2; exact zrgb_rn hrg
    · exact hr v e2)

set_option maxHeartbeats 1000000 in
theorem zs_bipush (hC : ZCx p s m args meth c own cc nL isI dC dI cI cO base) (hX : zSc sc b base s) (hR : fr ≤ R.frames ∧ lo ≤ R.locals) {nx a bb d w len pc pc' : Nat} {cv : Int} {L st L' st' : List ZV} {S S' : Sh} {M M' : Me} {h h' : Ml} {cells slots : Nat} {n : Int} (hd : decode cc pc = .ok (.bipush n, len)) (hnx : pc + len = nx) (hk : zchk own nL isI ret fr lo pc len (.bipush n) a bb d cv w = true) (hst : zst sc (.bipush n, nx, a, bb, d, cv, w) L st S M h = some (pc', L', st', S', M', h')) (hrm : cells + (S'.length - S.length) ≤ R.cells ∧ slots + (zsz S' - zsz S) ≤ R.slots) (kk : ZN p l e R s m args below meth c Q dC dI cI cO b base nL pc' L' st' S' M' h' (cells + (S'.length - S.length)) (slots + (zsz S' - zsz S))) : ZN p l e R s m args below meth c Q dC dI cI cO b base nL pc L st S M h cells slots := by
  obtain ⟨hx, hb, hml, hown, hts, hK, hin, hbs⟩ := hC
  simp only [zchk, Bool.and_eq_true] at hk
  obtain ⟨⟨h1, h2⟩, hrg⟩ := hk
  have h1 := Nat.eq_of_beq_eq_true h1
  have h2 := of_decide_eq_true h2
  subst h1; subst hnx
  simp only [zst] at hst
  cases hst
  intro hz0 H locs ls hO hS hL hr
  refine lv_bipush (v := Int32.ofInt cv) hx hb hd h2 ?_
  exact zkk kk hz0 H locs ls hO hS hL (fun v hv => by
    rcases List.mem_cons.mp hv with e2 | e2
    · subst e2; exact zrgb_rn hrg
    · exact hr v e2)

set_option maxHeartbeats 1000000 in
theorem zs_sipush (hC : ZCx p s m args meth c own cc nL isI dC dI cI cO base) (hX : zSc sc b base s) (hR : fr ≤ R.frames ∧ lo ≤ R.locals) {nx a bb d w len pc pc' : Nat} {cv : Int} {L st L' st' : List ZV} {S S' : Sh} {M M' : Me} {h h' : Ml} {cells slots : Nat} {n : Int} (hd : decode cc pc = .ok (.sipush n, len)) (hnx : pc + len = nx) (hk : zchk own nL isI ret fr lo pc len (.sipush n) a bb d cv w = true) (hst : zst sc (.sipush n, nx, a, bb, d, cv, w) L st S M h = some (pc', L', st', S', M', h')) (hrm : cells + (S'.length - S.length) ≤ R.cells ∧ slots + (zsz S' - zsz S) ≤ R.slots) (kk : ZN p l e R s m args below meth c Q dC dI cI cO b base nL pc' L' st' S' M' h' (cells + (S'.length - S.length)) (slots + (zsz S' - zsz S))) : ZN p l e R s m args below meth c Q dC dI cI cO b base nL pc L st S M h cells slots := by
  obtain ⟨hx, hb, hml, hown, hts, hK, hin, hbs⟩ := hC
  simp only [zchk, Bool.and_eq_true] at hk
  obtain ⟨⟨h1, h2⟩, hrg⟩ := hk
  have h1 := Nat.eq_of_beq_eq_true h1
  have h2 := of_decide_eq_true h2
  subst h1; subst hnx
  simp only [zst] at hst
  cases hst
  intro hz0 H locs ls hO hS hL hr
  refine lv_sipush (v := Int32.ofInt cv) hx hb hd h2 ?_
  exact zkk kk hz0 H locs ls hO hS hL (fun v hv => by
    rcases List.mem_cons.mp hv with e2 | e2
    · subst e2; exact zrgb_rn hrg
    · exact hr v e2)

set_option maxHeartbeats 1000000 in
theorem zs_ldc (hC : ZCx p s m args meth c own cc nL isI dC dI cI cO base) (hX : zSc sc b base s) (hR : fr ≤ R.frames ∧ lo ≤ R.locals) {nx a bb d w len pc pc' : Nat} {cv : Int} {L st L' st' : List ZV} {S S' : Sh} {M M' : Me} {h h' : Ml} {cells slots : Nat} {n : Nat} (hd : decode cc pc = .ok (.ldc n, len)) (hnx : pc + len = nx) (hk : zchk own nL isI ret fr lo pc len (.ldc n) a bb d cv w = true) (hst : zst sc (.ldc n, nx, a, bb, d, cv, w) L st S M h = some (pc', L', st', S', M', h')) (hrm : cells + (S'.length - S.length) ≤ R.cells ∧ slots + (zsz S' - zsz S) ≤ R.slots) (kk : ZN p l e R s m args below meth c Q dC dI cI cO b base nL pc' L' st' S' M' h' (cells + (S'.length - S.length)) (slots + (zsz S' - zsz S))) : ZN p l e R s m args below meth c Q dC dI cI cO b base nL pc L st S M h cells slots := by
  obtain ⟨hx, hb, hml, hown, hts, hK, hin, hbs⟩ := hC
  simp only [zchk, Bool.and_eq_true] at hk
  obtain ⟨⟨h1, h2⟩, hrg⟩ := hk
  have h1 := Nat.eq_of_beq_eq_true h1
  have h2 := zin_mem h2
  subst h1; subst hnx
  simp only [zst] at hst
  cases hst
  intro hz0 H locs ls hO hS hL hr
  refine lv_ldc (own := own) (v := Int32.ofInt cv) hx hb hown (hts _ h2) hd ?_
  exact zkk kk hz0 H locs ls hO hS hL (fun v hv => by
    rcases List.mem_cons.mp hv with e2 | e2
    · subst e2; exact zrgb_rn hrg
    · exact hr v e2)

set_option maxHeartbeats 1000000 in
theorem zs_ldc_w (hC : ZCx p s m args meth c own cc nL isI dC dI cI cO base) (hX : zSc sc b base s) (hR : fr ≤ R.frames ∧ lo ≤ R.locals) {nx a bb d w len pc pc' : Nat} {cv : Int} {L st L' st' : List ZV} {S S' : Sh} {M M' : Me} {h h' : Ml} {cells slots : Nat} {n : Nat} (hd : decode cc pc = .ok (.ldc_w n, len)) (hnx : pc + len = nx) (hk : zchk own nL isI ret fr lo pc len (.ldc_w n) a bb d cv w = true) (hst : zst sc (.ldc_w n, nx, a, bb, d, cv, w) L st S M h = some (pc', L', st', S', M', h')) (hrm : cells + (S'.length - S.length) ≤ R.cells ∧ slots + (zsz S' - zsz S) ≤ R.slots) (kk : ZN p l e R s m args below meth c Q dC dI cI cO b base nL pc' L' st' S' M' h' (cells + (S'.length - S.length)) (slots + (zsz S' - zsz S))) : ZN p l e R s m args below meth c Q dC dI cI cO b base nL pc L st S M h cells slots := by
  obtain ⟨hx, hb, hml, hown, hts, hK, hin, hbs⟩ := hC
  simp only [zchk, Bool.and_eq_true] at hk
  obtain ⟨⟨h1, h2⟩, hrg⟩ := hk
  have h1 := Nat.eq_of_beq_eq_true h1
  have h2 := zin_mem h2
  subst h1; subst hnx
  simp only [zst] at hst
  cases hst
  intro hz0 H locs ls hO hS hL hr
  refine lv_ldcw (own := own) (v := Int32.ofInt cv) hx hb hown (hts _ h2) hd ?_
  exact zkk kk hz0 H locs ls hO hS hL (fun v hv => by
    rcases List.mem_cons.mp hv with e2 | e2
    · subst e2; exact zrgb_rn hrg
    · exact hr v e2)

set_option maxHeartbeats 1000000 in
theorem zs_ldc2_w (hC : ZCx p s m args meth c own cc nL isI dC dI cI cO base) (hX : zSc sc b base s) (hR : fr ≤ R.frames ∧ lo ≤ R.locals) {nx a bb d w len pc pc' : Nat} {cv : Int} {L st L' st' : List ZV} {S S' : Sh} {M M' : Me} {h h' : Ml} {cells slots : Nat} {n : Nat} (hd : decode cc pc = .ok (.ldc2_w n, len)) (hnx : pc + len = nx) (hk : zchk own nL isI ret fr lo pc len (.ldc2_w n) a bb d cv w = true) (hst : zst sc (.ldc2_w n, nx, a, bb, d, cv, w) L st S M h = some (pc', L', st', S', M', h')) (hrm : cells + (S'.length - S.length) ≤ R.cells ∧ slots + (zsz S' - zsz S) ≤ R.slots) (kk : ZN p l e R s m args below meth c Q dC dI cI cO b base nL pc' L' st' S' M' h' (cells + (S'.length - S.length)) (slots + (zsz S' - zsz S))) : ZN p l e R s m args below meth c Q dC dI cI cO b base nL pc L st S M h cells slots := by
  obtain ⟨hx, hb, hml, hown, hts, hK, hin, hbs⟩ := hC
  simp only [zchk, Bool.and_eq_true] at hk
  obtain ⟨h1, h2⟩ := hk
  have h1 := Nat.eq_of_beq_eq_true h1
  have h2 := zin_mem h2
  subst h1; subst hnx
  simp only [zst] at hst
  cases hst
  intro hz0 H locs ls hO hS hL hr
  refine lv_ldc2 (own := own) (v := Int64.ofInt cv) hx hb hown (hts _ h2) hd ?_
  exact zkk kk hz0 H locs ls hO hS hL (fun v hv => by
    rcases List.mem_cons.mp hv with e2 | e2
    · subst e2; exact trivial
    · exact hr v e2)

set_option maxHeartbeats 1000000 in
theorem zs_iload (hC : ZCx p s m args meth c own cc nL isI dC dI cI cO base) (hX : zSc sc b base s) (hR : fr ≤ R.frames ∧ lo ≤ R.locals) {nx a bb d w len pc pc' : Nat} {cv : Int} {L st L' st' : List ZV} {S S' : Sh} {M M' : Me} {h h' : Ml} {cells slots : Nat} {k : Nat} (hd : decode cc pc = .ok (.iload k, len)) (hnx : pc + len = nx) (hk : zchk own nL isI ret fr lo pc len (.iload k) a bb d cv w = true) (hst : zst sc (.iload k, nx, a, bb, d, cv, w) L st S M h = some (pc', L', st', S', M', h')) (hrm : cells + (S'.length - S.length) ≤ R.cells ∧ slots + (zsz S' - zsz S) ≤ R.slots) (kk : ZN p l e R s m args below meth c Q dC dI cI cO b base nL pc' L' st' S' M' h' (cells + (S'.length - S.length)) (slots + (zsz S' - zsz S))) : ZN p l e R s m args below meth c Q dC dI cI cO b base nL pc L st S M h cells slots := by
  obtain ⟨hx, hb, hml, hown, hts, hK, hin, hbs⟩ := hC
  obtain ⟨h1, h2⟩ := zlen1 hk
  have h2 := Nat.eq_of_beq_eq_true h2
  subst h1; subst hnx
  simp only [zst] at hst
  split at hst
  · next x hz =>
    cases hst
    intro hz0 H locs ls hO hS hL hr
    obtain ⟨hl, hv0⟩ := hL.at hz (by intro q; cases q)
    refine lv_iload hx hb hd (by rw [h2]; exact hl) ?_
    exact zkk kk hz0 H locs ls hO hS hL (fun v hv => by
      rcases List.mem_cons.mp hv with e2 | e2
      · subst e2; exact hv0
      · exact hr v e2)
  · cases hst

set_option maxHeartbeats 1000000 in
theorem zs_iload_n (hC : ZCx p s m args meth c own cc nL isI dC dI cI cO base) (hX : zSc sc b base s) (hR : fr ≤ R.frames ∧ lo ≤ R.locals) {nx a bb d w len pc pc' : Nat} {cv : Int} {L st L' st' : List ZV} {S S' : Sh} {M M' : Me} {h h' : Ml} {cells slots : Nat} {k : Fin 4} (hd : decode cc pc = .ok (.iload_n k, len)) (hnx : pc + len = nx) (hk : zchk own nL isI ret fr lo pc len (.iload_n k) a bb d cv w = true) (hst : zst sc (.iload_n k, nx, a, bb, d, cv, w) L st S M h = some (pc', L', st', S', M', h')) (hrm : cells + (S'.length - S.length) ≤ R.cells ∧ slots + (zsz S' - zsz S) ≤ R.slots) (kk : ZN p l e R s m args below meth c Q dC dI cI cO b base nL pc' L' st' S' M' h' (cells + (S'.length - S.length)) (slots + (zsz S' - zsz S))) : ZN p l e R s m args below meth c Q dC dI cI cO b base nL pc L st S M h cells slots := by
  obtain ⟨hx, hb, hml, hown, hts, hK, hin, hbs⟩ := hC
  obtain ⟨h1, h2⟩ := zlen1 hk
  have h2 := Nat.eq_of_beq_eq_true h2
  subst h1; subst hnx
  simp only [zst] at hst
  split at hst
  · next x hz =>
    cases hst
    intro hz0 H locs ls hO hS hL hr
    obtain ⟨hl, hv0⟩ := hL.at hz (by intro q; cases q)
    refine lv_iload_n hx hb hd h2 hl ?_
    exact zkk kk hz0 H locs ls hO hS hL (fun v hv => by
      rcases List.mem_cons.mp hv with e2 | e2
      · subst e2; exact hv0
      · exact hr v e2)
  · cases hst

set_option maxHeartbeats 1000000 in
theorem zs_lload (hC : ZCx p s m args meth c own cc nL isI dC dI cI cO base) (hX : zSc sc b base s) (hR : fr ≤ R.frames ∧ lo ≤ R.locals) {nx a bb d w len pc pc' : Nat} {cv : Int} {L st L' st' : List ZV} {S S' : Sh} {M M' : Me} {h h' : Ml} {cells slots : Nat} {k : Nat} (hd : decode cc pc = .ok (.lload k, len)) (hnx : pc + len = nx) (hk : zchk own nL isI ret fr lo pc len (.lload k) a bb d cv w = true) (hst : zst sc (.lload k, nx, a, bb, d, cv, w) L st S M h = some (pc', L', st', S', M', h')) (hrm : cells + (S'.length - S.length) ≤ R.cells ∧ slots + (zsz S' - zsz S) ≤ R.slots) (kk : ZN p l e R s m args below meth c Q dC dI cI cO b base nL pc' L' st' S' M' h' (cells + (S'.length - S.length)) (slots + (zsz S' - zsz S))) : ZN p l e R s m args below meth c Q dC dI cI cO b base nL pc L st S M h cells slots := by
  obtain ⟨hx, hb, hml, hown, hts, hK, hin, hbs⟩ := hC
  obtain ⟨h1, h2⟩ := zlen1 hk
  have h2 := Nat.eq_of_beq_eq_true h2
  subst h1; subst hnx
  simp only [zst] at hst
  split at hst
  · next x hz =>
    cases hst
    intro hz0 H locs ls hO hS hL hr
    obtain ⟨hl, hv0⟩ := hL.at hz (by intro q; cases q)
    refine lv_lload hx hb hd (by rw [h2]; exact hl) ?_
    exact zkk kk hz0 H locs ls hO hS hL (fun v hv => by
      rcases List.mem_cons.mp hv with e2 | e2
      · subst e2; exact hv0
      · exact hr v e2)
  · cases hst

set_option maxHeartbeats 1000000 in
theorem zs_lload_n (hC : ZCx p s m args meth c own cc nL isI dC dI cI cO base) (hX : zSc sc b base s) (hR : fr ≤ R.frames ∧ lo ≤ R.locals) {nx a bb d w len pc pc' : Nat} {cv : Int} {L st L' st' : List ZV} {S S' : Sh} {M M' : Me} {h h' : Ml} {cells slots : Nat} {k : Fin 4} (hd : decode cc pc = .ok (.lload_n k, len)) (hnx : pc + len = nx) (hk : zchk own nL isI ret fr lo pc len (.lload_n k) a bb d cv w = true) (hst : zst sc (.lload_n k, nx, a, bb, d, cv, w) L st S M h = some (pc', L', st', S', M', h')) (hrm : cells + (S'.length - S.length) ≤ R.cells ∧ slots + (zsz S' - zsz S) ≤ R.slots) (kk : ZN p l e R s m args below meth c Q dC dI cI cO b base nL pc' L' st' S' M' h' (cells + (S'.length - S.length)) (slots + (zsz S' - zsz S))) : ZN p l e R s m args below meth c Q dC dI cI cO b base nL pc L st S M h cells slots := by
  obtain ⟨hx, hb, hml, hown, hts, hK, hin, hbs⟩ := hC
  obtain ⟨h1, h2⟩ := zlen1 hk
  have h2 := Nat.eq_of_beq_eq_true h2
  subst h1; subst hnx
  simp only [zst] at hst
  split at hst
  · next x hz =>
    cases hst
    intro hz0 H locs ls hO hS hL hr
    obtain ⟨hl, hv0⟩ := hL.at hz (by intro q; cases q)
    refine lv_lload_n hx hb hd h2 hl ?_
    exact zkk kk hz0 H locs ls hO hS hL (fun v hv => by
      rcases List.mem_cons.mp hv with e2 | e2
      · subst e2; exact hv0
      · exact hr v e2)
  · cases hst

set_option maxHeartbeats 1000000 in
theorem zs_aload (hC : ZCx p s m args meth c own cc nL isI dC dI cI cO base) (hX : zSc sc b base s) (hR : fr ≤ R.frames ∧ lo ≤ R.locals) {nx a bb d w len pc pc' : Nat} {cv : Int} {L st L' st' : List ZV} {S S' : Sh} {M M' : Me} {h h' : Ml} {cells slots : Nat} {k : Nat} (hd : decode cc pc = .ok (.aload k, len)) (hnx : pc + len = nx) (hk : zchk own nL isI ret fr lo pc len (.aload k) a bb d cv w = true) (hst : zst sc (.aload k, nx, a, bb, d, cv, w) L st S M h = some (pc', L', st', S', M', h')) (hrm : cells + (S'.length - S.length) ≤ R.cells ∧ slots + (zsz S' - zsz S) ≤ R.slots) (kk : ZN p l e R s m args below meth c Q dC dI cI cO b base nL pc' L' st' S' M' h' (cells + (S'.length - S.length)) (slots + (zsz S' - zsz S))) : ZN p l e R s m args below meth c Q dC dI cI cO b base nL pc L st S M h cells slots := by
  obtain ⟨hx, hb, hml, hown, hts, hK, hin, hbs⟩ := hC
  obtain ⟨h1, h2⟩ := zlen1 hk
  have h2 := Nat.eq_of_beq_eq_true h2
  subst h1; subst hnx
  simp only [zst] at hst
  split at hst
  · next x hz =>
    cases hst
    intro hz0 H locs ls hO hS hL hr
    obtain ⟨hl, hv0⟩ := hL.at hz (by intro q; cases q)
    refine lv_aload hx hb hd (by rw [h2]; exact hl) ?_
    exact zkk kk hz0 H locs ls hO hS hL (fun v hv => by
      rcases List.mem_cons.mp hv with e2 | e2
      · subst e2; exact hv0
      · exact hr v e2)
  · next hz =>
    cases hst
    intro hz0 H locs ls hO hS hL hr
    obtain ⟨hl, hv0⟩ := hL.at hz (by intro q; cases q)
    refine lv_aload hx hb hd (by rw [h2]; exact hl) ?_
    exact zkk kk hz0 H locs ls hO hS hL (fun v hv => by
      rcases List.mem_cons.mp hv with e2 | e2
      · subst e2; exact hv0
      · exact hr v e2)
  · cases hst

set_option maxHeartbeats 1000000 in
theorem zs_aload_n (hC : ZCx p s m args meth c own cc nL isI dC dI cI cO base) (hX : zSc sc b base s) (hR : fr ≤ R.frames ∧ lo ≤ R.locals) {nx a bb d w len pc pc' : Nat} {cv : Int} {L st L' st' : List ZV} {S S' : Sh} {M M' : Me} {h h' : Ml} {cells slots : Nat} {k : Fin 4} (hd : decode cc pc = .ok (.aload_n k, len)) (hnx : pc + len = nx) (hk : zchk own nL isI ret fr lo pc len (.aload_n k) a bb d cv w = true) (hst : zst sc (.aload_n k, nx, a, bb, d, cv, w) L st S M h = some (pc', L', st', S', M', h')) (hrm : cells + (S'.length - S.length) ≤ R.cells ∧ slots + (zsz S' - zsz S) ≤ R.slots) (kk : ZN p l e R s m args below meth c Q dC dI cI cO b base nL pc' L' st' S' M' h' (cells + (S'.length - S.length)) (slots + (zsz S' - zsz S))) : ZN p l e R s m args below meth c Q dC dI cI cO b base nL pc L st S M h cells slots := by
  obtain ⟨hx, hb, hml, hown, hts, hK, hin, hbs⟩ := hC
  obtain ⟨h1, h2⟩ := zlen1 hk
  have h2 := Nat.eq_of_beq_eq_true h2
  subst h1; subst hnx
  simp only [zst] at hst
  split at hst
  · next x hz =>
    cases hst
    intro hz0 H locs ls hO hS hL hr
    obtain ⟨hl, hv0⟩ := hL.at hz (by intro q; cases q)
    refine lv_aload_n hx hb hd h2 hl ?_
    exact zkk kk hz0 H locs ls hO hS hL (fun v hv => by
      rcases List.mem_cons.mp hv with e2 | e2
      · subst e2; exact hv0
      · exact hr v e2)
  · next hz =>
    cases hst
    intro hz0 H locs ls hO hS hL hr
    obtain ⟨hl, hv0⟩ := hL.at hz (by intro q; cases q)
    refine lv_aload_n hx hb hd h2 hl ?_
    exact zkk kk hz0 H locs ls hO hS hL (fun v hv => by
      rcases List.mem_cons.mp hv with e2 | e2
      · subst e2; exact hv0
      · exact hr v e2)
  · cases hst

set_option maxHeartbeats 1000000 in
theorem zs_istore (hC : ZCx p s m args meth c own cc nL isI dC dI cI cO base) (hX : zSc sc b base s) (hR : fr ≤ R.frames ∧ lo ≤ R.locals) {nx a bb d w len pc pc' : Nat} {cv : Int} {L st L' st' : List ZV} {S S' : Sh} {M M' : Me} {h h' : Ml} {cells slots : Nat} {k : Nat} (hd : decode cc pc = .ok (.istore k, len)) (hnx : pc + len = nx) (hk : zchk own nL isI ret fr lo pc len (.istore k) a bb d cv w = true) (hst : zst sc (.istore k, nx, a, bb, d, cv, w) L st S M h = some (pc', L', st', S', M', h')) (hrm : cells + (S'.length - S.length) ≤ R.cells ∧ slots + (zsz S' - zsz S) ≤ R.slots) (kk : ZN p l e R s m args below meth c Q dC dI cI cO b base nL pc' L' st' S' M' h' (cells + (S'.length - S.length)) (slots + (zsz S' - zsz S))) : ZN p l e R s m args below meth c Q dC dI cI cO b base nL pc L st S M h cells slots := by
  obtain ⟨hx, hb, hml, hown, hts, hK, hin, hbs⟩ := hC
  obtain ⟨h1, h2⟩ := zlen1 hk
  have h2 := Nat.eq_of_beq_eq_true h2
  subst h1; subst hnx
  simp only [zst] at hst
  split at hst
  · next x r =>
    cases ho : zok L a with
    | false => rw [ho, cond_false] at hst; cases hst
    | true =>
      rw [ho, cond_true] at hst
      obtain ⟨hi, hst⟩ := zput_some hst
      cases hst
      intro hz0 H locs ls hO hS hL hr
      refine lv_istore hx hb hd hL.2.1 (by rw [h2, ← hL.1]; exact hi) rfl (fun ls' hl' => ?_)
      exact zkk kk hz0 H locs ls' hO hS (hL.put (v := .inl x) hi ho (hr _ List.mem_cons_self) (by rw [h2] at hl'; exact hl')) (fun v hv => hr v (List.mem_cons_of_mem _ hv))
  · cases hst

set_option maxHeartbeats 1000000 in
theorem zs_istore_n (hC : ZCx p s m args meth c own cc nL isI dC dI cI cO base) (hX : zSc sc b base s) (hR : fr ≤ R.frames ∧ lo ≤ R.locals) {nx a bb d w len pc pc' : Nat} {cv : Int} {L st L' st' : List ZV} {S S' : Sh} {M M' : Me} {h h' : Ml} {cells slots : Nat} {k : Fin 4} (hd : decode cc pc = .ok (.istore_n k, len)) (hnx : pc + len = nx) (hk : zchk own nL isI ret fr lo pc len (.istore_n k) a bb d cv w = true) (hst : zst sc (.istore_n k, nx, a, bb, d, cv, w) L st S M h = some (pc', L', st', S', M', h')) (hrm : cells + (S'.length - S.length) ≤ R.cells ∧ slots + (zsz S' - zsz S) ≤ R.slots) (kk : ZN p l e R s m args below meth c Q dC dI cI cO b base nL pc' L' st' S' M' h' (cells + (S'.length - S.length)) (slots + (zsz S' - zsz S))) : ZN p l e R s m args below meth c Q dC dI cI cO b base nL pc L st S M h cells slots := by
  obtain ⟨hx, hb, hml, hown, hts, hK, hin, hbs⟩ := hC
  obtain ⟨h1, h2⟩ := zlen1 hk
  have h2 := Nat.eq_of_beq_eq_true h2
  subst h1; subst hnx
  simp only [zst] at hst
  split at hst
  · next x r =>
    cases ho : zok L a with
    | false => rw [ho, cond_false] at hst; cases hst
    | true =>
      rw [ho, cond_true] at hst
      obtain ⟨hi, hst⟩ := zput_some hst
      cases hst
      intro hz0 H locs ls hO hS hL hr
      refine lv_istore_n hx hb hd h2 hL.2.1 (by rw [← hL.1]; exact hi) rfl (fun ls' hl' => ?_)
      exact zkk kk hz0 H locs ls' hO hS (hL.put (v := .inl x) hi ho (hr _ List.mem_cons_self) (by exact hl')) (fun v hv => hr v (List.mem_cons_of_mem _ hv))
  · cases hst

set_option maxHeartbeats 1000000 in
theorem zs_astore (hC : ZCx p s m args meth c own cc nL isI dC dI cI cO base) (hX : zSc sc b base s) (hR : fr ≤ R.frames ∧ lo ≤ R.locals) {nx a bb d w len pc pc' : Nat} {cv : Int} {L st L' st' : List ZV} {S S' : Sh} {M M' : Me} {h h' : Ml} {cells slots : Nat} {k : Nat} (hd : decode cc pc = .ok (.astore k, len)) (hnx : pc + len = nx) (hk : zchk own nL isI ret fr lo pc len (.astore k) a bb d cv w = true) (hst : zst sc (.astore k, nx, a, bb, d, cv, w) L st S M h = some (pc', L', st', S', M', h')) (hrm : cells + (S'.length - S.length) ≤ R.cells ∧ slots + (zsz S' - zsz S) ≤ R.slots) (kk : ZN p l e R s m args below meth c Q dC dI cI cO b base nL pc' L' st' S' M' h' (cells + (S'.length - S.length)) (slots + (zsz S' - zsz S))) : ZN p l e R s m args below meth c Q dC dI cI cO b base nL pc L st S M h cells slots := by
  obtain ⟨hx, hb, hml, hown, hts, hK, hin, hbs⟩ := hC
  obtain ⟨h1, h2⟩ := zlen1 hk
  have h2 := Nat.eq_of_beq_eq_true h2
  subst h1; subst hnx
  simp only [zst] at hst
  split at hst
  · next x r =>
    cases ho : zok L a with
    | false => rw [ho, cond_false] at hst; cases hst
    | true =>
      rw [ho, cond_true] at hst
      obtain ⟨hi, hst⟩ := zput_some hst
      cases hst
      intro hz0 H locs ls hO hS hL hr
      refine lv_astore hx hb hd hL.2.1 (by rw [h2, ← hL.1]; exact hi) rfl (fun ls' hl' => ?_)
      exact zkk kk hz0 H locs ls' hO hS (hL.put (v := zr x) hi ho (hr _ List.mem_cons_self) (by rw [h2] at hl'; exact hl')) (fun v hv => hr v (List.mem_cons_of_mem _ hv))
  · cases hst

set_option maxHeartbeats 1000000 in
theorem zs_astore_n (hC : ZCx p s m args meth c own cc nL isI dC dI cI cO base) (hX : zSc sc b base s) (hR : fr ≤ R.frames ∧ lo ≤ R.locals) {nx a bb d w len pc pc' : Nat} {cv : Int} {L st L' st' : List ZV} {S S' : Sh} {M M' : Me} {h h' : Ml} {cells slots : Nat} {k : Fin 4} (hd : decode cc pc = .ok (.astore_n k, len)) (hnx : pc + len = nx) (hk : zchk own nL isI ret fr lo pc len (.astore_n k) a bb d cv w = true) (hst : zst sc (.astore_n k, nx, a, bb, d, cv, w) L st S M h = some (pc', L', st', S', M', h')) (hrm : cells + (S'.length - S.length) ≤ R.cells ∧ slots + (zsz S' - zsz S) ≤ R.slots) (kk : ZN p l e R s m args below meth c Q dC dI cI cO b base nL pc' L' st' S' M' h' (cells + (S'.length - S.length)) (slots + (zsz S' - zsz S))) : ZN p l e R s m args below meth c Q dC dI cI cO b base nL pc L st S M h cells slots := by
  obtain ⟨hx, hb, hml, hown, hts, hK, hin, hbs⟩ := hC
  obtain ⟨h1, h2⟩ := zlen1 hk
  have h2 := Nat.eq_of_beq_eq_true h2
  subst h1; subst hnx
  simp only [zst] at hst
  split at hst
  · next x r =>
    cases ho : zok L a with
    | false => rw [ho, cond_false] at hst; cases hst
    | true =>
      rw [ho, cond_true] at hst
      obtain ⟨hi, hst⟩ := zput_some hst
      cases hst
      intro hz0 H locs ls hO hS hL hr
      refine lv_astore_n hx hb hd h2 hL.2.1 (by rw [← hL.1]; exact hi) rfl (fun ls' hl' => ?_)
      exact zkk kk hz0 H locs ls' hO hS (hL.put (v := zr x) hi ho (hr _ List.mem_cons_self) (by exact hl')) (fun v hv => hr v (List.mem_cons_of_mem _ hv))
  · cases hst

set_option maxHeartbeats 1000000 in
theorem zs_lstore (hC : ZCx p s m args meth c own cc nL isI dC dI cI cO base) (hX : zSc sc b base s) (hR : fr ≤ R.frames ∧ lo ≤ R.locals) {nx a bb d w len pc pc' : Nat} {cv : Int} {L st L' st' : List ZV} {S S' : Sh} {M M' : Me} {h h' : Ml} {cells slots : Nat} {k : Nat} (hd : decode cc pc = .ok (.lstore k, len)) (hnx : pc + len = nx) (hk : zchk own nL isI ret fr lo pc len (.lstore k) a bb d cv w = true) (hst : zst sc (.lstore k, nx, a, bb, d, cv, w) L st S M h = some (pc', L', st', S', M', h')) (hrm : cells + (S'.length - S.length) ≤ R.cells ∧ slots + (zsz S' - zsz S) ≤ R.slots) (kk : ZN p l e R s m args below meth c Q dC dI cI cO b base nL pc' L' st' S' M' h' (cells + (S'.length - S.length)) (slots + (zsz S' - zsz S))) : ZN p l e R s m args below meth c Q dC dI cI cO b base nL pc L st S M h cells slots := by
  obtain ⟨hx, hb, hml, hown, hts, hK, hin, hbs⟩ := hC
  obtain ⟨h1, h2⟩ := zlen1 hk
  have h2 := Nat.eq_of_beq_eq_true h2
  subst h1; subst hnx
  simp only [zst] at hst
  split at hst
  · next x r =>
    cases ho : zok L a with
    | false => rw [ho, cond_false] at hst; cases hst
    | true =>
      rw [ho, cond_true] at hst
      obtain ⟨hi, hst⟩ := zput_some hst
      obtain ⟨hi2, hst⟩ := zput_some hst
      rw [List.length_set] at hi2
      cases hst
      intro hz0 H locs ls hO hS hL hr
      refine lv_lstore hx hb hd hL.2.1 (by rw [h2, ← hL.1]; exact hi2) rfl (fun ls' hl' => ?_)
      exact zkk kk hz0 H locs ls' hO hS (hL.put2 hi2 ho (by rw [h2] at hl'; exact hl')) (fun v hv => hr v (List.mem_cons_of_mem _ hv))
  · cases hst

set_option maxHeartbeats 1000000 in
theorem zs_lstore_n (hC : ZCx p s m args meth c own cc nL isI dC dI cI cO base) (hX : zSc sc b base s) (hR : fr ≤ R.frames ∧ lo ≤ R.locals) {nx a bb d w len pc pc' : Nat} {cv : Int} {L st L' st' : List ZV} {S S' : Sh} {M M' : Me} {h h' : Ml} {cells slots : Nat} {k : Fin 4} (hd : decode cc pc = .ok (.lstore_n k, len)) (hnx : pc + len = nx) (hk : zchk own nL isI ret fr lo pc len (.lstore_n k) a bb d cv w = true) (hst : zst sc (.lstore_n k, nx, a, bb, d, cv, w) L st S M h = some (pc', L', st', S', M', h')) (hrm : cells + (S'.length - S.length) ≤ R.cells ∧ slots + (zsz S' - zsz S) ≤ R.slots) (kk : ZN p l e R s m args below meth c Q dC dI cI cO b base nL pc' L' st' S' M' h' (cells + (S'.length - S.length)) (slots + (zsz S' - zsz S))) : ZN p l e R s m args below meth c Q dC dI cI cO b base nL pc L st S M h cells slots := by
  obtain ⟨hx, hb, hml, hown, hts, hK, hin, hbs⟩ := hC
  obtain ⟨h1, h2⟩ := zlen1 hk
  have h2 := Nat.eq_of_beq_eq_true h2
  subst h1; subst hnx
  simp only [zst] at hst
  split at hst
  · next x r =>
    cases ho : zok L a with
    | false => rw [ho, cond_false] at hst; cases hst
    | true =>
      rw [ho, cond_true] at hst
      obtain ⟨hi, hst⟩ := zput_some hst
      obtain ⟨hi2, hst⟩ := zput_some hst
      rw [List.length_set] at hi2
      cases hst
      intro hz0 H locs ls hO hS hL hr
      refine lv_lstore_n hx hb hd h2 hL.2.1 (by rw [← hL.1]; exact hi2) rfl (fun ls' hl' => ?_)
      exact zkk kk hz0 H locs ls' hO hS (hL.put2 hi2 ho (by exact hl')) (fun v hv => hr v (List.mem_cons_of_mem _ hv))
  · cases hst

set_option maxHeartbeats 1000000 in
theorem zs_iinc (hC : ZCx p s m args meth c own cc nL isI dC dI cI cO base) (hX : zSc sc b base s) (hR : fr ≤ R.frames ∧ lo ≤ R.locals) {nx a bb d w len pc pc' : Nat} {cv : Int} {L st L' st' : List ZV} {S S' : Sh} {M M' : Me} {h h' : Ml} {cells slots : Nat} {k : Nat} {n : Int} (hd : decode cc pc = .ok (.iinc k n, len)) (hnx : pc + len = nx) (hk : zchk own nL isI ret fr lo pc len (.iinc k n) a bb d cv w = true) (hst : zst sc (.iinc k n, nx, a, bb, d, cv, w) L st S M h = some (pc', L', st', S', M', h')) (hrm : cells + (S'.length - S.length) ≤ R.cells ∧ slots + (zsz S' - zsz S) ≤ R.slots) (kk : ZN p l e R s m args below meth c Q dC dI cI cO b base nL pc' L' st' S' M' h' (cells + (S'.length - S.length)) (slots + (zsz S' - zsz S))) : ZN p l e R s m args below meth c Q dC dI cI cO b base nL pc L st S M h cells slots := by
  obtain ⟨hx, hb, hml, hown, hts, hK, hin, hbs⟩ := hC
  simp only [zchk, Bool.and_eq_true] at hk
  obtain ⟨⟨h1, h2⟩, h3⟩ := hk
  have h1 := Nat.eq_of_beq_eq_true h1
  have h2 := Nat.eq_of_beq_eq_true h2
  have h3 := of_decide_eq_true h3
  subst h1; subst hnx; subst h2; subst h3
  simp only [zst] at hst
  split at hst
  · next x hz =>
    cases ho : zok L k with
    | false => rw [ho, cond_false] at hst; cases hst
    | true =>
      rw [ho, cond_true] at hst
      obtain ⟨hi, hst⟩ := zput_some hst
      cases hst
      intro hz0 H locs ls hO hS hL hr
      rw [zgt_eq] at hz
      obtain ⟨j, hj⟩ := List.getElem?_of_mem (asL_mem (b := b) (base := base).mpr ⟨.inl x, hz, (by intro q; cases q), rfl⟩)
      refine lv_iinc hx hb hd hL.2.1 hj (zI_add x cv).symm (by rw [← hL.1]; exact hi) rfl (fun ls' hl' => ?_)
      exact zkk kk hz0 H locs ls' hO hS (hL.put (v := .inl (w32 (x + cv))) hi ho (w32_rn _) hl') hr
  · cases hst

set_option maxHeartbeats 1000000 in
theorem zs_ineg (hC : ZCx p s m args meth c own cc nL isI dC dI cI cO base) (hX : zSc sc b base s) (hR : fr ≤ R.frames ∧ lo ≤ R.locals) {nx a bb d w len pc pc' : Nat} {cv : Int} {L st L' st' : List ZV} {S S' : Sh} {M M' : Me} {h h' : Ml} {cells slots : Nat} (hd : decode cc pc = .ok (.ineg, len)) (hnx : pc + len = nx) (hk : zchk own nL isI ret fr lo pc len (.ineg) a bb d cv w = true) (hst : zst sc (.ineg, nx, a, bb, d, cv, w) L st S M h = some (pc', L', st', S', M', h')) (hrm : cells + (S'.length - S.length) ≤ R.cells ∧ slots + (zsz S' - zsz S) ≤ R.slots) (kk : ZN p l e R s m args below meth c Q dC dI cI cO b base nL pc' L' st' S' M' h' (cells + (S'.length - S.length)) (slots + (zsz S' - zsz S))) : ZN p l e R s m args below meth c Q dC dI cI cO b base nL pc L st S M h cells slots := by
  obtain ⟨hx, hb, hml, hown, hts, hK, hin, hbs⟩ := hC
  have h1 := Nat.eq_of_beq_eq_true hk
  subst h1; subst hnx
  simp only [zst] at hst
  split at hst
  · next x r =>
    cases hst
    intro hz0 H locs ls hO hS hL hr
    have hx1 : zrn x := hr (.inl x) List.mem_cons_self
    refine lv_ineg hx hb hd ?_
    rw [← zI_neg]
    exact zkk kk hz0 H locs ls hO hS hL (fun v hv => by
      rcases List.mem_cons.mp hv with e2 | e2
      · subst e2; exact w32_rn _
      · exact hr v (List.mem_cons_of_mem _ e2))
  · cases hst

set_option maxHeartbeats 1000000 in
theorem zs_i2l (hC : ZCx p s m args meth c own cc nL isI dC dI cI cO base) (hX : zSc sc b base s) (hR : fr ≤ R.frames ∧ lo ≤ R.locals) {nx a bb d w len pc pc' : Nat} {cv : Int} {L st L' st' : List ZV} {S S' : Sh} {M M' : Me} {h h' : Ml} {cells slots : Nat} (hd : decode cc pc = .ok (.i2l, len)) (hnx : pc + len = nx) (hk : zchk own nL isI ret fr lo pc len (.i2l) a bb d cv w = true) (hst : zst sc (.i2l, nx, a, bb, d, cv, w) L st S M h = some (pc', L', st', S', M', h')) (hrm : cells + (S'.length - S.length) ≤ R.cells ∧ slots + (zsz S' - zsz S) ≤ R.slots) (kk : ZN p l e R s m args below meth c Q dC dI cI cO b base nL pc' L' st' S' M' h' (cells + (S'.length - S.length)) (slots + (zsz S' - zsz S))) : ZN p l e R s m args below meth c Q dC dI cI cO b base nL pc L st S M h cells slots := by
  obtain ⟨hx, hb, hml, hown, hts, hK, hin, hbs⟩ := hC
  have h1 := Nat.eq_of_beq_eq_true hk
  subst h1; subst hnx
  simp only [zst] at hst
  split at hst
  · next x r =>
    cases hst
    intro hz0 H locs ls hO hS hL hr
    have hx1 : zrn x := hr (.inl x) List.mem_cons_self
    refine lv_i2l hx hb hd (zI_i2l hx1) ?_
    exact zkk kk hz0 H locs ls hO hS hL (fun v hv => by
      rcases List.mem_cons.mp hv with e2 | e2
      · subst e2; exact trivial
      · exact hr v (List.mem_cons_of_mem _ e2))
  · cases hst

set_option maxHeartbeats 1000000 in
theorem zs_lmul (hC : ZCx p s m args meth c own cc nL isI dC dI cI cO base) (hX : zSc sc b base s) (hR : fr ≤ R.frames ∧ lo ≤ R.locals) {nx a bb d w len pc pc' : Nat} {cv : Int} {L st L' st' : List ZV} {S S' : Sh} {M M' : Me} {h h' : Ml} {cells slots : Nat} (hd : decode cc pc = .ok (.lmul, len)) (hnx : pc + len = nx) (hk : zchk own nL isI ret fr lo pc len (.lmul) a bb d cv w = true) (hst : zst sc (.lmul, nx, a, bb, d, cv, w) L st S M h = some (pc', L', st', S', M', h')) (hrm : cells + (S'.length - S.length) ≤ R.cells ∧ slots + (zsz S' - zsz S) ≤ R.slots) (kk : ZN p l e R s m args below meth c Q dC dI cI cO b base nL pc' L' st' S' M' h' (cells + (S'.length - S.length)) (slots + (zsz S' - zsz S))) : ZN p l e R s m args below meth c Q dC dI cI cO b base nL pc L st S M h cells slots := by
  obtain ⟨hx, hb, hml, hown, hts, hK, hin, hbs⟩ := hC
  have h1 := Nat.eq_of_beq_eq_true hk
  subst h1; subst hnx
  simp only [zst] at hst
  split at hst
  · next y x r =>
    cases hst
    intro hz0 H locs ls hO hS hL hr
    refine lv_lmul hx hb hd ?_
    exact zkk kk hz0 H locs ls hO hS hL (fun v hv => by
      rcases List.mem_cons.mp hv with e2 | e2
      · subst e2; exact trivial
      · exact hr v (List.mem_cons_of_mem _ (List.mem_cons_of_mem _ e2)))
  · cases hst

set_option maxHeartbeats 1000000 in
theorem zs_ladd (hC : ZCx p s m args meth c own cc nL isI dC dI cI cO base) (hX : zSc sc b base s) (hR : fr ≤ R.frames ∧ lo ≤ R.locals) {nx a bb d w len pc pc' : Nat} {cv : Int} {L st L' st' : List ZV} {S S' : Sh} {M M' : Me} {h h' : Ml} {cells slots : Nat} (hd : decode cc pc = .ok (.ladd, len)) (hnx : pc + len = nx) (hk : zchk own nL isI ret fr lo pc len (.ladd) a bb d cv w = true) (hst : zst sc (.ladd, nx, a, bb, d, cv, w) L st S M h = some (pc', L', st', S', M', h')) (hrm : cells + (S'.length - S.length) ≤ R.cells ∧ slots + (zsz S' - zsz S) ≤ R.slots) (kk : ZN p l e R s m args below meth c Q dC dI cI cO b base nL pc' L' st' S' M' h' (cells + (S'.length - S.length)) (slots + (zsz S' - zsz S))) : ZN p l e R s m args below meth c Q dC dI cI cO b base nL pc L st S M h cells slots := by
  obtain ⟨hx, hb, hml, hown, hts, hK, hin, hbs⟩ := hC
  have h1 := Nat.eq_of_beq_eq_true hk
  subst h1; subst hnx
  simp only [zst] at hst
  split at hst
  · next y x r =>
    cases hst
    intro hz0 H locs ls hO hS hL hr
    refine lv_ladd hx hb hd ?_
    exact zkk kk hz0 H locs ls hO hS hL (fun v hv => by
      rcases List.mem_cons.mp hv with e2 | e2
      · subst e2; exact trivial
      · exact hr v (List.mem_cons_of_mem _ (List.mem_cons_of_mem _ e2)))
  · cases hst

set_option maxHeartbeats 1000000 in
theorem zs_lcmp (hC : ZCx p s m args meth c own cc nL isI dC dI cI cO base) (hX : zSc sc b base s) (hR : fr ≤ R.frames ∧ lo ≤ R.locals) {nx a bb d w len pc pc' : Nat} {cv : Int} {L st L' st' : List ZV} {S S' : Sh} {M M' : Me} {h h' : Ml} {cells slots : Nat} (hd : decode cc pc = .ok (.lcmp, len)) (hnx : pc + len = nx) (hk : zchk own nL isI ret fr lo pc len (.lcmp) a bb d cv w = true) (hst : zst sc (.lcmp, nx, a, bb, d, cv, w) L st S M h = some (pc', L', st', S', M', h')) (hrm : cells + (S'.length - S.length) ≤ R.cells ∧ slots + (zsz S' - zsz S) ≤ R.slots) (kk : ZN p l e R s m args below meth c Q dC dI cI cO b base nL pc' L' st' S' M' h' (cells + (S'.length - S.length)) (slots + (zsz S' - zsz S))) : ZN p l e R s m args below meth c Q dC dI cI cO b base nL pc L st S M h cells slots := by
  obtain ⟨hx, hb, hml, hown, hts, hK, hin, hbs⟩ := hC
  have h1 := Nat.eq_of_beq_eq_true hk
  subst h1; subst hnx
  simp only [zst] at hst
  split at hst
  · next y x r =>
    cases hst
    intro hz0 H locs ls hO hS hL hr
    refine W.lcmp hx hb hd ?_
    rw [← (zI_lcmp x y).1]
    exact zkk kk hz0 H locs ls hO hS hL (fun v hv => by
      rcases List.mem_cons.mp hv with e2 | e2
      · subst e2; exact (zI_lcmp x y).2
      · exact hr v (List.mem_cons_of_mem _ (List.mem_cons_of_mem _ e2)))
  · cases hst

set_option maxHeartbeats 1000000 in
theorem zs_dup (hC : ZCx p s m args meth c own cc nL isI dC dI cI cO base) (hX : zSc sc b base s) (hR : fr ≤ R.frames ∧ lo ≤ R.locals) {nx a bb d w len pc pc' : Nat} {cv : Int} {L st L' st' : List ZV} {S S' : Sh} {M M' : Me} {h h' : Ml} {cells slots : Nat} (hd : decode cc pc = .ok (.dup, len)) (hnx : pc + len = nx) (hk : zchk own nL isI ret fr lo pc len (.dup) a bb d cv w = true) (hst : zst sc (.dup, nx, a, bb, d, cv, w) L st S M h = some (pc', L', st', S', M', h')) (hrm : cells + (S'.length - S.length) ≤ R.cells ∧ slots + (zsz S' - zsz S) ≤ R.slots) (kk : ZN p l e R s m args below meth c Q dC dI cI cO b base nL pc' L' st' S' M' h' (cells + (S'.length - S.length)) (slots + (zsz S' - zsz S))) : ZN p l e R s m args below meth c Q dC dI cI cO b base nL pc L st S M h cells slots := by
  obtain ⟨hx, hb, hml, hown, hts, hK, hin, hbs⟩ := hC
  have h1 := Nat.eq_of_beq_eq_true hk
  subst h1; subst hnx
  simp only [zst] at hst
  split at hst
  · next v r =>
    cases hc1 : Nat.beq (zcat v) 1 with
    | false => rw [hc1, cond_false] at hst; cases hst
    | true =>
      rw [hc1, cond_true] at hst
      cases hst
      intro hz0 H locs ls hO hS hL hr
      refine lv_dup hx hb hd (by rw [zv_cat]; exact Nat.eq_of_beq_eq_true hc1) ?_
      exact zkk kk hz0 H locs ls hO hS hL (fun u hu => by
        rcases List.mem_cons.mp hu with e2 | e2
        · subst e2; exact hr _ List.mem_cons_self
        · exact hr u e2)
  · cases hst

set_option maxHeartbeats 1000000 in
theorem zs_pop (hC : ZCx p s m args meth c own cc nL isI dC dI cI cO base) (hX : zSc sc b base s) (hR : fr ≤ R.frames ∧ lo ≤ R.locals) {nx a bb d w len pc pc' : Nat} {cv : Int} {L st L' st' : List ZV} {S S' : Sh} {M M' : Me} {h h' : Ml} {cells slots : Nat} (hd : decode cc pc = .ok (.pop, len)) (hnx : pc + len = nx) (hk : zchk own nL isI ret fr lo pc len (.pop) a bb d cv w = true) (hst : zst sc (.pop, nx, a, bb, d, cv, w) L st S M h = some (pc', L', st', S', M', h')) (hrm : cells + (S'.length - S.length) ≤ R.cells ∧ slots + (zsz S' - zsz S) ≤ R.slots) (kk : ZN p l e R s m args below meth c Q dC dI cI cO b base nL pc' L' st' S' M' h' (cells + (S'.length - S.length)) (slots + (zsz S' - zsz S))) : ZN p l e R s m args below meth c Q dC dI cI cO b base nL pc L st S M h cells slots := by
  obtain ⟨hx, hb, hml, hown, hts, hK, hin, hbs⟩ := hC
  have h1 := Nat.eq_of_beq_eq_true hk
  subst h1; subst hnx
  simp only [zst] at hst
  split at hst
  · next v r =>
    cases hc1 : Nat.beq (zcat v) 1 with
    | false => rw [hc1, cond_false] at hst; cases hst
    | true =>
      rw [hc1, cond_true] at hst
      cases hst
      intro hz0 H locs ls hO hS hL hr
      refine lv_pop hx hb hd (by rw [zv_cat]; exact Nat.eq_of_beq_eq_true hc1) ?_
      exact zkk kk hz0 H locs ls hO hS hL (fun u hu => hr u (List.mem_cons_of_mem _ hu))
  · cases hst

set_option maxHeartbeats 1000000 in
theorem zs_dup2 (hC : ZCx p s m args meth c own cc nL isI dC dI cI cO base) (hX : zSc sc b base s) (hR : fr ≤ R.frames ∧ lo ≤ R.locals) {nx a bb d w len pc pc' : Nat} {cv : Int} {L st L' st' : List ZV} {S S' : Sh} {M M' : Me} {h h' : Ml} {cells slots : Nat} (hd : decode cc pc = .ok (.dup2, len)) (hnx : pc + len = nx) (hk : zchk own nL isI ret fr lo pc len (.dup2) a bb d cv w = true) (hst : zst sc (.dup2, nx, a, bb, d, cv, w) L st S M h = some (pc', L', st', S', M', h')) (hrm : cells + (S'.length - S.length) ≤ R.cells ∧ slots + (zsz S' - zsz S) ≤ R.slots) (kk : ZN p l e R s m args below meth c Q dC dI cI cO b base nL pc' L' st' S' M' h' (cells + (S'.length - S.length)) (slots + (zsz S' - zsz S))) : ZN p l e R s m args below meth c Q dC dI cI cO b base nL pc L st S M h cells slots := by
  obtain ⟨hx, hb, hml, hown, hts, hK, hin, hbs⟩ := hC
  have h1 := Nat.eq_of_beq_eq_true hk
  subst h1; subst hnx
  simp only [zst] at hst
  split at hst
  · next v u r =>
    cases hc1 : Nat.beq (zcat v) 1 with
    | false => rw [hc1, cond_false] at hst; cases hst
    | true =>
      cases hc2 : Nat.beq (zcat u) 1 with
      | false => rw [hc1, hc2, cond_true, cond_false] at hst; cases hst
      | true =>
        rw [hc1, hc2, cond_true, cond_true] at hst
        cases hst
        intro hz0 H locs ls hO hS hL hr
        refine lv_dup2_11 hx hb hd (by rw [zv_cat]; exact Nat.eq_of_beq_eq_true hc1) (by rw [zv_cat]; exact Nat.eq_of_beq_eq_true hc2) ?_
        exact zkk kk hz0 H locs ls hO hS hL (fun q hq => by
          rcases List.mem_cons.mp hq with e2 | e2
          · subst e2; exact hr _ List.mem_cons_self
          rcases List.mem_cons.mp e2 with e2 | e2
          · subst e2; exact hr _ (List.mem_cons_of_mem _ List.mem_cons_self)
          · exact hr q e2)
  · cases hst

set_option maxHeartbeats 1000000 in
theorem zs_goto (hC : ZCx p s m args meth c own cc nL isI dC dI cI cO base) (hX : zSc sc b base s) (hR : fr ≤ R.frames ∧ lo ≤ R.locals) {nx a bb d w len pc pc' : Nat} {cv : Int} {L st L' st' : List ZV} {S S' : Sh} {M M' : Me} {h h' : Ml} {cells slots : Nat} {off : Int} (hd : decode cc pc = .ok (.goto off, len)) (hnx : pc + len = nx) (hk : zchk own nL isI ret fr lo pc len (.goto off) a bb d cv w = true) (hst : zst sc (.goto off, nx, a, bb, d, cv, w) L st S M h = some (pc', L', st', S', M', h')) (hrm : cells + (S'.length - S.length) ≤ R.cells ∧ slots + (zsz S' - zsz S) ≤ R.slots) (kk : ZN p l e R s m args below meth c Q dC dI cI cO b base nL pc' L' st' S' M' h' (cells + (S'.length - S.length)) (slots + (zsz S' - zsz S))) : ZN p l e R s m args below meth c Q dC dI cI cO b base nL pc L st S M h cells slots := by
  obtain ⟨hx, hb, hml, hown, hts, hK, hin, hbs⟩ := hC
  obtain ⟨h1, h2⟩ := zlen1 hk
  have h2 := of_decide_eq_true h2
  simp only [zst] at hst
  cases hst
  subst h1
  intro hz0 H locs ls hO hS hL hr
  refine lv_goto hx hb hd h2 ?_
  exact zkk kk hz0 H locs ls hO hS hL hr

set_option maxHeartbeats 1000000 in
theorem zs_ifnonnull (hC : ZCx p s m args meth c own cc nL isI dC dI cI cO base) (hX : zSc sc b base s) (hR : fr ≤ R.frames ∧ lo ≤ R.locals) {nx a bb d w len pc pc' : Nat} {cv : Int} {L st L' st' : List ZV} {S S' : Sh} {M M' : Me} {h h' : Ml} {cells slots : Nat} {off : Int} (hd : decode cc pc = .ok (.ifnonnull off, len)) (hnx : pc + len = nx) (hk : zchk own nL isI ret fr lo pc len (.ifnonnull off) a bb d cv w = true) (hst : zst sc (.ifnonnull off, nx, a, bb, d, cv, w) L st S M h = some (pc', L', st', S', M', h')) (hrm : cells + (S'.length - S.length) ≤ R.cells ∧ slots + (zsz S' - zsz S) ≤ R.slots) (kk : ZN p l e R s m args below meth c Q dC dI cI cO b base nL pc' L' st' S' M' h' (cells + (S'.length - S.length)) (slots + (zsz S' - zsz S))) : ZN p l e R s m args below meth c Q dC dI cI cO b base nL pc L st S M h cells slots := by
  obtain ⟨hx, hb, hml, hown, hts, hK, hin, hbs⟩ := hC
  obtain ⟨h1, h2⟩ := zlen1 hk
  have h2 := of_decide_eq_true h2
  subst h1; subst hnx
  simp only [zst] at hst
  split at hst
  · next x r =>
    cases hst
    intro hz0 H locs ls hO hS hL hr
    refine lv_ifnonnull hx hb hd h2 ?_
    exact zkk kk hz0 H locs ls hO hS hL (fun u hu => hr u (List.mem_cons_of_mem _ hu))
  · next r =>
    cases hst
    intro hz0 H locs ls hO hS hL hr
    refine lv_ifnonnullN hx hb hd ?_
    exact zkk kk hz0 H locs ls hO hS hL (fun u hu => hr u (List.mem_cons_of_mem _ hu))
  · cases hst

end ZST
end
section
section ZBR
variable {p : Program} {l : Launch} {e : Env} {R : Room} {s : State} {m : MethodId} {args : Array Value} {below : List Frame} {meth : Method} {c : Code} {Q : State → Prop} {dC : Nat → ClassId} {dI : Nat → Nat → Nat} {cI cO : ClassId} {b base : Nat} {own : String} {cc : ByteArray} {nL : Nat} {isI : Bool} {ret : Option FieldType} {fr lo : Nat} {sc : Sc}
theorem W.sized {H : Heap} {locs : List Loc} {cells slots : Nat} {g : JFrame} (k : H.size ≤ s.heap.size + cells → W p l e R s m args below meth c H locs cells slots Q g) : W p l e R s m args below meth c H locs cells slots Q g := fun T hT X => k (by rw [← hT]; exact X.heapSize) T hT X
theorem WO.low {S : Sh} {M : Me} {h : Ml} {H : Heap} {locs : List Loc} (hO : WO dC dI cI cO base S M h H) (hS : va_S (fun q => base ≤ q) s.heap H locs) (hbs : base ≤ s.heap.size) : base + S.length ≤ H.size := by
  rcases Nat.eq_zero_or_pos S.length with h0 | h0
  · have := hS.1; omega
  · have h1 : S.length - 1 < S.length := by omega
    have h2 : (zws cI cO base S M h)[S.length - 1]? = some (base + (S.length - 1), zce cI cO base M h (S.length - 1) S[S.length - 1]) := by
      rw [zws_at, List.getElem?_eq_getElem h1]; rfl
    have h3 := (hO.1 _ _ h2).lt
    have h4 : base + (S.length - 1) < H.size := h3
    omega
theorem zce_obj {M : Me} {h : Ml} {k a n : Nat} {rs : List (Option Nat)} (ha : a < 8) : zce cI cO base M h k (a, n, rs) = .inr (a, (zFK a).mapIdx (zfv base M h k rs)) := by
  unfold zce
  rw [if_neg (by show ¬ a = 100; omega), if_neg (by show ¬ a = 101; omega)]
theorem zws_get {S : Sh} {M : Me} {h : Ml} {k : Nat} {q : Nat × Nat × List (Option Nat)} (hz : zgt S k = some q) : (zws cI cO base S M h)[k]? = some (base + k, zce cI cO base M h k q) ∧ k < S.length := by
  rw [zgt_eq] at hz
  exact ⟨by rw [zws_at, hz]; rfl, (List.getElem?_eq_some_iff.mp hz).1⟩
theorem zfs_at {M : Me} {h : Ml} {k : Nat} {rs : List (Option Nat)} {fk : List Nat} {j d : Nat} (hd : zgt fk j = some d) : (fk.mapIdx (zfv base M h k rs))[j]? = some (zfv base M h k rs j d) := by
  rw [zgt_eq] at hd
  rw [List.getElem?_mapIdx, hd]; rfl
theorem zfs_set {M M' : Me} {h h' : Ml} {k : Nat} {rs rs' : List (Option Nat)} {fk : List Nat} {j d : Nat} {v : Value} (hd : zgt fk j = some d) (hv : zfv base M' h' k rs' j d = v) (ho : ∀ i d', i ≠ j → zgt fk i = some d' → zfv base M' h' k rs' i d' = zfv base M h k rs i d') : (fk.mapIdx (zfv base M h k rs)).set j v = fk.mapIdx (zfv base M' h' k rs') := by
  rw [zgt_eq] at hd
  apply List.ext_getElem?
  intro i
  rw [List.getElem?_set, List.getElem?_mapIdx, List.getElem?_mapIdx, List.length_mapIdx]
  by_cases hi : j = i
  · subst hi
    rw [if_pos rfl, if_pos (List.getElem?_eq_some_iff.mp hd).1, hd, ← hv]; rfl
  · rw [if_neg hi]
    cases hc : fk[i]? with
    | none => rfl
    | some d' =>
      have := ho i d' (fun e => hi e.symm) (by rw [zgt_eq]; exact hc)
      simp [this]
theorem zfv_2 {M : Me} {h : Ml} {k : Nat} {rs : List (Option Nat)} {j d : Nat} (d0 : d = 0 → False) (d1 : d = 1 → False) : zfv base M h k rs j d = .long (h k) := by
  rcases d with _ | _ | d
  · exact absurd rfl d0
  · exact absurd rfl d1
  · rfl
theorem zlong : ∀ a, a < 8 → ∀ j, j < 12 → (match zgt (zFK a) j with | some (_ + 2) => decide (a = 8 ∧ j = 9) | _ => true) = true := by decide +kernel
theorem zlong' {a j d : Nat} (ha : a < 8) (h : zgt (zFK a) j = some (d + 2)) : a = 8 ∧ j = 9 := by
  have hj : j < 12 := by
    have h1 : ∀ a, a < 8 → (zFK a).length ≤ 12 := by decide +kernel
    rw [zgt_eq] at h
    have := (List.getElem?_eq_some_iff.mp h).1
    have := h1 a ha
    omega
  have := zlong a ha j hj
  rw [h] at this
  exact of_decide_eq_true this
theorem zd2 {a j d : Nat} {C : String} {T : u_T} {N : Nat} (ha : vwCl[a]? = some (C, T, N)) (h : zgt (zFK a) j = some d) : a < 8 ∧ d ≤ 2 := by
  have h9 : a < 8 := (List.getElem?_eq_some_iff.mp ha).1
  refine ⟨h9, ?_⟩
  have h1 : ∀ a, a < 8 → ∀ d ∈ zFK a, d ≤ 2 := by decide +kernel
  rw [zgt_eq] at h
  exact h1 a h9 d (List.mem_of_getElem? h)
theorem WO.putM {S : Sh} {M M' : Me} {h h' : Ml} {H H1 : Heap} {k : Nat} {s' : Nat × Nat × List (Option Nat)} (hO : WO dC dI cI cO base S M h H) (hk : k < S.length) (hM : ∀ a, a ≠ k → M' a = M a) (hh : ∀ a, a ≠ k → h' a = h a) (hr : ∀ j, zrn (M' k j)) (hP : va_P (dC, dI) vwCl ((zws cI cO base S M h).set k (base + k, zce cI cO base M' h' k s')) H1) : WO dC dI cI cO base (S.set k s') M' h' H1 := by
  refine ⟨by rw [← zws_set hk rfl hM hh]; exact hP, fun a j => ?_, fun a ha => ?_⟩
  · by_cases e : a = k
    · subst e; exact hr j
    · rw [hM a e]; exact hO.2.1 a j
  · rw [List.length_set] at ha
    have e : a ≠ k := by omega
    rw [hM a e, hh a e]
    exact hO.2.2 a ha
theorem zset_self {S : Sh} {k : Nat} {q : Nat × Nat × List (Option Nat)} (h : zgt S k = some q) : S.set k q = S := by
  rw [zgt_eq] at h
  apply List.ext_getElem?
  intro j
  rw [List.getElem?_set]
  by_cases e : k = j
  · subst e
    rw [if_pos rfl, if_pos (List.getElem?_eq_some_iff.mp h).1, h]
  · rw [if_neg e]
set_option maxHeartbeats 1000000 in
theorem zs_arraylength (hC : ZCx p s m args meth c own cc nL isI dC dI cI cO base) (hX : zSc sc b base s) (hR : fr ≤ R.frames ∧ lo ≤ R.locals) {nx a bb d w len pc pc' : Nat} {cv : Int} {L st L' st' : List ZV} {S S' : Sh} {M M' : Me} {h h' : Ml} {cells slots : Nat} (hd : decode cc pc = .ok (.arraylength, len)) (hnx : pc + len = nx) (hk : zchk own nL isI ret fr lo pc len (.arraylength) a bb d cv w = true) (hst : zst sc (.arraylength, nx, a, bb, d, cv, w) L st S M h = some (pc', L', st', S', M', h')) (hrm : cells + (S'.length - S.length) ≤ R.cells ∧ slots + (zsz S' - zsz S) ≤ R.slots) (kk : ZN p l e R s m args below meth c Q dC dI cI cO b base nL pc' L' st' S' M' h' (cells + (S'.length - S.length)) (slots + (zsz S' - zsz S))) : ZN p l e R s m args below meth c Q dC dI cI cO b base nL pc L st S M h cells slots := by
  obtain ⟨hx, hb, hml, hown, hts, hK, hin, hbs⟩ := hC
  have h1 := Nat.eq_of_beq_eq_true hk
  subst h1; subst hnx
  simp only [zst] at hst
  split at hst
  · next k r =>
    split at hst
    · next cl n rs hz =>
      cases hc1 : (Nat.beq cl 100 || Nat.beq cl 101) with
      | false => rw [hc1, cond_false] at hst; cases hst
      | true =>
        cases hc2 : Nat.ble n 100000 with
        | false => rw [hc1, hc2, cond_true, cond_false] at hst; cases hst
        | true =>
          rw [hc1, hc2, cond_true, cond_true] at hst
          cases hst
          intro hz0 H locs ls hO hS hL hr
          have hn := Nat.le_of_ble_eq_true hc2
          have hw := (zws_get (cI := cI) (cO := cO) (base := base) (M := M) (h := h) hz).1
          have fin : W p l e R s m args below meth c H locs cells slots Q (F0 m (pc + 1) ls (.int (Int32.ofInt (n : Int)) :: r.map (zv b base))) := zkk kk hz0 H locs ls hO hS hL (fun v hv => by
      rcases List.mem_cons.mp hv with e2 | e2
      · subst e2; exact zrn_nat hn
      · exact hr v (List.mem_cons_of_mem _ e2))
          rw [Bool.or_eq_true] at hc1
          rcases hc1 with hc1 | hc1
          · have e1 := Nat.eq_of_beq_eq_true hc1
            subst e1
            exact va_alen (ty := .int) hx hb hK.1 hO.1 k 0 hw rfl rfl hd fin
          · have e1 := Nat.eq_of_beq_eq_true hc1
            subst e1
            exact va_alen (ty := .object zOff) hx hb hK.1 hO.1 k 1 hw rfl rfl hd fin
    · cases hst
  · next r =>
    split at hst
    · next n xs =>
      cases hst
      obtain ⟨hXX, hbl, hbb, hxs, hn⟩ := hX
      intro hz0 H locs ls hO hS hL hr
      exact va_slen hx hb hXX hbl (Nat.not_le.mpr hbb) hS hd (zkk kk hz0 H locs ls hO hS hL (fun v hv => by
      rcases List.mem_cons.mp hv with e2 | e2
      · subst e2; exact zrn_nat hn
      · exact hr v (List.mem_cons_of_mem _ e2)))
    · cases hst
  · cases hst

set_option maxHeartbeats 1000000 in
theorem zs_getfield (hC : ZCx p s m args meth c own cc nL isI dC dI cI cO base) (hX : zSc sc b base s) (hR : fr ≤ R.frames ∧ lo ≤ R.locals) {nx a bb d w len pc pc' : Nat} {cv : Int} {L st L' st' : List ZV} {S S' : Sh} {M M' : Me} {h h' : Ml} {cells slots : Nat} {k : Nat} (hd : decode cc pc = .ok (.getfield k, len)) (hnx : pc + len = nx) (hk : zchk own nL isI ret fr lo pc len (.getfield k) a bb d cv w = true) (hst : zst sc (.getfield k, nx, a, bb, d, cv, w) L st S M h = some (pc', L', st', S', M', h')) (hrm : cells + (S'.length - S.length) ≤ R.cells ∧ slots + (zsz S' - zsz S) ≤ R.slots) (kk : ZN p l e R s m args below meth c Q dC dI cI cO b base nL pc' L' st' S' M' h' (cells + (S'.length - S.length)) (slots + (zsz S' - zsz S))) : ZN p l e R s m args below meth c Q dC dI cI cO b base nL pc L st S M h cells slots := by
  obtain ⟨hx, hb, hml, hown, hts, hK, hin, hbs⟩ := hC
  obtain ⟨h1, h2⟩ := zlen1 hk
  subst h1; subst hnx
  split at h2
  · next C T N hcl =>
    simp only [Bool.and_eq_true] at h2
    obtain ⟨⟨h2, h3⟩, h4⟩ := h2
    have h2 := of_decide_eq_true h2
    have h3 := zin_mem h3
    have h4 := of_decide_eq_true h4
    obtain ⟨ty, -, hws, hty, hnm, hlen, htk⟩ := zcls hcl
    obtain ⟨ha9, hd2⟩ := zd2 hcl h4
    simp only [zst] at hst
    split at hst
    · next q r =>
      split at hst
      · next cl n rs hz =>
        cases hc1 : Nat.beq cl a with
        | false => rw [hc1, cond_false] at hst; cases hst
        | true =>
          rw [hc1, cond_true] at hst
          have e1 := Nat.eq_of_beq_eq_true hc1
          subst e1
          have main : ∀ (u : ZV), zv b base u = zfv base M h q rs bb d → ((∀ k j, zrn (M k j)) → zrv u) → (pc + 3, L, u :: r, S, M, h) = (pc', L', st', S', M', h') → ZN p l e R s m args below meth c Q dC dI cI cO b base nL pc L (.inr (.inr (.inl q)) :: r) S M h cells slots := by
            intro u hu hur hst
            cases hst
            intro hz0 H locs ls hO hS hL hr
            have hw := (zws_get (cI := cI) (cO := cO) (base := base) (M := M) (h := h) hz).1
            rw [zce_obj ha9] at hw
            refine va_get (own := own) hx hb hts hws hown hK.1 hO.1 q hw hcl bb h2 (hts _ h3) (fun _ h9 => h9) (zfs_at h4) hd ?_
            rw [← hu]
            exact zkk kk hz0 H locs ls hO hS hL (fun v hv => by
      rcases List.mem_cons.mp hv with e2 | e2
      · subst e2; exact hur hO.2.1
      · exact hr v (List.mem_cons_of_mem _ e2))
          split at hst
          · exact main (.inl (M q bb)) rfl (fun g => g q bb) (Option.some.inj hst)
          · split at hst
            · next q2 hz2 => exact main (.inr (.inr (.inl q2))) (by unfold zfv; rw [hz2]; rfl) (fun _ => trivial) (Option.some.inj hst)
            · cases hst
          · next d0 d1 => exact main (.inr (.inl (h q))) (zfv_2 d0 d1).symm (fun _ => trivial) (Option.some.inj hst)
      · cases hst
    · cases hst
  · cases h2

theorem zsz_set {S : Sh} {k : Nat} {q q' : Nat × Nat × List (Option Nat)} (h : zgt S k = some q) (hq : (if q'.1 = 100 ∨ q'.1 = 101 then q'.2.1 else q'.2.2.length) = if q.1 = 100 ∨ q.1 = 101 then q.2.1 else q.2.2.length) : zsz (S.set k q') = zsz S := by
  unfold zsz
  congr 1
  apply List.ext_getElem?
  intro j
  rw [List.getElem?_map, List.getElem?_map, List.getElem?_set]
  rw [zgt_eq] at h
  by_cases e : k = j
  · subst e
    rw [if_pos rfl, if_pos (List.getElem?_eq_some_iff.mp h).1, h]
    simp only [Option.map_some]
    rw [hq]
  · rw [if_neg e]
theorem zsz_app {S : Sh} {q : Nat × Nat × List (Option Nat)} : zsz (S ++ [q]) = zsz S + if q.1 = 100 ∨ q.1 = 101 then q.2.1 else q.2.2.length := by
  unfold zsz
  rw [List.map_append, List.sum_append]
  simp
theorem zTy0 {t : FieldType} (h : zTyOk 0 t = true) : t = .int := by cases t <;> first | rfl | cases h
theorem zTy2 {t : FieldType} (h : zTyOk 2 t = true) : t = .long := by cases t <;> first | rfl | cases h
theorem zTy1 {t : FieldType} (h : zTyOk 1 t = true) (a : Addr) : narrow t (.ref a) = .ref a ∧ fits t (.ref a) = true ∧ defaultValue t = .null := by cases t <;> first | exact ⟨rfl, rfl, rfl⟩ | cases h
theorem upd2_ne {M : Me} {k j a : Nat} {v : Int} (h : a ≠ k) : upd2 M k j v a = M a := by
  funext i
  unfold upd2
  rw [if_neg (fun q => h q.1)]
theorem upd2_at {M : Me} {k j : Nat} {v : Int} : upd2 M k j v k j = v := by
  unfold upd2
  rw [if_pos ⟨rfl, rfl⟩]
theorem upd2_off {M : Me} {k j i : Nat} {v : Int} (h : i ≠ j) : upd2 M k j v k i = M k i := by
  unfold upd2
  rw [if_neg (fun q => h q.2)]
set_option maxHeartbeats 1000000 in
theorem zs_putfield (hC : ZCx p s m args meth c own cc nL isI dC dI cI cO base) (hX : zSc sc b base s) (hR : fr ≤ R.frames ∧ lo ≤ R.locals) {nx a bb d w len pc pc' : Nat} {cv : Int} {L st L' st' : List ZV} {S S' : Sh} {M M' : Me} {h h' : Ml} {cells slots : Nat} {k : Nat} (hd : decode cc pc = .ok (.putfield k, len)) (hnx : pc + len = nx) (hk : zchk own nL isI ret fr lo pc len (.putfield k) a bb d cv w = true) (hst : zst sc (.putfield k, nx, a, bb, d, cv, w) L st S M h = some (pc', L', st', S', M', h')) (hrm : cells + (S'.length - S.length) ≤ R.cells ∧ slots + (zsz S' - zsz S) ≤ R.slots) (kk : ZN p l e R s m args below meth c Q dC dI cI cO b base nL pc' L' st' S' M' h' (cells + (S'.length - S.length)) (slots + (zsz S' - zsz S))) : ZN p l e R s m args below meth c Q dC dI cI cO b base nL pc L st S M h cells slots := by
  obtain ⟨hx, hb, hml, hown, hts, hK, hin, hbs⟩ := hC
  obtain ⟨h1, h2⟩ := zlen1 hk
  subst h1; subst hnx
  split at h2
  · next C T N hcl =>
    simp only [Bool.and_eq_true] at h2
    obtain ⟨⟨⟨h2, h3⟩, h4⟩, h5⟩ := h2
    have h2 := of_decide_eq_true h2
    have h3 := zin_mem h3
    have h4 := of_decide_eq_true h4
    obtain ⟨ty, -, hws, hty, hnm, hlen, htk⟩ := zcls hcl
    obtain ⟨ha9, hd2⟩ := zd2 hcl h4
    simp only [zst] at hst
    split at hst
    · next v q r =>
      split at hst
      · next cl n rs hz =>
        cases hc1 : Nat.beq cl a with
        | false => rw [hc1, cond_false] at hst; cases hst
        | true =>
          rw [hc1, cond_true] at hst
          have e1 := Nat.eq_of_beq_eq_true hc1
          subst e1
          have hql : q < S.length := (zws_get (cI := cI) (cO := cO) (base := base) (M := M) (h := h) hz).2
          have main : ∀ (M2 : Me) (h2' : Ml) (rs2 : List (Option Nat)), narrow (ty bb) (zv b base v) = zv b base v → fits (ty bb) (zv b base v) = true → zfv base M2 h2' q rs2 bb d = zv b base v → (∀ i d', i ≠ bb → zgt (zFK cl) i = some d' → zfv base M2 h2' q rs2 i d' = zfv base M h q rs i d') → (∀ a, a ≠ q → M2 a = M a) → (∀ a, a ≠ q → h2' a = h a) → ((∀ k j, zrn (M k j)) → zrv v → ∀ j, zrn (M2 q j)) → zsz (S.set q (cl, n, rs2)) = zsz S → (pc + 3, L, r, S.set q (cl, n, rs2), M2, h2') = (pc', L', st', S', M', h') → ZN p l e R s m args below meth c Q dC dI cI cO b base nL pc L (v :: .inr (.inr (.inl q)) :: r) S M h cells slots := by
            intro M2 h2' rs2 g1 g2 g3 g4 g5 g6 g7 g8 hst
            cases hst
            rw [List.length_set, g8] at kk
            intro hz0 H locs ls hO hS hL hr
            have hw := (zws_get (cI := cI) (cO := cO) (base := base) (M := M) (h := h) hz).1
            rw [zce_obj ha9] at hw
            have hfl : bb < ((zFK cl).mapIdx (zfv base M h q rs)).length := by rw [List.length_mapIdx, hlen]; exact h2
            have fin : ∀ (H1 : Heap) (locs1 : List Loc), va_P (dC, dI) vwCl ((zws cI cO base S M h).set q (base + q, .inr (cl, ((zFK cl).mapIdx (zfv base M h q rs)).set bb (zv b base v)))) H1 → va_D (fun q => base ≤ q) ((zws cI cO base S M h).set q (base + q, .inr (cl, ((zFK cl).mapIdx (zfv base M h q rs)).set bb (zv b base v)))) → va_S (fun q => base ≤ q) s.heap H1 locs1 → W p l e R s m args below meth c H1 locs1 cells slots Q (F0 m (pc + 3) ls (st'.map (zv b base))) := by
              intro H1 locs1 hP1 _ hS1
              rw [zfs_set h4 g3 g4, ← zce_obj (n := n) ha9] at hP1
              refine zkk kk (by rw [List.length_set]; exact hz0) H1 locs1 ls (hO.putM hql g5 g6 (g7 hO.2.1 (hr v List.mem_cons_self)) hP1) hS1 hL (fun u hu => hr u (List.mem_cons_of_mem _ (List.mem_cons_of_mem _ hu)))
            cases hf : (T bb).2.2.2 with
            | false => exact va_put (own := own) hx hb hts hws ty hty hnm hown hK.1 hO.1 zD hS q hw hcl bb h2 (hts _ h3) (fun _ h9 => h9) hf (hty bb h2) g1 g2 hfl hd fin
            | true =>
              rw [hf, cond_true, Bool.and_eq_true] at h5
              exact va_putF (own := own) hx hb hts hws ty hty hnm hown hK.1 hO.1 zD hS q hw hcl bb h2 (hts _ h3) (fun _ h9 => h9) hf (hin h5.1) (of_decide_eq_true h5.2) (hty bb h2) g1 g2 hfl hd fin
          have hT := htk bb d h4
          split at hst
          · split at hst
            · next x =>
              have e3 := zTy0 hT
              refine main (upd2 M q bb x) h rs (by rw [e3]; rfl) (by rw [e3]; rfl) (by unfold zfv; rw [upd2_at]; rfl) (fun i d' hi _ => by unfold zfv; rw [upd2_off hi]) (fun a ha => upd2_ne ha) (fun _ _ => rfl) (fun g1 g2 j => ?_) (by rw [zset_self hz]) (by rw [zset_self hz]; exact Option.some.inj hst)
              by_cases hj : j = bb
              · subst hj; rw [upd2_at]; exact g2
              · rw [upd2_off hj]; exact g1 q j
            · cases hst
          · split at hst
            · next q2 =>
              cases hc2 : Nat.ble (bb + 1) rs.length with
              | false => rw [hc2, cond_false] at hst; cases hst
              | true =>
                rw [hc2, cond_true] at hst
                have hlt : bb < rs.length := Nat.le_of_ble_eq_true hc2
                obtain ⟨e3, e4, -⟩ := zTy1 hT (base + q2)
                have hset : ∀ i, i ≠ bb → zgt (rs.set bb (some q2)) i = zgt rs i := fun i hi => by rw [zgt_eq, zgt_eq, List.getElem?_set_ne (Ne.symm hi)]
                refine main M h (rs.set bb (some q2)) e3 e4 (by unfold zfv; rw [zgt_eq, List.getElem?_set_self hlt]; rfl) (fun i d' hi _ => by unfold zfv; rw [hset i hi]) (fun _ _ => rfl) (fun _ _ => rfl) (fun g1 _ j => g1 q j) ?_ (Option.some.inj hst)
                exact zsz_set hz (by show (if cl = 100 ∨ cl = 101 then n else (rs.set bb (some q2)).length) = if cl = 100 ∨ cl = 101 then n else rs.length; rw [List.length_set])
            · cases hst
          · next d0 d1 =>
            split at hst
            · next y =>
              have hdd : d = 2 := by
                rcases d with _ | _ | _ | d
                · exact absurd rfl d0
                · exact absurd rfl d1
                · rfl
                · omega
              subst hdd
              have e3 := zTy2 hT
              obtain ⟨ec, eb⟩ := zlong' ha9 h4
              refine main M (updl h q y) rs (by rw [e3]; rfl) (by rw [e3]; rfl) (by show Value.long (updl h q y q) = _; unfold updl; rw [if_pos rfl]; rfl) (fun i d' hi hd' => ?_) (fun _ _ => rfl) (fun a ha => by unfold updl; rw [if_neg ha]) (fun g1 _ j => g1 q j) (by rw [zset_self hz]) (by rw [zset_self hz]; exact Option.some.inj hst)
              rcases d' with _ | _ | d'
              · rfl
              · rfl
              · have := zlong' ha9 hd'
                omega
            · cases hst
      · cases hst
    · cases hst
  · cases h2

end ZBR
end
section
section ZMK
variable {p : Program} {l : Launch} {e : Env} {R : Room} {s : State} {m : MethodId} {args : Array Value} {below : List Frame} {meth : Method} {c : Code} {Q : State → Prop} {dC : Nat → ClassId} {dI : Nat → Nat → Nat} {cI cO : ClassId} {b base : Nat} {own : String} {cc : ByteArray} {nL : Nat} {isI : Bool} {ret : Option FieldType} {fr lo : Nat} {sc : Sc}
theorem zg0 : Cond.initialized "java/lang/Math" ∈ TB := zin_mem (p := zpl.getD 0 0) (by decide +kernel)
theorem zg1 : Cond.initialized "java/lang/System" ∈ TB := zin_mem (p := zpl.getD 1 0) (by decide +kernel)
theorem zg2 : Cond.instanceMethod Lib.objectInit ∈ TB := zin_mem (p := zpl.getD 2 0) (by decide +kernel)
theorem zg3 : Cond.code Lib.objectInit ⟨#[0xb1]⟩ 1 none ∈ TB := zin_mem (p := zpl.getD 3 0) (by decide +kernel)
theorem zg4 : Cond.arrayClass .int ∈ TB := zin_mem (p := zpl.getD 4 0) (by decide +kernel)
theorem zg5 : Cond.static Lib.Math.max.name ∈ TB := zin_mem (p := zpl.getD 5 0) (by decide +kernel)
theorem zg6 : Cond.code Lib.Math.max.name Lib.Math.max.code 2 (some .int) ∈ TB := zin_mem (p := zpl.getD 6 0) (by decide +kernel)
theorem zg7 : Cond.static Lib.Math.min.name ∈ TB := zin_mem (p := zpl.getD 7 0) (by decide +kernel)
theorem zg8 : Cond.code Lib.Math.min.name Lib.Math.min.code 2 (some .int) ∈ TB := zin_mem (p := zpl.getD 8 0) (by decide +kernel)
theorem zg9 : Cond.static Lib.Math.abs.name ∈ TB := zin_mem (p := zpl.getD 9 0) (by decide +kernel)
theorem zg10 : Cond.code Lib.Math.abs.name Lib.Math.abs.code 1 (some .int) ∈ TB := zin_mem (p := zpl.getD 10 0) (by decide +kernel)
theorem zg11 : Cond.static arraycopyName ∈ TB := zin_mem (p := zpl.getD 11 0) (by decide +kernel)
theorem zg12 : Cond.native arraycopyName ∈ TB := zin_mem (p := zpl.getD 12 0) (by decide +kernel)
theorem znew_at {S : Sh} {M : Me} {h : Ml} {H1 : Heap} {q cells : Nat} {x : va_E} (hz0 : base + S.length = s.heap.size + cells) (hP : va_P (dC, dI) vwCl (zws cI cO base S M h ++ [(q, x)]) H1) (hD : va_D (fun q => base ≤ q) (zws cI cO base S M h ++ [(q, x)])) (hsz : H1.size ≤ s.heap.size + (cells + 1)) : q = base + S.length := by
  have h1 : (zws cI cO base S M h ++ [(q, x)])[S.length]? = some (q, x) := by
    rw [List.getElem?_append_right (by rw [zws_len]; exact Nat.le_refl _), zws_len, Nat.sub_self]; rfl
  have h2 : q < H1.size := (hP _ _ h1).lt
  have h3 : base ≤ q := hD.2 _ _ h1
  rcases Nat.lt_or_ge q (base + S.length) with h4 | h4
  · exfalso
    have hk : q - base < S.length := by omega
    have h5 : (zws cI cO base S M h ++ [(q, x)])[q - base]? = some (base + (q - base), zce cI cO base M h (q - base) S[q - base]) := by
      rw [List.getElem?_append_left (by rw [zws_len]; exact hk), zws_at, List.getElem?_eq_getElem hk]; rfl
    have := hD.1 _ _ _ _ h5 h1 (by show base + (q - base) = q; omega)
    omega
  · omega
theorem WO.app {S : Sh} {M : Me} {h : Ml} {H H1 : Heap} {q : Nat × Nat × List (Option Nat)} (hO : WO dC dI cI cO base S M h H) (hP : va_P (dC, dI) vwCl (zws cI cO base S M h ++ [(base + S.length, zce cI cO base M h S.length q)]) H1) : WO dC dI cI cO base (S ++ [q]) M h H1 := by
  refine ⟨by rw [zws_app]; exact hP, hO.2.1, fun k hk => hO.2.2 k ?_⟩
  rw [List.length_append] at hk
  omega
set_option maxHeartbeats 1000000 in
theorem zs_new (hC : ZCx p s m args meth c own cc nL isI dC dI cI cO base) (hX : zSc sc b base s) (hR : fr ≤ R.frames ∧ lo ≤ R.locals) {nx a bb d w len pc pc' : Nat} {cv : Int} {L st L' st' : List ZV} {S S' : Sh} {M M' : Me} {h h' : Ml} {cells slots : Nat} {k : Nat} (hd : decode cc pc = .ok (.new k, len)) (hnx : pc + len = nx) (hk : zchk own nL isI ret fr lo pc len (.new k) a bb d cv w = true) (hst : zst sc (.new k, nx, a, bb, d, cv, w) L st S M h = some (pc', L', st', S', M', h')) (hrm : cells + (S'.length - S.length) ≤ R.cells ∧ slots + (zsz S' - zsz S) ≤ R.slots) (kk : ZN p l e R s m args below meth c Q dC dI cI cO b base nL pc' L' st' S' M' h' (cells + (S'.length - S.length)) (slots + (zsz S' - zsz S))) : ZN p l e R s m args below meth c Q dC dI cI cO b base nL pc L st S M h cells slots := by
  obtain ⟨hx, hb, hml, hown, hts, hK, hin, hbs⟩ := hC
  obtain ⟨h1, h2⟩ := zlen1 hk
  subst h1; subst hnx
  split at h2
  · next C T N hcl =>
    simp only [Bool.and_eq_true] at h2
    obtain ⟨⟨⟨h2, h3⟩, h4⟩, h5⟩ := h2
    have h2 := of_decide_eq_true h2
    have h3 := zin_mem h3
    have h4 := zin_mem h4
    have h5 := zin_mem h5
    obtain ⟨ty, -, hws, hty, hnm, hlen, htk⟩ := zcls hcl
    have ha9 : a < 8 := (List.getElem?_eq_some_iff.mp hcl).1
    simp only [zst] at hst
    cases hst
    have e9 : (S ++ [(a, 0, List.replicate bb (none : Option Nat))]).length - S.length = 1 := by rw [List.length_append]; simp
    have e8 : zsz (S ++ [(a, 0, List.replicate bb (none : Option Nat))]) - zsz S = N := by
      rw [zsz_app]
      show zsz S + (if a = 100 ∨ a = 101 then 0 else (List.replicate bb (none : Option Nat)).length) - zsz S = N
      rw [if_neg (by omega), List.length_replicate]
      omega
    rw [e9, e8] at hrm kk
    intro hz0 H locs ls hO hS hL hr
    have hz := hO.2.2 S.length (Nat.le_refl _)
    refine va_new (own := own) (ci := a) (fs := (zFK a).mapIdx (zfv base M h S.length (List.replicate bb none))) hx hb hts hws ty hty hown (hts _ h3) (hts _ h4) (hts _ h5) hK.1 hO.1 zD hS (fun q hq => Nat.le_trans hbs hq) hcl (fun j hj => ?_) hrm.1 hrm.2 hd (fun q H1 hP1 hD1 hS1 => ?_)
    · have hjl : j < (zFK a).length := by rw [hlen]; exact hj
      have hj1 : zgt (zFK a) j = some (zFK a)[j] := by rw [zgt_eq, List.getElem?_eq_getElem hjl]
      have hj2 := htk j _ hj1
      unfold vp_V
      rw [List.getD_eq_getElem?_getD, zfs_at hj1]
      show defaultValue (ty j) = zfv base M h S.length (List.replicate bb none) j (zFK a)[j]
      have hj3 : (zFK a)[j] ≤ 2 := (zd2 hcl hj1).2
      generalize (zFK a)[j] = d2 at hj2 hj3
      rcases d2 with _ | _ | _ | d2
      · rw [zTy0 hj2]
        show _ = Value.int (Int32.ofInt (M S.length j))
        rw [hz.2 j]; rfl
      · rw [(zTy1 hj2 0).2.2]
        show _ = va_rf (zvo base (zgt (List.replicate bb none) j))
        rw [zgt_eq, List.getElem?_replicate]
        split <;> rfl
      · rw [zTy2 hj2]
        show _ = Value.long (h S.length)
        rw [hz.1]; rfl
      · omega
    · refine W.sized fun hsz => ?_
      have hq := znew_at hz0 hP1 hD1 hsz
      subst hq
      rw [← zce_obj (n := 0) ha9] at hP1
      exact kk (by rw [List.length_append]; show base + (S.length + 1) = _; omega) H1 locs ls (hO.app hP1) hS1 hL (fun v hv => by
      rcases List.mem_cons.mp hv with e2 | e2
      · subst e2; exact trivial
      · exact hr v e2)
  · cases h2

set_option maxHeartbeats 1000000 in
theorem zs_newarray (hC : ZCx p s m args meth c own cc nL isI dC dI cI cO base) (hX : zSc sc b base s) (hR : fr ≤ R.frames ∧ lo ≤ R.locals) {nx a bb d w len pc pc' : Nat} {cv : Int} {L st L' st' : List ZV} {S S' : Sh} {M M' : Me} {h h' : Ml} {cells slots : Nat} {t : ArrayType} (hd : decode cc pc = .ok (.newarray t, len)) (hnx : pc + len = nx) (hk : zchk own nL isI ret fr lo pc len (.newarray t) a bb d cv w = true) (hst : zbr sc (.newarray t, nx, a, bb, d, cv, w) L st S M h = some (pc', L', st', S', M', h')) (hrm : cells + (S'.length - S.length) ≤ R.cells ∧ slots + (zsz S' - zsz S) ≤ R.slots) (kk : ZN p l e R s m args below meth c Q dC dI cI cO b base nL pc' L' st' S' M' h' (cells + (S'.length - S.length)) (slots + (zsz S' - zsz S))) : ZN p l e R s m args below meth c Q dC dI cI cO b base nL pc L st S M h cells slots := by
  obtain ⟨hx, hb, hml, hown, hts, hK, hin, hbs⟩ := hC
  obtain ⟨h1, h2⟩ := zlen1 hk
  have h2 := of_decide_eq_true h2
  subst h1; subst hnx; subst h2
  simp only [zbr] at hst
  split at hst
  · next n r =>
    split at hst
    · next hn =>
      cases hst
      have e9 : (S ++ [(100, n.toNat, ([] : List (Option Nat)))]).length - S.length = 1 := by rw [List.length_append]; simp
      have e8 : zsz (S ++ [(100, n.toNat, ([] : List (Option Nat)))]) - zsz S = n.toNat := by
        rw [zsz_app]
        show zsz S + (if 100 = 100 ∨ 100 = 101 then n.toNat else 0) - zsz S = n.toNat
        rw [if_pos (Or.inl rfl)]
        omega
      rw [e9, e8] at hrm kk
      intro hz0 H locs ls hO hS hL hr
      have hz := hO.2.2 S.length (Nat.le_refl _)
      have hrn : zrn n := by unfold zrn; omega
      refine va_newa (atype := .int) (n := Int32.ofInt n) (N' := n.toNat) (a0 := (n.toNat, .inl (fun j => Int32.ofInt (M S.length j)))) hx hb (hts _ zg4) (ty := .int) rfl hK.1 hO.1 zD hS (fun q hq => Nat.le_trans hbs hq) (fun cA => ?_) (by rw [zI_lt0 hrn]; omega) (zI_cl hrn) (by show n.toNat * 4 ≤ 536870912; omega) hrm.1 hrm.2 hd (fun q cA H1 hK1 hP1 hD1 hS1 => ?_)
      · rw [vp_cell_i]
        congr 1
        funext j
        rw [hz.2 j]; rfl
      · refine W.sized fun hsz => ?_
        have hq := znew_at hz0 hP1 hD1 hsz
        subst hq
        have f1 : s.vm.findClass ("[" ++ (FieldType.int).toString) = some cA := (hK1.2 2 (cA, .int) rfl).2
        have f2 : s.vm.findClass ("[" ++ (FieldType.int).toString) = some cI := (hK.1.2 0 (cI, .int) rfl).2
        have e1 : cA = cI := Option.some.inj (f1.symm.trans f2)
        subst e1
        exact kk (by rw [List.length_append]; show base + (S.length + 1) = _; omega) H1 locs ls (hO.app hP1) hS1 hL (fun v hv => by
      rcases List.mem_cons.mp hv with e2 | e2
      · subst e2; exact trivial
      · exact hr v (List.mem_cons_of_mem _ e2))
    · cases hst
  · cases hst

set_option maxHeartbeats 1000000 in
theorem zs_anewarray (hC : ZCx p s m args meth c own cc nL isI dC dI cI cO base) (hX : zSc sc b base s) (hR : fr ≤ R.frames ∧ lo ≤ R.locals) {nx a bb d w len pc pc' : Nat} {cv : Int} {L st L' st' : List ZV} {S S' : Sh} {M M' : Me} {h h' : Ml} {cells slots : Nat} {k : Nat} (hd : decode cc pc = .ok (.anewarray k, len)) (hnx : pc + len = nx) (hk : zchk own nL isI ret fr lo pc len (.anewarray k) a bb d cv w = true) (hst : zbr sc (.anewarray k, nx, a, bb, d, cv, w) L st S M h = some (pc', L', st', S', M', h')) (hrm : cells + (S'.length - S.length) ≤ R.cells ∧ slots + (zsz S' - zsz S) ≤ R.slots) (kk : ZN p l e R s m args below meth c Q dC dI cI cO b base nL pc' L' st' S' M' h' (cells + (S'.length - S.length)) (slots + (zsz S' - zsz S))) : ZN p l e R s m args below meth c Q dC dI cI cO b base nL pc L st S M h cells slots := by
  obtain ⟨hx, hb, hml, hown, hts, hK, hin, hbs⟩ := hC
  obtain ⟨h1, h2⟩ := zlen1 hk
  have h2 := zin_mem h2
  subst h1; subst hnx
  simp only [zbr] at hst
  split at hst
  · next n r =>
    split at hst
    · next hn =>
      cases hst
      have e9 : (S ++ [(101, n.toNat, List.replicate n.toNat (none : Option Nat))]).length - S.length = 1 := by rw [List.length_append]; simp
      have e8 : zsz (S ++ [(101, n.toNat, List.replicate n.toNat (none : Option Nat))]) - zsz S = n.toNat := by
        rw [zsz_app]
        show zsz S + (if 101 = 100 ∨ 101 = 101 then n.toNat else _) - zsz S = n.toNat
        rw [if_pos (Or.inr rfl)]
        omega
      rw [e9, e8] at hrm kk
      intro hz0 H locs ls hO hS hL hr
      have hrn : zrn n := by unfold zrn; omega
      refine va_newq (own := own) (n := Int32.ofInt n) (N' := n.toNat) hx hb hown (hts _ h2) hK.2.2.2 hK.1 hO.1 zD hS (fun q hq => Nat.le_trans hbs hq) (by rw [zI_lt0 hrn]; omega) (zI_cl hrn) (by omega) hrm.1 hrm.2 hd (fun q cA H1 hK1 hP1 hD1 hS1 => ?_)
      refine W.sized fun hsz => ?_
      have hq := znew_at hz0 hP1 hD1 hsz
      subst hq
      obtain ⟨_, _, _, _, _, f1⟩ := (hK1.2 2 (cA, .object zOff) rfl).2
      obtain ⟨_, _, _, _, _, f2⟩ := (hK.1.2 1 (cO, .object zOff) rfl).2
      have e1 : cA = cO := Option.some.inj (f1.symm.trans f2)
      subst e1
      have e2 : zce cI cA base M h S.length (101, n.toNat, List.replicate n.toNat none) = .inl (cA, n.toNat, .inr (.inr (.inr (.inr (fun _ => none))))) := by
        have e3 : (fun j => zvo base (zgt (List.replicate n.toNat (none : Option Nat)) j)) = fun _ => none := by
          funext j
          rw [zgt_eq, List.getElem?_replicate]
          split <;> rfl
        show (Sum.inl (cA, n.toNat, .inr (.inr (.inr (.inr (fun j => zvo base (zgt (List.replicate n.toNat (none : Option Nat)) j)))))) : va_E) = _
        rw [e3]
      rw [← e2] at hP1
      exact kk (by rw [List.length_append]; show base + (S.length + 1) = _; omega) H1 locs ls (hO.app hP1) hS1 hL (fun v hv => by
      rcases List.mem_cons.mp hv with e2 | e2
      · subst e2; exact trivial
      · exact hr v (List.mem_cons_of_mem _ e2))
    · cases hst
  · cases hst

set_option maxHeartbeats 1000000 in
theorem zs_objinit (hC : ZCx p s m args meth c own cc nL isI dC dI cI cO base) (hX : zSc sc b base s) (hR : fr ≤ R.frames ∧ lo ≤ R.locals) {nx a bb d w len pc pc' : Nat} {cv : Int} {L st L' st' : List ZV} {S S' : Sh} {M M' : Me} {h h' : Ml} {cells slots : Nat} {k : Nat} (hd : decode cc pc = .ok (.invokespecial k, len)) (hnx : pc + len = nx) (hk : zchk own nL isI ret fr lo pc len (.invokespecial k) a bb d cv w = true) (hst : zst sc (.invokespecial k, nx, a, bb, d, cv, w) L st S M h = some (pc', L', st', S', M', h')) (hrm : cells + (S'.length - S.length) ≤ R.cells ∧ slots + (zsz S' - zsz S) ≤ R.slots) (kk : ZN p l e R s m args below meth c Q dC dI cI cO b base nL pc' L' st' S' M' h' (cells + (S'.length - S.length)) (slots + (zsz S' - zsz S))) : ZN p l e R s m args below meth c Q dC dI cI cO b base nL pc L st S M h cells slots := by
  obtain ⟨hx, hb, hml, hown, hts, hK, hin, hbs⟩ := hC
  obtain ⟨h1, h2⟩ := zlen1 hk
  subst h1; subst hnx
  simp only [zst] at hst
  split at hst
  · split at hst
    · next q r =>
      simp only [Bool.and_eq_true] at h2
      obtain ⟨⟨h2, h3⟩, h4⟩ := h2
      have h2 := of_decide_eq_true h2
      have h3 := of_decide_eq_true h3
      have h4 := zin_mem h4
      cases hc2 : Nat.ble (zwt r) 8 with
      | false => rw [hc2, cond_false] at hst; cases hst
      | true =>
        rw [hc2, cond_true] at hst
        cases hst
        have hw := Nat.le_of_ble_eq_true hc2
        intro hz0 H locs ls hO hS hL hr
        refine W.objInit (own := own) hx hb hown (hts _ h4) (hts _ zg2) (hts _ zg3) rfl (by rw [hml]; exact hL.size) rfl hd (by omega) (by rw [zv_wt]; show 2 * 0 + _ + 12 ≤ _; omega) ?_
        refine W.eq (g2 := F0 m (pc + 3) ls (st'.map (zv b base))) rfl ?_
        exact zkk kk hz0 H locs ls hO hS hL (fun u hu => hr u (List.mem_cons_of_mem _ hu))
    · cases hst
  · cases hst

theorem zmx {x y : Int} (hx : zrn x) (hy : zrn y) : (if Int32.ofInt x < Int32.ofInt y then Int32.ofInt y else Int32.ofInt x) = Int32.ofInt (max x y) ∧ zrn (max x y) := by
  by_cases h : x < y
  · rw [if_pos ((zI_lt hx hy).mpr h), Int.max_eq_right (Int.le_of_lt h)]; exact ⟨rfl, hy⟩
  · rw [if_neg (fun q => h ((zI_lt hx hy).mp q)), Int.max_eq_left (Int.not_lt.mp h)]; exact ⟨rfl, hx⟩
theorem zmn {x y : Int} (hx : zrn x) (hy : zrn y) : (if Int32.ofInt y < Int32.ofInt x then Int32.ofInt y else Int32.ofInt x) = Int32.ofInt (min x y) ∧ zrn (min x y) := by
  by_cases h : y < x
  · rw [if_pos ((zI_lt hy hx).mpr h), Int.min_eq_right (Int.le_of_lt h)]; exact ⟨rfl, hy⟩
  · rw [if_neg (fun q => h ((zI_lt hy hx).mp q)), Int.min_eq_left (Int.not_lt.mp h)]; exact ⟨rfl, hx⟩
theorem zab {x : Int} (hx : zrn x) : (if 0 ≤ Int32.ofInt x then Int32.ofInt x else 0 - Int32.ofInt x) = Int32.ofInt (w32 (x.natAbs : Int)) ∧ zrn (w32 (x.natAbs : Int)) := by
  refine ⟨?_, w32_rn _⟩
  by_cases h : 0 ≤ x
  · rw [if_pos ((zI_ge0 hx).mpr h), zI_w, Int.natAbs_of_nonneg h]
  · rw [if_neg (fun q => h ((zI_ge0 hx).mp q)), Int32.zero_sub, ← zI_neg]
    congr 2
    omega
set_option maxHeartbeats 1000000 in
theorem zs_math (hC : ZCx p s m args meth c own cc nL isI dC dI cI cO base) (hX : zSc sc b base s) (hR : fr ≤ R.frames ∧ lo ≤ R.locals) {nx a bb d w len pc pc' : Nat} {cv : Int} {L st L' st' : List ZV} {S S' : Sh} {M M' : Me} {h h' : Ml} {cells slots : Nat} {k : Nat} (hd : decode cc pc = .ok (.invokestatic k, len)) (hnx : pc + len = nx) (hk : zchk own nL isI ret fr lo pc len (.invokestatic k) a bb d cv w = true) (hst : zst sc (.invokestatic k, nx, a, bb, d, cv, w) L st S M h = some (pc', L', st', S', M', h')) (hrm : cells + (S'.length - S.length) ≤ R.cells ∧ slots + (zsz S' - zsz S) ≤ R.slots) (kk : ZN p l e R s m args below meth c Q dC dI cI cO b base nL pc' L' st' S' M' h' (cells + (S'.length - S.length)) (slots + (zsz S' - zsz S))) : ZN p l e R s m args below meth c Q dC dI cI cO b base nL pc L st S M h cells slots := by
  obtain ⟨hx, hb, hml, hown, hts, hK, hin, hbs⟩ := hC
  obtain ⟨h1, h2⟩ := zlen1 hk
  subst h1; subst hnx
  simp only [zst] at hst
  split at hst
  · split at hst
    · split at hst
      · next y x r =>
        simp only [Bool.and_eq_true] at h2
        obtain ⟨⟨h2, h3⟩, h4⟩ := h2
        have h2 := of_decide_eq_true h2
        have h3 := of_decide_eq_true h3
        have h4 := zin_mem h4
        cases hc2 : Nat.ble (zwt r) 8 with
        | false => rw [hc2, cond_false] at hst; cases hst
        | true =>
        rw [hc2, cond_true] at hst
        cases hst
        have hw := Nat.le_of_ble_eq_true hc2
        rw [Nat.sub_self, Nat.sub_self, Nat.add_zero, Nat.add_zero] at hrm
        intro hz0 H locs ls hO hS hL hr
        have hx1 : zrn x := hr (.inl x) (List.mem_cons_of_mem _ List.mem_cons_self)
        have hy1 : zrn y := hr (.inl y) List.mem_cons_self
        refine va_mmax (own := own) hx hb (by rw [hml]; exact hL.size.symm) hown (hts _ h4) (hts _ zg5) (hts _ zg0) (hts _ zg6) (by omega) (by rw [zv_wt]; omega) hrm.1 hrm.2 hd ?_
        rw [(zmx hx1 hy1).1]
        exact zkk kk hz0 H locs ls hO hS hL (fun v hv => by
          rcases List.mem_cons.mp hv with e2 | e2
          · subst e2; exact (zmx hx1 hy1).2
          · exact hr v (List.mem_cons_of_mem _ (List.mem_cons_of_mem _ e2)))
      · cases hst
    · split at hst
      · next y x r =>
        simp only [Bool.and_eq_true] at h2
        obtain ⟨⟨h2, h3⟩, h4⟩ := h2
        have h2 := of_decide_eq_true h2
        have h3 := of_decide_eq_true h3
        have h4 := zin_mem h4
        cases hc2 : Nat.ble (zwt r) 8 with
        | false => rw [hc2, cond_false] at hst; cases hst
        | true =>
        rw [hc2, cond_true] at hst
        cases hst
        have hw := Nat.le_of_ble_eq_true hc2
        rw [Nat.sub_self, Nat.sub_self, Nat.add_zero, Nat.add_zero] at hrm
        intro hz0 H locs ls hO hS hL hr
        have hx1 : zrn x := hr (.inl x) (List.mem_cons_of_mem _ List.mem_cons_self)
        have hy1 : zrn y := hr (.inl y) List.mem_cons_self
        refine va_mmin (own := own) hx hb (by rw [hml]; exact hL.size.symm) hown (hts _ h4) (hts _ zg7) (hts _ zg0) (hts _ zg8) (by omega) (by rw [zv_wt]; omega) hrm.1 hrm.2 hd ?_
        rw [(zmn hx1 hy1).1]
        exact zkk kk hz0 H locs ls hO hS hL (fun v hv => by
          rcases List.mem_cons.mp hv with e2 | e2
          · subst e2; exact (zmn hx1 hy1).2
          · exact hr v (List.mem_cons_of_mem _ (List.mem_cons_of_mem _ e2)))
      · cases hst
    · split at hst
      · next x r =>
        simp only [Bool.and_eq_true] at h2
        obtain ⟨⟨h2, h3⟩, h4⟩ := h2
        have h2 := of_decide_eq_true h2
        have h3 := of_decide_eq_true h3
        have h4 := zin_mem h4
        cases hc2 : Nat.ble (zwt r) 8 with
        | false => rw [hc2, cond_false] at hst; cases hst
        | true =>
        rw [hc2, cond_true] at hst
        cases hst
        have hw := Nat.le_of_ble_eq_true hc2
        rw [Nat.sub_self, Nat.sub_self, Nat.add_zero, Nat.add_zero] at hrm
        intro hz0 H locs ls hO hS hL hr
        have hx1 : zrn x := hr (.inl x) List.mem_cons_self
        refine va_mabs (own := own) hx hb (by rw [hml]; exact hL.size.symm) hown (hts _ h4) (hts _ zg9) (hts _ zg0) (hts _ zg10) (by omega) (by rw [zv_wt]; omega) hrm.1 hrm.2 hd ?_
        rw [(zab hx1).1]
        exact zkk kk hz0 H locs ls hO hS hL (fun v hv => by
          rcases List.mem_cons.mp hv with e2 | e2
          · subst e2; exact (zab hx1).2
          · exact hr v (List.mem_cons_of_mem _ e2))
      · cases hst
    · cases hst
  · cases hst

end ZMK
end
section
section ZCH
variable {p : Program} {l : Launch} {e : Env} {R : Room} {s : State} {m : MethodId} {args : Array Value} {below : List Frame} {meth : Method} {c : Code} {Q : State → Prop} {dC : Nat → ClassId} {dI : Nat → Nat → Nat} {cI cO : ClassId} {b base : Nat} {own : String} {cc : ByteArray} {nL : Nat} {isI : Bool} {ret : Option FieldType} {fr lo : Nat} {sc : Sc}
set_option maxHeartbeats 1000000 in
theorem zs_if_icmp (hC : ZCx p s m args meth c own cc nL isI dC dI cI cO base) (hX : zSc sc b base s) (hR : fr ≤ R.frames ∧ lo ≤ R.locals) {nx a bb d w len pc pc' : Nat} {cv : Int} {L st L' st' : List ZV} {S S' : Sh} {M M' : Me} {h h' : Ml} {cells slots : Nat} {q : Jvm.ClassFile.Cond} {off : Int} (hd : decode cc pc = .ok (.if_icmp q off, len)) (hnx : pc + len = nx) (hk : zchk own nL isI ret fr lo pc len (.if_icmp q off) a bb d cv w = true) (hst : zbr sc (.if_icmp q off, nx, a, bb, d, cv, w) L st S M h = some (pc', L', st', S', M', h')) (hrm : cells + (S'.length - S.length) ≤ R.cells ∧ slots + (zsz S' - zsz S) ≤ R.slots) (kk : ZN p l e R s m args below meth c Q dC dI cI cO b base nL pc' L' st' S' M' h' (cells + (S'.length - S.length)) (slots + (zsz S' - zsz S))) : ZN p l e R s m args below meth c Q dC dI cI cO b base nL pc L st S M h cells slots := by
  obtain ⟨hx, hb, hml, hown, hts, hK, hin, hbs⟩ := hC
  obtain ⟨h1, h2⟩ := zlen1 hk
  have h2 := of_decide_eq_true h2
  subst h1; subst hnx
  simp only [zbr] at hst
  split at hst
  · next y x r =>
    split at hst
    · cases hst
      intro hz0 H locs ls hO hS hL hr
      have hx1 : zrn x := hr (.inl x) (List.mem_cons_of_mem _ List.mem_cons_self)
      have hy1 : zrn y := hr (.inl y) List.mem_cons_self
      refine lv_icmp_eq hx hb hd h2 (fun g => ?_) (fun g => ?_)
      · rw [if_pos ((zI_inj hx1 hy1).mp g)] at kk
        exact zkk kk hz0 H locs ls hO hS hL (fun v hv => hr v (List.mem_cons_of_mem _ (List.mem_cons_of_mem _ hv)))
      · rw [if_neg (fun q => g ((zI_inj hx1 hy1).mpr q))] at kk
        exact zkk kk hz0 H locs ls hO hS hL (fun v hv => hr v (List.mem_cons_of_mem _ (List.mem_cons_of_mem _ hv)))
    · cases hst
      intro hz0 H locs ls hO hS hL hr
      have hx1 : zrn x := hr (.inl x) (List.mem_cons_of_mem _ List.mem_cons_self)
      have hy1 : zrn y := hr (.inl y) List.mem_cons_self
      refine lv_icmp_ne hx hb hd h2 (fun g => ?_) (fun g => ?_)
      · rw [if_pos (fun q => g ((zI_inj hx1 hy1).mpr q))] at kk
        exact zkk kk hz0 H locs ls hO hS hL (fun v hv => hr v (List.mem_cons_of_mem _ (List.mem_cons_of_mem _ hv)))
      · rw [if_neg (fun q => q ((zI_inj hx1 hy1).mp g))] at kk
        exact zkk kk hz0 H locs ls hO hS hL (fun v hv => hr v (List.mem_cons_of_mem _ (List.mem_cons_of_mem _ hv)))
    · cases hst
      intro hz0 H locs ls hO hS hL hr
      have hx1 : zrn x := hr (.inl x) (List.mem_cons_of_mem _ List.mem_cons_self)
      have hy1 : zrn y := hr (.inl y) List.mem_cons_self
      refine lv_icmp_lt hx hb hd h2 (fun g => ?_) (fun g => ?_)
      · rw [if_pos ((zI_lt hx1 hy1).mp g)] at kk
        exact zkk kk hz0 H locs ls hO hS hL (fun v hv => hr v (List.mem_cons_of_mem _ (List.mem_cons_of_mem _ hv)))
      · rw [if_neg (fun q => g ((zI_lt hx1 hy1).mpr q))] at kk
        exact zkk kk hz0 H locs ls hO hS hL (fun v hv => hr v (List.mem_cons_of_mem _ (List.mem_cons_of_mem _ hv)))
    · cases hst
      intro hz0 H locs ls hO hS hL hr
      have hx1 : zrn x := hr (.inl x) (List.mem_cons_of_mem _ List.mem_cons_self)
      have hy1 : zrn y := hr (.inl y) List.mem_cons_self
      refine lv_icmp_ge hx hb hd h2 (fun g => ?_) (fun g => ?_)
      · rw [if_pos ((zI_le hy1 hx1).mp g)] at kk
        exact zkk kk hz0 H locs ls hO hS hL (fun v hv => hr v (List.mem_cons_of_mem _ (List.mem_cons_of_mem _ hv)))
      · rw [if_neg (fun q => g ((zI_le hy1 hx1).mpr q))] at kk
        exact zkk kk hz0 H locs ls hO hS hL (fun v hv => hr v (List.mem_cons_of_mem _ (List.mem_cons_of_mem _ hv)))
    · cases hst
      intro hz0 H locs ls hO hS hL hr
      have hx1 : zrn x := hr (.inl x) (List.mem_cons_of_mem _ List.mem_cons_self)
      have hy1 : zrn y := hr (.inl y) List.mem_cons_self
      refine lv_icmp_gt hx hb hd h2 (fun g => ?_) (fun g => ?_)
      · rw [if_pos ((zI_lt hy1 hx1).mp g)] at kk
        exact zkk kk hz0 H locs ls hO hS hL (fun v hv => hr v (List.mem_cons_of_mem _ (List.mem_cons_of_mem _ hv)))
      · rw [if_neg (fun q => g ((zI_lt hy1 hx1).mpr q))] at kk
        exact zkk kk hz0 H locs ls hO hS hL (fun v hv => hr v (List.mem_cons_of_mem _ (List.mem_cons_of_mem _ hv)))
    · cases hst
      intro hz0 H locs ls hO hS hL hr
      have hx1 : zrn x := hr (.inl x) (List.mem_cons_of_mem _ List.mem_cons_self)
      have hy1 : zrn y := hr (.inl y) List.mem_cons_self
      refine lv_icmp_le hx hb hd h2 (fun g => ?_) (fun g => ?_)
      · rw [if_pos ((zI_le hx1 hy1).mp g)] at kk
        exact zkk kk hz0 H locs ls hO hS hL (fun v hv => hr v (List.mem_cons_of_mem _ (List.mem_cons_of_mem _ hv)))
      · rw [if_neg (fun q => g ((zI_le hx1 hy1).mpr q))] at kk
        exact zkk kk hz0 H locs ls hO hS hL (fun v hv => hr v (List.mem_cons_of_mem _ (List.mem_cons_of_mem _ hv)))
  · cases hst

set_option maxHeartbeats 1000000 in
theorem zs_ifCond (hC : ZCx p s m args meth c own cc nL isI dC dI cI cO base) (hX : zSc sc b base s) (hR : fr ≤ R.frames ∧ lo ≤ R.locals) {nx a bb d w len pc pc' : Nat} {cv : Int} {L st L' st' : List ZV} {S S' : Sh} {M M' : Me} {h h' : Ml} {cells slots : Nat} {q : Jvm.ClassFile.Cond} {off : Int} (hd : decode cc pc = .ok (.ifCond q off, len)) (hnx : pc + len = nx) (hk : zchk own nL isI ret fr lo pc len (.ifCond q off) a bb d cv w = true) (hst : zbr sc (.ifCond q off, nx, a, bb, d, cv, w) L st S M h = some (pc', L', st', S', M', h')) (hrm : cells + (S'.length - S.length) ≤ R.cells ∧ slots + (zsz S' - zsz S) ≤ R.slots) (kk : ZN p l e R s m args below meth c Q dC dI cI cO b base nL pc' L' st' S' M' h' (cells + (S'.length - S.length)) (slots + (zsz S' - zsz S))) : ZN p l e R s m args below meth c Q dC dI cI cO b base nL pc L st S M h cells slots := by
  obtain ⟨hx, hb, hml, hown, hts, hK, hin, hbs⟩ := hC
  obtain ⟨h1, h2⟩ := zlen1 hk
  have h2 := of_decide_eq_true h2
  subst h1; subst hnx
  simp only [zbr] at hst
  split at hst
  · next x r =>
    split at hst
    · cases hst
      intro hz0 H locs ls hO hS hL hr
      have hx1 : zrn x := hr (.inl x) List.mem_cons_self
      refine lv_if_eq hx hb hd h2 (fun g => ?_) (fun g => ?_)
      · rw [if_pos ((zI_eq0 hx1).mp g)] at kk
        exact zkk kk hz0 H locs ls hO hS hL (fun v hv => hr v (List.mem_cons_of_mem _ hv))
      · rw [if_neg (fun q => g ((zI_eq0 hx1).mpr q))] at kk
        exact zkk kk hz0 H locs ls hO hS hL (fun v hv => hr v (List.mem_cons_of_mem _ hv))
    · cases hst
      intro hz0 H locs ls hO hS hL hr
      have hx1 : zrn x := hr (.inl x) List.mem_cons_self
      refine lv_if_ne hx hb hd h2 (fun g => ?_) (fun g => ?_)
      · rw [if_pos (fun q => g ((zI_eq0 hx1).mpr q))] at kk
        exact zkk kk hz0 H locs ls hO hS hL (fun v hv => hr v (List.mem_cons_of_mem _ hv))
      · rw [if_neg (fun q => q ((zI_eq0 hx1).mp g))] at kk
        exact zkk kk hz0 H locs ls hO hS hL (fun v hv => hr v (List.mem_cons_of_mem _ hv))
    · cases hst
      intro hz0 H locs ls hO hS hL hr
      have hx1 : zrn x := hr (.inl x) List.mem_cons_self
      refine lv_if_lt hx hb hd h2 (fun g => ?_) (fun g => ?_)
      · rw [if_pos ((zI_lt0 hx1).mp g)] at kk
        exact zkk kk hz0 H locs ls hO hS hL (fun v hv => hr v (List.mem_cons_of_mem _ hv))
      · rw [if_neg (fun q => g ((zI_lt0 hx1).mpr q))] at kk
        exact zkk kk hz0 H locs ls hO hS hL (fun v hv => hr v (List.mem_cons_of_mem _ hv))
    · cases hst
      intro hz0 H locs ls hO hS hL hr
      have hx1 : zrn x := hr (.inl x) List.mem_cons_self
      refine lv_if_ge hx hb hd h2 (fun g => ?_) (fun g => ?_)
      · rw [if_pos ((zI_ge0 hx1).mp g)] at kk
        exact zkk kk hz0 H locs ls hO hS hL (fun v hv => hr v (List.mem_cons_of_mem _ hv))
      · rw [if_neg (fun q => g ((zI_ge0 hx1).mpr q))] at kk
        exact zkk kk hz0 H locs ls hO hS hL (fun v hv => hr v (List.mem_cons_of_mem _ hv))
    · cases hst
      intro hz0 H locs ls hO hS hL hr
      have hx1 : zrn x := hr (.inl x) List.mem_cons_self
      refine lv_if_gt hx hb hd h2 (fun g => ?_) (fun g => ?_)
      · rw [if_pos ((zI_gt0 hx1).mp g)] at kk
        exact zkk kk hz0 H locs ls hO hS hL (fun v hv => hr v (List.mem_cons_of_mem _ hv))
      · rw [if_neg (fun q => g ((zI_gt0 hx1).mpr q))] at kk
        exact zkk kk hz0 H locs ls hO hS hL (fun v hv => hr v (List.mem_cons_of_mem _ hv))
    · cases hst
      intro hz0 H locs ls hO hS hL hr
      have hx1 : zrn x := hr (.inl x) List.mem_cons_self
      refine lv_if_le hx hb hd h2 (fun g => ?_) (fun g => ?_)
      · rw [if_pos ((zI_le0 hx1).mp g)] at kk
        exact zkk kk hz0 H locs ls hO hS hL (fun v hv => hr v (List.mem_cons_of_mem _ hv))
      · rw [if_neg (fun q => g ((zI_le0 hx1).mpr q))] at kk
        exact zkk kk hz0 H locs ls hO hS hL (fun v hv => hr v (List.mem_cons_of_mem _ hv))
  · cases hst

set_option maxHeartbeats 1000000 in
theorem zs_idiv (hC : ZCx p s m args meth c own cc nL isI dC dI cI cO base) (hX : zSc sc b base s) (hR : fr ≤ R.frames ∧ lo ≤ R.locals) {nx a bb d w len pc pc' : Nat} {cv : Int} {L st L' st' : List ZV} {S S' : Sh} {M M' : Me} {h h' : Ml} {cells slots : Nat} (hd : decode cc pc = .ok (.idiv, len)) (hnx : pc + len = nx) (hk : zchk own nL isI ret fr lo pc len (.idiv) a bb d cv w = true) (hst : zbr sc (.idiv, nx, a, bb, d, cv, w) L st S M h = some (pc', L', st', S', M', h')) (hrm : cells + (S'.length - S.length) ≤ R.cells ∧ slots + (zsz S' - zsz S) ≤ R.slots) (kk : ZN p l e R s m args below meth c Q dC dI cI cO b base nL pc' L' st' S' M' h' (cells + (S'.length - S.length)) (slots + (zsz S' - zsz S))) : ZN p l e R s m args below meth c Q dC dI cI cO b base nL pc L st S M h cells slots := by
  obtain ⟨hx, hb, hml, hown, hts, hK, hin, hbs⟩ := hC
  have h1 := Nat.eq_of_beq_eq_true hk
  subst h1; subst hnx
  simp only [zbr] at hst
  split at hst
  · next y x r =>
    split at hst
    · next hn =>
      cases hst
      intro hz0 H locs ls hO hS hL hr
      have hx1 : zrn x := hr (.inl x) (List.mem_cons_of_mem _ List.mem_cons_self)
      have hy1 : zrn y := hr (.inl y) List.mem_cons_self
      obtain ⟨e1, e3⟩ := zI_div hx1 hy1 hn.1 hn.2
      refine lv_idiv hx hb hd (fun g => ?_) ?_
      · have := (zI_eq0 hy1).mp g
        omega
      · rw [← e1]
        exact zkk kk hz0 H locs ls hO hS hL (fun v hv => by
          rcases List.mem_cons.mp hv with e2 | e2
          · subst e2; exact e3
          · exact hr v (List.mem_cons_of_mem _ (List.mem_cons_of_mem _ e2)))
    · cases hst
  · cases hst

set_option maxHeartbeats 1000000 in
theorem zs_irem (hC : ZCx p s m args meth c own cc nL isI dC dI cI cO base) (hX : zSc sc b base s) (hR : fr ≤ R.frames ∧ lo ≤ R.locals) {nx a bb d w len pc pc' : Nat} {cv : Int} {L st L' st' : List ZV} {S S' : Sh} {M M' : Me} {h h' : Ml} {cells slots : Nat} (hd : decode cc pc = .ok (.irem, len)) (hnx : pc + len = nx) (hk : zchk own nL isI ret fr lo pc len (.irem) a bb d cv w = true) (hst : zbr sc (.irem, nx, a, bb, d, cv, w) L st S M h = some (pc', L', st', S', M', h')) (hrm : cells + (S'.length - S.length) ≤ R.cells ∧ slots + (zsz S' - zsz S) ≤ R.slots) (kk : ZN p l e R s m args below meth c Q dC dI cI cO b base nL pc' L' st' S' M' h' (cells + (S'.length - S.length)) (slots + (zsz S' - zsz S))) : ZN p l e R s m args below meth c Q dC dI cI cO b base nL pc L st S M h cells slots := by
  obtain ⟨hx, hb, hml, hown, hts, hK, hin, hbs⟩ := hC
  have h1 := Nat.eq_of_beq_eq_true hk
  subst h1; subst hnx
  simp only [zbr] at hst
  split at hst
  · next y x r =>
    split at hst
    · next hn =>
      cases hst
      intro hz0 H locs ls hO hS hL hr
      have hx1 : zrn x := hr (.inl x) (List.mem_cons_of_mem _ List.mem_cons_self)
      have hy1 : zrn y := hr (.inl y) List.mem_cons_self
      obtain ⟨e1, e3⟩ := zI_rem hx1 hy1 hn.1 hn.2
      refine lv_irem hx hb hd (fun g => ?_) ?_
      · have := (zI_eq0 hy1).mp g
        omega
      · rw [← e1]
        exact zkk kk hz0 H locs ls hO hS hL (fun v hv => by
          rcases List.mem_cons.mp hv with e2 | e2
          · subst e2; exact e3
          · exact hr v (List.mem_cons_of_mem _ (List.mem_cons_of_mem _ e2)))
    · cases hst
  · cases hst

set_option maxHeartbeats 1000000 in
theorem zs_iaload (hC : ZCx p s m args meth c own cc nL isI dC dI cI cO base) (hX : zSc sc b base s) (hR : fr ≤ R.frames ∧ lo ≤ R.locals) {nx a bb d w len pc pc' : Nat} {cv : Int} {L st L' st' : List ZV} {S S' : Sh} {M M' : Me} {h h' : Ml} {cells slots : Nat} (hd : decode cc pc = .ok (.iaload, len)) (hnx : pc + len = nx) (hk : zchk own nL isI ret fr lo pc len (.iaload) a bb d cv w = true) (hst : zbr sc (.iaload, nx, a, bb, d, cv, w) L st S M h = some (pc', L', st', S', M', h')) (hrm : cells + (S'.length - S.length) ≤ R.cells ∧ slots + (zsz S' - zsz S) ≤ R.slots) (kk : ZN p l e R s m args below meth c Q dC dI cI cO b base nL pc' L' st' S' M' h' (cells + (S'.length - S.length)) (slots + (zsz S' - zsz S))) : ZN p l e R s m args below meth c Q dC dI cI cO b base nL pc L st S M h cells slots := by
  obtain ⟨hx, hb, hml, hown, hts, hK, hin, hbs⟩ := hC
  have h1 := Nat.eq_of_beq_eq_true hk
  subst h1; subst hnx
  simp only [zbr] at hst
  split at hst
  · next j k r =>
    split at hst
    · next cl n rs hz =>
      split at hst
      · next hn =>
        obtain ⟨hn1, hn2, hn3⟩ := hn
        subst hn1
        cases hst
        intro hz0 H locs ls hO hS hL hr
        have hj : zrn j := hr (.inl j) List.mem_cons_self
        have hw := (zws_get (cI := cI) (cO := cO) (base := base) (M := M) (h := h) hz).1
        refine va_iald (cA := cI) (n := n) (f := fun j => Int32.ofInt (M k j)) hx hb hK.1 hO.1 k 0 hw rfl (zI_vp hj hn2 hn3) hd ?_
        rw [zI_cl hj]
        exact zkk kk hz0 H locs ls hO hS hL (fun v hv => by
          rcases List.mem_cons.mp hv with e2 | e2
          · subst e2; exact hO.2.1 _ _
          · exact hr v (List.mem_cons_of_mem _ (List.mem_cons_of_mem _ e2)))
      · cases hst
    · cases hst
  · next j r =>
    split at hst
    · next n xs =>
      split at hst
      · next hn =>
        cases hst
        obtain ⟨hXX, hbl, hbb, hxs, hn9⟩ := hX
        intro hz0 H locs ls hO hS hL hr
        have hj : zrn j := hr (.inl j) List.mem_cons_self
        refine va_sld hx hb hXX hbl (Nat.not_le.mpr hbb) hS (zI_vp hj hn.1 hn.2) hd ?_
        rw [zI_cl hj]
        exact zkk kk hz0 H locs ls hO hS hL (fun v hv => by
          rcases List.mem_cons.mp hv with e2 | e2
          · subst e2; exact hxs _
          · exact hr v (List.mem_cons_of_mem _ (List.mem_cons_of_mem _ e2)))
      · cases hst
    · cases hst
  · cases hst

theorem zce100 {M : Me} {h : Ml} {k n : Nat} {rs : List (Option Nat)} : zce cI cO base M h k (100, n, rs) = .inl (cI, n, .inl (fun j => Int32.ofInt (M k j))) := rfl
theorem zce101 {M : Me} {h : Ml} {k n : Nat} {rs : List (Option Nat)} : zce cI cO base M h k (101, n, rs) = .inl (cO, n, .inr (.inr (.inr (.inr (fun j => zvo base (zgt rs j)))))) := rfl
set_option maxHeartbeats 1000000 in
theorem zs_iastore (hC : ZCx p s m args meth c own cc nL isI dC dI cI cO base) (hX : zSc sc b base s) (hR : fr ≤ R.frames ∧ lo ≤ R.locals) {nx a bb d w len pc pc' : Nat} {cv : Int} {L st L' st' : List ZV} {S S' : Sh} {M M' : Me} {h h' : Ml} {cells slots : Nat} (hd : decode cc pc = .ok (.iastore, len)) (hnx : pc + len = nx) (hk : zchk own nL isI ret fr lo pc len (.iastore) a bb d cv w = true) (hst : zbr sc (.iastore, nx, a, bb, d, cv, w) L st S M h = some (pc', L', st', S', M', h')) (hrm : cells + (S'.length - S.length) ≤ R.cells ∧ slots + (zsz S' - zsz S) ≤ R.slots) (kk : ZN p l e R s m args below meth c Q dC dI cI cO b base nL pc' L' st' S' M' h' (cells + (S'.length - S.length)) (slots + (zsz S' - zsz S))) : ZN p l e R s m args below meth c Q dC dI cI cO b base nL pc L st S M h cells slots := by
  obtain ⟨hx, hb, hml, hown, hts, hK, hin, hbs⟩ := hC
  have h1 := Nat.eq_of_beq_eq_true hk
  subst h1; subst hnx
  simp only [zbr] at hst
  split at hst
  · next x j k r =>
    split at hst
    · next cl n rs hz =>
      split at hst
      · next hn =>
        obtain ⟨hn1, hn2, hn3⟩ := hn
        subst hn1
        cases hst
        intro hz0 H locs ls hO hS hL hr
        have hx1 : zrn x := hr (.inl x) List.mem_cons_self
        have hj : zrn j := hr (.inl j) (List.mem_cons_of_mem _ List.mem_cons_self)
        obtain ⟨hw, hkl⟩ := zws_get (cI := cI) (cO := cO) (base := base) (M := M) (h := h) hz
        refine va_iast (cA := cI) (n := n) (f := fun j => Int32.ofInt (M k j)) hx hb hK.1 hO.1 zD hS k 0 hw rfl (zI_vp hj hn2 hn3) hd (fun H1 locs1 hP1 _ hS1 => ?_)
        rw [zI_cl hj] at hP1
        have e3 : (upd (fun j => Int32.ofInt (M k j)) j.toNat (Int32.ofInt x)) = fun i => Int32.ofInt (upd2 M k j.toNat x k i) := by
          funext i
          unfold upd
          by_cases hi : i = j.toNat
          · subst hi
            rw [if_pos rfl, upd2_at]
          · rw [if_neg hi, upd2_off hi]
        rw [e3, ← zce100 (cO := cO) (base := base) (h := h) (rs := rs)] at hP1
        have hO1 := hO.putM hkl (fun a ha => upd2_ne ha) (fun _ _ => rfl) (fun i => by
          by_cases hi : i = j.toNat
          · subst hi; rw [upd2_at]; exact hx1
          · rw [upd2_off hi]; exact hO.2.1 k i) hP1
        rw [zset_self hz] at hO1
        exact zkk kk hz0 H1 locs1 ls hO1 hS1 hL (fun v hv => hr v (List.mem_cons_of_mem _ (List.mem_cons_of_mem _ (List.mem_cons_of_mem _ hv))))
      · cases hst
    · cases hst
  · cases hst

set_option maxHeartbeats 1000000 in
theorem zs_aaload (hC : ZCx p s m args meth c own cc nL isI dC dI cI cO base) (hX : zSc sc b base s) (hR : fr ≤ R.frames ∧ lo ≤ R.locals) {nx a bb d w len pc pc' : Nat} {cv : Int} {L st L' st' : List ZV} {S S' : Sh} {M M' : Me} {h h' : Ml} {cells slots : Nat} (hd : decode cc pc = .ok (.aaload, len)) (hnx : pc + len = nx) (hk : zchk own nL isI ret fr lo pc len (.aaload) a bb d cv w = true) (hst : zbr sc (.aaload, nx, a, bb, d, cv, w) L st S M h = some (pc', L', st', S', M', h')) (hrm : cells + (S'.length - S.length) ≤ R.cells ∧ slots + (zsz S' - zsz S) ≤ R.slots) (kk : ZN p l e R s m args below meth c Q dC dI cI cO b base nL pc' L' st' S' M' h' (cells + (S'.length - S.length)) (slots + (zsz S' - zsz S))) : ZN p l e R s m args below meth c Q dC dI cI cO b base nL pc L st S M h cells slots := by
  obtain ⟨hx, hb, hml, hown, hts, hK, hin, hbs⟩ := hC
  have h1 := Nat.eq_of_beq_eq_true hk
  subst h1; subst hnx
  simp only [zbr] at hst
  split at hst
  · next j k r =>
    split at hst
    · next cl n rs hz =>
      split at hst
      · next hn =>
        obtain ⟨hn1, hn2, hn3⟩ := hn
        subst hn1
        split at hst
        · next q hz2 =>
          cases hst
          intro hz0 H locs ls hO hS hL hr
          have hj : zrn j := hr (.inl j) List.mem_cons_self
          have hw := (zws_get (cI := cI) (cO := cO) (base := base) (M := M) (h := h) hz).1
          refine va_aldq (cA := cO) (C := zOff) (n := n) (f := fun j => zvo base (zgt rs j)) hx hb hK.1 hO.1 k 1 hw rfl (zI_vp hj hn2 hn3) hd ?_
          rw [zI_cl hj, hz2]
          exact zkk kk hz0 H locs ls hO hS hL (fun v hv => by
            rcases List.mem_cons.mp hv with e2 | e2
            · subst e2; exact trivial
            · exact hr v (List.mem_cons_of_mem _ (List.mem_cons_of_mem _ e2)))
        · cases hst
      · cases hst
    · cases hst
  · cases hst

set_option maxHeartbeats 1000000 in
theorem zs_aastore (hC : ZCx p s m args meth c own cc nL isI dC dI cI cO base) (hX : zSc sc b base s) (hR : fr ≤ R.frames ∧ lo ≤ R.locals) {nx a bb d w len pc pc' : Nat} {cv : Int} {L st L' st' : List ZV} {S S' : Sh} {M M' : Me} {h h' : Ml} {cells slots : Nat} (hd : decode cc pc = .ok (.aastore, len)) (hnx : pc + len = nx) (hk : zchk own nL isI ret fr lo pc len (.aastore) a bb d cv w = true) (hst : zbr sc (.aastore, nx, a, bb, d, cv, w) L st S M h = some (pc', L', st', S', M', h')) (hrm : cells + (S'.length - S.length) ≤ R.cells ∧ slots + (zsz S' - zsz S) ≤ R.slots) (kk : ZN p l e R s m args below meth c Q dC dI cI cO b base nL pc' L' st' S' M' h' (cells + (S'.length - S.length)) (slots + (zsz S' - zsz S))) : ZN p l e R s m args below meth c Q dC dI cI cO b base nL pc L st S M h cells slots := by
  obtain ⟨hx, hb, hml, hown, hts, hK, hin, hbs⟩ := hC
  have h1 := Nat.eq_of_beq_eq_true hk
  subst h1; subst hnx
  simp only [zbr] at hst
  split at hst
  · next q j k r =>
    split at hst
    · next cl n rs hz =>
      split at hst
      · next cq nq rq hzq =>
        split at hst
        · next hn =>
          obtain ⟨hn1, hn2, hn3, hn4, hn5⟩ := hn
          subst hn1; subst hn4
          cases hst
          have g8 : zsz (S.set k (101, n, rs.set j.toNat (some q))) = zsz S := zsz_set hz rfl
          rw [List.length_set, g8] at kk
          intro hz0 H locs ls hO hS hL hr
          have hj : zrn j := hr (.inl j) (List.mem_cons_of_mem _ List.mem_cons_self)
          obtain ⟨hw, hkl⟩ := zws_get (cI := cI) (cO := cO) (base := base) (M := M) (h := h) hz
          have hwq := (zws_get (cI := cI) (cO := cO) (base := base) (M := M) (h := h) hzq).1
          rw [zce_obj (by omega)] at hwq
          refine va_astq (cA := cO) (r := (RX3, TX3, 11)) (n := n) (f := fun j => zvo base (zgt rs j)) hx hb hK.1 hO.1 zD hS k 1 q 3 hw rfl hwq rfl (zI_vp hj hn2 hn3) hd (fun H1 locs1 hP1 _ hS1 => ?_)
          rw [zI_cl hj] at hP1
          have e3 : (va_up (fun j => zvo base (zgt rs j)) j.toNat (some (base + q))) = fun i => zvo base (zgt (rs.set j.toNat (some q)) i) := by
            funext i
            unfold va_up
            rw [zgt_eq, List.getElem?_set]
            by_cases hi : i = j.toNat
            · subst hi
              rw [if_pos rfl, if_pos rfl, if_pos hn5]; rfl
            · rw [if_neg hi, if_neg (fun e => hi e.symm), ← zgt_eq]
          rw [e3, ← zce101 (cI := cI) (M := M) (h := h) (k := k)] at hP1
          have hO1 := hO.putM (h' := h) hkl (fun _ _ => rfl) (fun _ _ => rfl) (fun i => hO.2.1 k i) hP1
          exact zkk kk (by rw [List.length_set]; exact hz0) H1 locs1 ls hO1 hS1 hL (fun v hv => hr v (List.mem_cons_of_mem _ (List.mem_cons_of_mem _ (List.mem_cons_of_mem _ hv))))
        · cases hst
      · cases hst
    · cases hst
  · cases hst

set_option maxHeartbeats 1000000 in
theorem zs_tableswitch (hC : ZCx p s m args meth c own cc nL isI dC dI cI cO base) (hX : zSc sc b base s) (hR : fr ≤ R.frames ∧ lo ≤ R.locals) {nx a bb d w len pc pc' : Nat} {cv : Int} {L st L' st' : List ZV} {S S' : Sh} {M M' : Me} {h h' : Ml} {cells slots : Nat} {df lw hi : Int} {offs : Array Int} (hd : decode cc pc = .ok (.tableswitch df lw hi offs, len)) (hnx : pc + len = nx) (hk : zchk own nL isI ret fr lo pc len (.tableswitch df lw hi offs) a bb d cv w = true) (hst : zbr sc (.tableswitch df lw hi offs, nx, a, bb, d, cv, w) L st S M h = some (pc', L', st', S', M', h')) (hrm : cells + (S'.length - S.length) ≤ R.cells ∧ slots + (zsz S' - zsz S) ≤ R.slots) (kk : ZN p l e R s m args below meth c Q dC dI cI cO b base nL pc' L' st' S' M' h' (cells + (S'.length - S.length)) (slots + (zsz S' - zsz S))) : ZN p l e R s m args below meth c Q dC dI cI cO b base nL pc L st S M h cells slots := by
  obtain ⟨hx, hb, hml, hown, hts, hK, hin, hbs⟩ := hC
  simp only [zchk, Bool.and_eq_true] at hk
  obtain ⟨⟨h1, h2⟩, h3⟩ := hk
  have h1 := of_decide_eq_true h1
  have h2 := of_decide_eq_true h2
  subst h1
  simp only [zbr] at hst
  split at hst
  · next x r =>
    split at hst
    · next hn =>
      cases hst
      intro hz0 H locs ls hO hS hL hr
      have hx1 : zrn x := hr (.inl x) List.mem_cons_self
      refine lv_tableOut hx hb hd (by rw [zI_in hx1]; exact hn) (Int.toNat_of_nonneg h2).symm ?_
      exact zkk kk hz0 H locs ls hO hS hL (fun v hv => hr v (List.mem_cons_of_mem _ hv))
    · next hn =>
      split at hst
      · next off hoff =>
        cases hst
        intro hz0 H locs ls hO hS hL hr
        have hx1 : zrn x := hr (.inl x) List.mem_cons_self
        rw [zgt_eq] at hoff
        have h4 := of_decide_eq_true (List.all_eq_true.mp h3 off (List.mem_of_getElem? hoff))
        refine lv_tableIn hx hb hd (off := off) (by rw [zI_in hx1]; omega) (by rw [zI_in hx1]; omega) (by rw [zI_in hx1, ← Array.getElem?_toList]; exact hoff) (Int.toNat_of_nonneg h4).symm ?_
        exact zkk kk hz0 H locs ls hO hS hL (fun v hv => hr v (List.mem_cons_of_mem _ hv))
      · cases hst
  · cases hst

set_option maxHeartbeats 1000000 in
theorem zs_acopy (hC : ZCx p s m args meth c own cc nL isI dC dI cI cO base) (hX : zSc sc b base s) (hR : fr ≤ R.frames ∧ lo ≤ R.locals) {nx a bb d w len pc pc' : Nat} {cv : Int} {L st L' st' : List ZV} {S S' : Sh} {M M' : Me} {h h' : Ml} {cells slots : Nat} {k : Nat} (hd : decode cc pc = .ok (.invokestatic k, len)) (hnx : pc + len = nx) (hk : zchk own nL isI ret fr lo pc len (.invokestatic k) a bb d cv w = true) (hst : zbr sc (.invokestatic k, nx, a, bb, d, cv, w) L st S M h = some (pc', L', st', S', M', h')) (hrm : cells + (S'.length - S.length) ≤ R.cells ∧ slots + (zsz S' - zsz S) ≤ R.slots) (kk : ZN p l e R s m args below meth c Q dC dI cI cO b base nL pc' L' st' S' M' h' (cells + (S'.length - S.length)) (slots + (zsz S' - zsz S))) : ZN p l e R s m args below meth c Q dC dI cI cO b base nL pc L st S M h cells slots := by
  obtain ⟨hx, hb, hml, hown, hts, hK, hin, hbs⟩ := hC
  obtain ⟨h1, h2⟩ := zlen1 hk
  subst h1; subst hnx
  simp only [zbr] at hst
  split at hst
  · split at hst
    · next n dp k2 sp k1 r =>
      simp only [Bool.and_eq_true] at h2
      obtain ⟨⟨h2, h3⟩, h4⟩ := h2
      have h2 := of_decide_eq_true h2
      have h3 := of_decide_eq_true h3
      have h4 := zin_mem h4
      split at hst
      · next c1 n1 r1 hz1 =>
        split at hst
        · next c2 n2 r2 hz2 =>
          split at hst
          · next hn =>
            obtain ⟨hn1, hn2, hn3, hn4, hn5, hn6, hn7, hn8⟩ := hn
            subst hn1; subst hn2
            cases hst
            intro hz0 H locs ls hO hS hL hr
            have rn : zrn n := hr (.inl n) List.mem_cons_self
            have rd : zrn dp := hr (.inl dp) (List.mem_cons_of_mem _ List.mem_cons_self)
            have rs : zrn sp := hr (.inl sp) (List.mem_cons_of_mem _ (List.mem_cons_of_mem _ (List.mem_cons_of_mem _ List.mem_cons_self)))
            have hw1 := (zws_get (cI := cI) (cO := cO) (base := base) (M := M) (h := h) hz1).1
            obtain ⟨hw2, hkl⟩ := zws_get (cI := cI) (cO := cO) (base := base) (M := M) (h := h) hz2
            refine va_copyi (own := own) (c0 := cI) (c1 := cI) (n0 := n1) (n1 := n2) (f := fun j => Int32.ofInt (M k1 j)) (g := fun j => Int32.ofInt (M k2 j)) (ty := .int) hx hb (by rw [hml]; exact hL.size.symm) hown (hts _ h4) (hts _ zg12) (hts _ zg11) (hts _ zg1) hK.1 hO.1 zD hS k1 k2 0 0 hw1 hw2 rfl rfl rfl (by rw [zI_lt0 rs]; omega) (by rw [zI_lt0 rd]; omega) (by rw [zI_lt0 rn]; omega) (by rw [zI_cl rs, zI_cl rn]; omega) (by rw [zI_cl rd, zI_cl rn]; omega) (fun i _ => rfl) (by omega) (by rw [zv_wt]; show zwt st' + 18 ≤ _; omega) hd (fun H1 locs1 hP1 _ hS1 => ?_)
            rw [zI_cl rs, zI_cl rd, zI_cl rn] at hP1
            have e3 : va_cpy (fun j => Int32.ofInt (M k1 j)) (fun j => Int32.ofInt (M k2 j)) sp.toNat dp.toNat n.toNat = fun i => Int32.ofInt (cpy2 M k1 k2 sp.toNat dp.toNat n.toNat k2 i) := by
              funext i
              unfold va_cpy cpy2
              by_cases hi : dp.toNat ≤ i ∧ i < dp.toNat + n.toNat
              · rw [if_pos hi, if_pos ⟨rfl, hi.1, hi.2⟩]
              · rw [if_neg hi, if_neg (fun q => hi q.2)]
            rw [e3, ← zce100 (cO := cO) (base := base) (h := h) (rs := r2)] at hP1
            have hO1 := hO.putM hkl (fun a ha => by
              funext i
              unfold cpy2
              rw [if_neg (fun q => ha q.1)]) (fun _ _ => rfl) (fun i => by
              unfold cpy2
              split
              · exact hO.2.1 _ _
              · exact hO.2.1 _ _) hP1
            rw [zset_self hz2] at hO1
            exact zkk kk hz0 H1 locs1 ls hO1 hS1 hL (fun v hv => hr v (List.mem_cons_of_mem _ (List.mem_cons_of_mem _ (List.mem_cons_of_mem _ (List.mem_cons_of_mem _ (List.mem_cons_of_mem _ hv))))))
          · cases hst
        · cases hst
      · cases hst
    · cases hst
  · cases hst

end ZCH
end
section
section ZDI
variable {p : Program} {l : Launch} {e : Env} {R : Room} {s : State} {m : MethodId} {args : Array Value} {below : List Frame} {meth : Method} {c : Code} {Q : State → Prop} {dC : Nat → ClassId} {dI : Nat → Nat → Nat} {cI cO : ClassId} {b base : Nat} {own : String} {cc : ByteArray} {nL : Nat} {isI : Bool} {ret : Option FieldType} {fr lo : Nat} {sc : Sc}
set_option maxHeartbeats 4000000 in
theorem zst_ok {i : Instr} (hC : ZCx p s m args meth c own cc nL isI dC dI cI cO base) (hX : zSc sc b base s) (hR : fr ≤ R.frames ∧ lo ≤ R.locals) {nx a bb d w len pc pc' : Nat} {cv : Int} {L st L' st' : List ZV} {S S' : Sh} {M M' : Me} {h h' : Ml} {cells slots : Nat} (hd : decode cc pc = .ok (i, len)) (hnx : pc + len = nx) (hk : zchk own nL isI ret fr lo pc len i a bb d cv w = true) (hst : zst sc (i, nx, a, bb, d, cv, w) L st S M h = some (pc', L', st', S', M', h')) (hrm : cells + (S'.length - S.length) ≤ R.cells ∧ slots + (zsz S' - zsz S) ≤ R.slots) (kk : ZN p l e R s m args below meth c Q dC dI cI cO b base nL pc' L' st' S' M' h' (cells + (S'.length - S.length)) (slots + (zsz S' - zsz S))) : ZN p l e R s m args below meth c Q dC dI cI cO b base nL pc L st S M h cells slots := by
  cases i
  case iconst => exact zs_iconst hC hX hR hd hnx hk hst hrm kk
  case bipush => exact zs_bipush hC hX hR hd hnx hk hst hrm kk
  case sipush => exact zs_sipush hC hX hR hd hnx hk hst hrm kk
  case ldc => exact zs_ldc hC hX hR hd hnx hk hst hrm kk
  case ldc_w => exact zs_ldc_w hC hX hR hd hnx hk hst hrm kk
  case ldc2_w => exact zs_ldc2_w hC hX hR hd hnx hk hst hrm kk
  case iload => exact zs_iload hC hX hR hd hnx hk hst hrm kk
  case iload_n => exact zs_iload_n hC hX hR hd hnx hk hst hrm kk
  case lload => exact zs_lload hC hX hR hd hnx hk hst hrm kk
  case lload_n => exact zs_lload_n hC hX hR hd hnx hk hst hrm kk
  case aload => exact zs_aload hC hX hR hd hnx hk hst hrm kk
  case aload_n => exact zs_aload_n hC hX hR hd hnx hk hst hrm kk
  case istore => exact zs_istore hC hX hR hd hnx hk hst hrm kk
  case istore_n => exact zs_istore_n hC hX hR hd hnx hk hst hrm kk
  case lstore => exact zs_lstore hC hX hR hd hnx hk hst hrm kk
  case lstore_n => exact zs_lstore_n hC hX hR hd hnx hk hst hrm kk
  case astore => exact zs_astore hC hX hR hd hnx hk hst hrm kk
  case astore_n => exact zs_astore_n hC hX hR hd hnx hk hst hrm kk
  case iinc => exact zs_iinc hC hX hR hd hnx hk hst hrm kk
  case iadd => exact zs_iadd hC hX hR hd hnx hk hst hrm kk
  case isub => exact zs_isub hC hX hR hd hnx hk hst hrm kk
  case imul => exact zs_imul hC hX hR hd hnx hk hst hrm kk
  case ineg => exact zs_ineg hC hX hR hd hnx hk hst hrm kk
  case iand => exact zs_iand hC hX hR hd hnx hk hst hrm kk
  case ior => exact zs_ior hC hX hR hd hnx hk hst hrm kk
  case ixor => exact zs_ixor hC hX hR hd hnx hk hst hrm kk
  case ishl => exact zs_ishl hC hX hR hd hnx hk hst hrm kk
  case ishr => exact zs_ishr hC hX hR hd hnx hk hst hrm kk
  case iushr => exact zs_iushr hC hX hR hd hnx hk hst hrm kk
  case i2l => exact zs_i2l hC hX hR hd hnx hk hst hrm kk
  case lmul => exact zs_lmul hC hX hR hd hnx hk hst hrm kk
  case ladd => exact zs_ladd hC hX hR hd hnx hk hst hrm kk
  case lcmp => exact zs_lcmp hC hX hR hd hnx hk hst hrm kk
  case dup => exact zs_dup hC hX hR hd hnx hk hst hrm kk
  case dup2 => exact zs_dup2 hC hX hR hd hnx hk hst hrm kk
  case pop => exact zs_pop hC hX hR hd hnx hk hst hrm kk
  case goto => exact zs_goto hC hX hR hd hnx hk hst hrm kk
  case ifnonnull => exact zs_ifnonnull hC hX hR hd hnx hk hst hrm kk
  case arraylength => exact zs_arraylength hC hX hR hd hnx hk hst hrm kk
  case getfield => exact zs_getfield hC hX hR hd hnx hk hst hrm kk
  case putfield => exact zs_putfield hC hX hR hd hnx hk hst hrm kk
  case new => exact zs_new hC hX hR hd hnx hk hst hrm kk
  case invokespecial => exact zs_objinit hC hX hR hd hnx hk hst hrm kk
  case invokestatic => exact zs_math hC hX hR hd hnx hk hst hrm kk
  all_goals (exact absurd hst (by unfold zst; exact fun q => nomatch q))
set_option maxHeartbeats 4000000 in
theorem zbr_ok {i : Instr} (hC : ZCx p s m args meth c own cc nL isI dC dI cI cO base) (hX : zSc sc b base s) (hR : fr ≤ R.frames ∧ lo ≤ R.locals) {nx a bb d w len pc pc' : Nat} {cv : Int} {L st L' st' : List ZV} {S S' : Sh} {M M' : Me} {h h' : Ml} {cells slots : Nat} (hd : decode cc pc = .ok (i, len)) (hnx : pc + len = nx) (hk : zchk own nL isI ret fr lo pc len i a bb d cv w = true) (hst : zbr sc (i, nx, a, bb, d, cv, w) L st S M h = some (pc', L', st', S', M', h')) (hrm : cells + (S'.length - S.length) ≤ R.cells ∧ slots + (zsz S' - zsz S) ≤ R.slots) (kk : ZN p l e R s m args below meth c Q dC dI cI cO b base nL pc' L' st' S' M' h' (cells + (S'.length - S.length)) (slots + (zsz S' - zsz S))) : ZN p l e R s m args below meth c Q dC dI cI cO b base nL pc L st S M h cells slots := by
  cases i
  case if_icmp => exact zs_if_icmp hC hX hR hd hnx hk hst hrm kk
  case ifCond => exact zs_ifCond hC hX hR hd hnx hk hst hrm kk
  case idiv => exact zs_idiv hC hX hR hd hnx hk hst hrm kk
  case irem => exact zs_irem hC hX hR hd hnx hk hst hrm kk
  case iaload => exact zs_iaload hC hX hR hd hnx hk hst hrm kk
  case iastore => exact zs_iastore hC hX hR hd hnx hk hst hrm kk
  case aaload => exact zs_aaload hC hX hR hd hnx hk hst hrm kk
  case aastore => exact zs_aastore hC hX hR hd hnx hk hst hrm kk
  case newarray => exact zs_newarray hC hX hR hd hnx hk hst hrm kk
  case anewarray => exact zs_anewarray hC hX hR hd hnx hk hst hrm kk
  case tableswitch => exact zs_tableswitch hC hX hR hd hnx hk hst hrm kk
  case invokestatic => exact zs_acopy hC hX hR hd hnx hk hst hrm kk
  all_goals (exact absurd hst (by unfold zbr; exact fun q => nomatch q))
end ZDI
set_option maxHeartbeats 4000000 in
theorem zst_mono {sc : Sc} {i : Instr} {nx a bb d w pc' : Nat} {cv : Int} {L st L' st' : List ZV} {S S' : Sh} {M M' : Me} {h h' : Ml} (hst : zst sc (i, nx, a, bb, d, cv, w) L st S M h = some (pc', L', st', S', M', h')) : S.length ≤ S'.length ∧ zsz S ≤ zsz S' := by
  cases i
  case new =>
    simp only [zst] at hst
    cases hst
    rw [zsz_app, List.length_append]
    exact ⟨Nat.le_add_right _ _, Nat.le_add_right _ _⟩
  case putfield =>
    simp only [zst, Bool.cond_eq_ite] at hst
    repeat' split at hst
    all_goals first
      | (cases hst; done)
      | (cases hst; exact ⟨Nat.le_refl _, Nat.le_refl _⟩)
      | (next hz _ _ _ _ _ _ => cases hst; rw [List.length_set, zsz_set hz (by simp)]; exact ⟨Nat.le_refl _, Nat.le_refl _⟩)
      | (rename_i hz _ _ _ _ _ _; cases hst; rw [List.length_set, zsz_set hz (by simp)]; exact ⟨Nat.le_refl _, Nat.le_refl _⟩)
      | (cases hst; rw [List.length_set, zsz_set (by assumption) (by simp)]; exact ⟨Nat.le_refl _, Nat.le_refl _⟩)
  all_goals first
    | (simp only [zst, reduceCtorEq] at hst; done)
    | (simp only [zst] at hst; cases hst; exact ⟨Nat.le_refl _, Nat.le_refl _⟩)
    | (simp only [zst, Bool.cond_eq_ite] at hst
       repeat' split at hst
       all_goals first
         | (cases hst; done)
         | (cases hst; exact ⟨Nat.le_refl _, Nat.le_refl _⟩)
         | (obtain ⟨_, hst⟩ := zput_some hst; cases hst; exact ⟨Nat.le_refl _, Nat.le_refl _⟩)
         | (obtain ⟨_, hst⟩ := zput_some hst; obtain ⟨_, hst⟩ := zput_some hst; cases hst; exact ⟨Nat.le_refl _, Nat.le_refl _⟩))
set_option maxHeartbeats 4000000 in
theorem zbr_mono {sc : Sc} {i : Instr} {nx a bb d w pc' : Nat} {cv : Int} {L st L' st' : List ZV} {S S' : Sh} {M M' : Me} {h h' : Ml} (hst : zbr sc (i, nx, a, bb, d, cv, w) L st S M h = some (pc', L', st', S', M', h')) : S.length ≤ S'.length ∧ zsz S ≤ zsz S' := by
  cases i
  case newarray =>
    simp only [zbr] at hst
    repeat' split at hst
    all_goals first
      | (cases hst; done)
      | (cases hst; rw [zsz_app, List.length_append]; exact ⟨Nat.le_add_right _ _, Nat.le_add_right _ _⟩)
  case anewarray =>
    simp only [zbr] at hst
    repeat' split at hst
    all_goals first
      | (cases hst; done)
      | (cases hst; rw [zsz_app, List.length_append]; exact ⟨Nat.le_add_right _ _, Nat.le_add_right _ _⟩)
  case aastore =>
    simp only [zbr] at hst
    split at hst
    · split at hst
      · next hz =>
        split at hst
        · split at hst
          · cases hst
            rw [List.length_set, zsz_set hz (by simp)]
            exact ⟨Nat.le_refl _, Nat.le_refl _⟩
          · cases hst
        · cases hst
      · cases hst
    · cases hst
  all_goals first
    | (simp only [zbr, reduceCtorEq] at hst; done)
    | (simp only [zbr] at hst
       repeat' split at hst
       all_goals first
         | (cases hst; done)
         | (cases hst; exact ⟨Nat.le_refl _, Nat.le_refl _⟩))
end
section
section ZCA
variable {p : Program} {l : Launch} {e : Env} {R : Room} {s : State} {m : MethodId} {args : Array Value} {below : List Frame} {meth : Method} {c : Code} {Q : State → Prop} {dC : Nat → ClassId} {dI : Nat → Nat → Nat} {cI cO : ClassId} {b base : Nat} {own : String} {cc : ByteArray} {nL : Nat} {isI : Bool} {ret : Option FieldType} {fr lo : Nat} {sc : Sc}
theorem zca2_spec : ∀ {n : Nat} {st acc as r : List ZV}, zca2 n st acc = some (as, r) → ∃ pre, st = pre ++ r ∧ as = pre.reverse ++ acc ∧ pre.length = n := by
  intro n
  induction n with
  | zero => intro st acc as r h; cases h; exact ⟨[], rfl, rfl, rfl⟩
  | succ n ih =>
    intro st acc as r h
    cases st with
    | nil => cases h
    | cons v st =>
      obtain ⟨pre, h1, h2, h3⟩ := ih (st := st) (acc := v :: acc) h
      refine ⟨v :: pre, by rw [h1]; rfl, ?_, by rw [List.length_cons, h3]⟩
      rw [h2, List.reverse_cons, List.append_assoc]; rfl
theorem zpad_len : ∀ (n : Nat) (l : List ZV), l.length ≤ n → (zpad n l).length = n := by
  intro n
  induction n with
  | zero => intro l h; cases l with
    | nil => rfl
    | cons a l => exact absurd h (Nat.not_succ_le_zero _)
  | succ n ih =>
    intro l h
    cases l with
    | nil => show (zpad n []).length + 1 = n + 1; rw [ih [] (Nat.zero_le _)]
    | cons a l => show (zpad n l).length + 1 = n + 1; rw [ih l (Nat.le_of_succ_le_succ h)]
theorem zpad_at : ∀ (n : Nat) (l : List ZV) (j : Nat) (v : ZV), (zpad n l)[j]? = some v → v ≠ zn → l[j]? = some v := by
  intro n
  induction n with
  | zero => intro l j v h _; cases l <;> exact h
  | succ n ih =>
    intro l j v h hn
    cases l with
    | nil =>
      cases j with
      | zero => exact absurd (Option.some.inj h).symm hn
      | succ j => exact absurd (ih [] j v h hn) (by simp)
    | cons a l =>
      cases j with
      | zero => exact h
      | succ j => exact ih l j v h hn
theorem zpad_all : ∀ (n : Nat) (l : List ZV), (∀ v ∈ l, zrv v) → ∀ v ∈ zpad n l, zrv v := by
  intro n
  induction n with
  | zero => intro l h; cases l <;> exact h
  | succ n ih =>
    intro l h v hv
    cases l with
    | nil =>
      rcases List.mem_cons.mp hv with e1 | e1
      · subst e1; exact trivial
      · exact ih [] h v e1
    | cons a l =>
      rcases List.mem_cons.mp hv with e1 | e1
      · subst e1; exact h _ List.mem_cons_self
      · exact ih l (fun u hu => h u (List.mem_cons_of_mem _ hu)) v e1
theorem zex_all : ∀ (l : List ZV), (∀ v ∈ l, zrv v) → ∀ v ∈ zex l, zrv v := by
  intro l
  induction l with
  | nil => intro _ v hv; cases hv
  | cons a l ih =>
    intro h v hv
    have ih' := ih (fun u hu => h u (List.mem_cons_of_mem _ hu))
    rcases a with x | y | q
    · rcases List.mem_cons.mp hv with e1 | e1
      · subst e1; exact h _ List.mem_cons_self
      · exact ih' v e1
    · rcases List.mem_cons.mp hv with e1 | e1
      · subst e1; exact trivial
      rcases List.mem_cons.mp e1 with e1 | e1
      · subst e1; exact trivial
      · exact ih' v e1
    · rcases List.mem_cons.mp hv with e1 | e1
      · subst e1; exact trivial
      · exact ih' v e1
theorem zex_len : ∀ (l : List ZV), (lg_sl (l.map (zv b base))).length = (zex l).length := by
  intro l
  induction l with
  | nil => rfl
  | cons a l ih =>
    unfold lg_sl at ih ⊢
    rw [List.map_cons, List.flatMap_cons, List.length_append, ih, zv_cat]
    rcases a with x | y | q
    · show 1 + (zex l).length = (zex l).length + 1; omega
    · show 2 + (zex l).length = (zex l).length + 1 + 1; omega
    · show 1 + (zex l).length = (zex l).length + 1; omega
theorem zex_at : ∀ (l : List ZV) (i j : Nat) (v : ZV), (zex l)[j]? = some v → v ≠ zn → (i + j, zv b base v) ∈ lv_args i (l.map (zv b base)) := by
  intro l
  induction l with
  | nil => intro i j v h; cases h
  | cons a l ih =>
    intro i j v h hn
    rw [List.map_cons]
    unfold lv_args
    rw [zv_cat]
    rcases a with x | y | q
    · cases j with
      | zero => cases h; exact List.mem_cons_self
      | succ j =>
        have := ih (i + 1) j v h hn
        rw [show i + 1 + j = i + (j + 1) by omega] at this
        exact List.mem_cons_of_mem _ this
    · cases j with
      | zero => cases h; exact List.mem_cons_self
      | succ j =>
        cases j with
        | zero => exact absurd (Option.some.inj h).symm hn
        | succ j =>
          have := ih (i + 2) j v h hn
          rw [show i + 2 + j = i + (j + 1 + 1) by omega] at this
          exact List.mem_cons_of_mem _ this
    · cases j with
      | zero => cases h; exact List.mem_cons_self
      | succ j =>
        have := ih (i + 1) j v h hn
        rw [show i + 1 + j = i + (j + 1) by omega] at this
        exact List.mem_cons_of_mem _ this
theorem zentry {as : List ZV} {nl : Nat} (h : (zex as).length ≤ nl) (hr : ∀ v ∈ as, zrv v) : RelL b base ((lg_sl (as.map (zv b base)) ++ List.replicate (nl - (lg_sl (as.map (zv b base))).length) Slot.unset).toArray) nl (zpad nl (zex as)) := by
  have h1 := lv_entry (as.map (zv b base)) (n := nl) (by rw [zex_len]; exact h)
  refine ⟨zpad_len nl _ h, ⟨h1.1, h1.2.1, ?_⟩, zpad_all nl _ (zex_all as hr)⟩
  rintro ⟨j, u⟩ hq
  obtain ⟨v, hv, hn, rfl⟩ := asL_mem.mp hq
  have := zex_at (b := b) (base := base) as 0 j v (zpad_at nl _ j v hv hn) hn
  rw [Nat.zero_add] at this
  exact h1.2.2 (j, zv b base v) this
theorem ZK.warm {U : State} (h : ZK dC dI cI cO s) (hW : s.WarmedH U.vm) : ZK dC dI cI cO U := ⟨va_K.moved hW.alike h.1, va_Nw.warmM hW h.2.1, va_Nw.warmM hW h.2.2.1, va_AO.moved hW.alike h.2.2.2⟩
def ZPc (sc : Sc) (dC : Nat → ClassId) (dI : Nat → Nat → Nat) (cI cO : ClassId) (b base : Nat) (as : List ZV) (S : Sh) (M : Me) (h : Ml) : Array Value → State → Prop := va_Pc (as.map (zv b base)) (fun U => zSc sc b base U ∧ WO dC dI cI cO base S M h U.heap ∧ U.heap.size = base + S.length ∧ ZK dC dI cI cO U)
def ZQc (dC : Nat → ClassId) (dI : Nat → Nat → Nat) (cI cO : ClassId) (b base : Nat) (rv : Option ZV) (S : Sh) (M : Me) (h : Ml) : Array Value → State → Outcome → State → Prop := fun _ st o t => (o = .returned (rv.map (zv b base)) ∧ (∀ v, rv = some v → zrv v) ∧ WO dC dI cI cO base S M h t.heap) ∧ va_F (fun q => base ≤ q) st t
theorem ZPc.blind {as : List ZV} {S : Sh} {M : Me} {h : Ml} : FrameBlind (ZPc sc dC dI cI cO b base as S M h) := fun a U g mk q => ⟨q.1, zSc.call (U := U) (U' := U.calling g mk a) q.2.1 (Vm.Alike.refl U.vm) rfl, q.2.2.1, q.2.2.2.1, va_K.moved (u := U) (U := U.calling g mk a) (Vm.Alike.refl U.vm) q.2.2.2.2.1, va_Nw.same rfl rfl q.2.2.2.2.2.1, va_Nw.same rfl rfl q.2.2.2.2.2.2.1, va_AO.moved (u := U) (U := U.calling g mk a) (Vm.Alike.refl U.vm) q.2.2.2.2.2.2.2⟩
theorem TB.good {w : Cond} (h : w ∈ TB) : ((w.onTables && w.keeps) = true ∨ ∃ ty, w = .arrayClass ty) := good_of_word (List.mem_filter.mp h).2
theorem zpay {w0 : Cond} (h0 : w0 ∈ TB) (hts : ∀ w ∈ TB, w.before args s = true) : ∀ w ∈ w0 :: TB, ∀ (a' : Array Value) (U : State), s.WarmedH U.vm → w.before a' U = true :=
  pay_in hts (fun w hw => by
    rcases List.mem_cons.mp hw with e1 | e1
    · subst e1; exact ⟨h0, TB.good h0⟩
    · exact ⟨e1, TB.good e1⟩)
/-- behind a call -/
theorem zback {H : Heap} {locs : List Loc} {cells slots mc ms pc : Nat} {ls : Array Slot} {st0 rest : List Value} {rv : Option ZV} {S : Sh} {M : Me} {h : Ml} {a : Array Value} (hr : va_Run p l e R s m args below meth c H locs cells slots mc ms (F0 m pc ls st0) rest (ZQc dC dI cI cO b base rv S M h a) (fun q => base ≤ q)) (hS : va_S (fun q => base ≤ q) s.heap H locs)
    (kk : ∀ (H1 : Heap) (locs1 : List Loc), WO dC dI cI cO base S M h H1 → (∀ v, rv = some v → zrv v) → va_S (fun q => base ≤ q) s.heap H1 locs1 → W p l e R s m args below meth c H1 locs1 (cells + mc) (slots + ms) Q (F0 m (pc + 3) ls ((rv.map (zv b base)).toList ++ rest))) : W p l e R s m args below meth c H locs cells slots Q (F0 m pc ls st0) := by
  intro T hT X
  obtain ⟨v, st₀, t, T', L, h0, X', hL, e1, e2, ⟨⟨hv, hvr, hb⟩, hz, hk⟩, st⟩ := hr T hT X
  cases hv
  rw [h0] at hz hk
  obtain ⟨t2, a1, b1⟩ := kk T'.heap (locs ++ L) (by rw [e1]; exact hb) hvr ⟨Nat.le_trans hS.1 (by rw [e1]; exact hz), fun q h1 h2 => by rw [e1, hk q (Nat.lt_of_lt_of_le h1 hS.1) h2]; exact hS.2.1 q h1 h2, fun q hq => by
      rcases List.mem_append.mp hq with h | h
      · exact hS.2.2 q h
      · exact hL q h⟩ T' rfl X'
  exact ⟨t2, st t2 a1, b1⟩
/-- a method's contract, of the small machine's answer -/
def ZM (sc : Sc) (r : Mr) (as : List ZV) (S : Sh) (M : Me) (h : Ml) (rv : Option ZV) (S' : Sh) (M' : Me) (h' : Ml) : Prop := ∀ (l : Launch) (dC : Nat → ClassId) (dI : Nat → Nat → Nat) (cI cO : ClassId) (b base : Nat), Met l r.2.2.1 (.code r.2.2.1 r.2.2.2.1 r.2.1 r.2.2.2.2.1 :: TB) ({ frames := r.2.2.2.2.2.1, cells := S'.length - S.length, slots := zsz S' - zsz S, locals := r.2.2.2.2.2.2.1 }) (ZPc sc dC dI cI cO b base as S M h) (ZQc dC dI cI cO b base rv S' M' h') (S'.length - S.length) (zsz S' - zsz S) (fun q => base ≤ q)
theorem zns_len {y : MethodName} {n x : Nat} (h : Nat.beq (zns y + x) n = true) (sig : MethodDescriptor) (hp : parseMethodDescriptor y.desc = some sig) : n = sig.parameters.length + x := by
  have h1 := Nat.eq_of_beq_eq_true h
  unfold zns at h1
  rw [hp] at h1
  exact h1.symm
set_option maxHeartbeats 4000000 in
theorem zca_ok {i : Instr} (hC : ZCx p s m args meth c own cc nL isI dC dI cI cO base) (hX : zSc sc b base s) (hR : fr ≤ R.frames ∧ lo ≤ R.locals) {nx a bb d w len pc nx' : Nat} {cv : Int} {L st L0 r : List ZV} {S S' : Sh} {M M' : Me} {h h' : Ml} {T' : CT} {rv : Option ZV} {cells slots : Nat} (hd : decode cc pc = .ok (i, len)) (hnx : pc + len = nx) (hk : zchk own nL isI ret fr lo pc len i a bb d cv w = true) (hca : zca (i, nx, a, bb, d, cv, w) st S = some (T', L0, nx', r))
    (hcal : ∀ (k : Nat) (rc : Mr) (as : List ZV), zgt zMRs k = some rc → rc.1 = T' → (zex as).length ≤ rc.2.1 → L0 = zpad rc.2.1 (zex as) → (∀ v ∈ as, zrv v) → ZM sc rc as S M h rv S' M' h' ∧ zchkM rc = true)
    (hrm : cells + (S'.length - S.length) ≤ R.cells ∧ slots + (zsz S' - zsz S) ≤ R.slots) (hsl : S.length ≤ S'.length) (kk : ZN p l e R s m args below meth c Q dC dI cI cO b base nL nx' L (zpush rv r) S' M' h' (cells + (S'.length - S.length)) (slots + (zsz S' - zsz S))) : ZN p l e R s m args below meth c Q dC dI cI cO b base nL pc L st S M h cells slots := by
  obtain ⟨hx, hb, hml, hown, hts, hK, hin, hbs⟩ := hC
  have key : ∀ (a0 : Nat), zcl (a0 + 1) bb nx st = some (T', L0, nx', r) → (∀ (rc : Mr) (as : List ZV), zgt zMRs a0 = some rc → st = as.reverse ++ r → as.length = bb → zwt r ≤ 8 → (∀ v ∈ st, zrv v) → nx' = nx → ZM sc rc as S M h rv S' M' h' → zchkM rc = true → ∀ (H : Heap) (locs : List Loc) (ls : Array Slot), WO dC dI cI cO base S M h H → H.size = base + S.length → va_S (fun q => base ≤ q) s.heap H locs → RelL b base ls nL L → ∃ a, va_Run p l e R s m args below meth c H locs cells slots (S'.length - S.length) (zsz S' - zsz S) (F0 m pc ls (st.map (zv b base))) (r.map (zv b base)) (ZQc dC dI cI cO b base rv S' M' h' a) (fun q => base ≤ q)) → pc + 3 = nx → ZN p l e R s m args below meth c Q dC dI cI cO b base nL pc L st S M h cells slots := by
    intro a0 hcl hrun h3
    unfold zcl at hcl
    split at hcl
    · next h0 => exact absurd h0 (Nat.succ_ne_zero _)
    · next a1 h0 =>
      cases Nat.succ.inj h0
      split at hcl
      · next T1 nl rest hrc =>
        split at hcl
        · next as r1 has =>
          cases hc1 : Nat.ble (zwt r1) 8 with
          | false => rw [hc1, cond_false] at hcl; cases hcl
          | true =>
          cases hc2 : Nat.ble (zex as).length nl with
          | false => rw [hc1, hc2, cond_true, cond_false] at hcl; cases hcl
          | true =>
          rw [hc1, hc2, cond_true, cond_true] at hcl
          cases hcl
          obtain ⟨pre, hs1, hs2, hs3⟩ := zca2_spec has
          rw [List.append_nil] at hs2
          have hst : st = as.reverse ++ r := by rw [hs2, List.reverse_reverse]; exact hs1
          have hasl : as.length = bb := by rw [hs2, List.length_reverse]; exact hs3
          intro hz0 H locs ls hO hS hL hr
          have hra : ∀ v ∈ as, zrv v := fun v hv => hr v (by rw [hst]; exact List.mem_append_left _ (List.mem_reverse.mpr hv))
          obtain ⟨hM, hmc⟩ := hcal a0 _ as hrc rfl (Nat.le_of_ble_eq_true hc2) rfl hra
          refine W.sized fun hsz => ?_
          have hlow := hO.low hS hbs
          obtain ⟨a9, hrun'⟩ := hrun _ as hrc hst hasl (Nat.le_of_ble_eq_true hc1) hr rfl hM hmc H locs ls hO (by omega) hS hL
          refine zback hrun' hS (fun H1 locs1 hO1 hvr hS1 => ?_)
          have e1 : (rv.map (zv b base)).toList ++ r.map (zv b base) = (zpush rv r).map (zv b base) := by
            cases rv <;> rfl
          rw [e1, h3]
          refine kk (by omega) H1 locs1 ls hO1 hS1 hL (fun v hv => ?_)
          cases rv with
          | none => exact hr v (by rw [hst]; exact List.mem_append_right _ hv)
          | some u =>
            rcases List.mem_cons.mp hv with e2 | e2
            · subst e2; exact hvr _ rfl
            · exact hr v (by rw [hst]; exact List.mem_append_right _ e2)
        · cases hcl
      · cases hcl
  have pre : ∀ (as : List ZV) (H : Heap) (locs : List Loc), va_S (fun q => base ≤ q) s.heap H locs → WO dC dI cI cO base S M h H → H.size = base + S.length → ∀ U : State, U.heap = H → s.WarmedH U.vm → ZPc sc dC dI cI cO b base as S M h (as.map (zv b base)).toArray U := by
    intro as H locs hS hO hsz U hU hW
    exact ⟨rfl, hX.at hS hU hW, by rw [hU]; exact hO, by rw [hU]; exact hsz, hK.warm hW⟩
  cases i
  case invokevirtual k =>
    obtain ⟨h1, h2⟩ := zlen1 hk
    subst h1
    simp only [zca] at hca
    cases hcr : zrc S st bb d with
    | false => rw [hcr, cond_false] at hca; cases hca
    | true =>
    rw [hcr, cond_true] at hca
    split at h2
    · cases h2
    · next a0 =>
      split at h2
      · next rc hrc =>
        refine key a0 hca (fun rc' as hrc' hst hasl hwt hr hnx2 hM hmc H locs ls hO hsz hS hL => ?_) hnx
        cases hrc.symm.trans hrc'
        obtain ⟨T1, nl, y, cb, rt, fr', lo', pl⟩ := rc
        unfold zcallee at h2
        split at h2
        · next heq =>
          cases heq
          simp only [Bool.and_eq_true] at h2
          obtain ⟨⟨⟨g1, g2⟩, g3⟩, ⟨⟨g4, g5⟩, g6⟩, g7⟩ := h2
          have g1 := of_decide_eq_true g1
          have g2 := of_decide_eq_true g2
          unfold zchkM at hmc
          simp only [Bool.and_eq_true] at hmc
          obtain ⟨⟨⟨-, m1⟩, m2⟩, m3⟩ := hmc
          unfold zplain at m3
          simp only [Bool.and_eq_true] at m3
          obtain ⟨⟨m3, m4⟩, m5⟩ := m3
          split at g7
          · next C T N hcl =>
            have g7 := of_decide_eq_true g7
            cases as with
            | nil => cases hasl; unfold zrc at hcr; cases hcr
            | cons v0 as0 =>
              have hv0 : st[as0.length]? = some v0 := by
                rw [hst, List.reverse_cons, List.append_assoc, List.getElem?_append_right (by rw [List.length_reverse]; exact Nat.le_refl _), List.length_reverse, Nat.sub_self]; rfl
              unfold zrc at hcr
              split at hcr
              · cases hcr
              · next b1 =>
                have hb1 : b1 = as0.length := by rw [List.length_cons] at hasl; omega
                subst hb1
                rw [zgt_eq, hv0] at hcr
                split at hcr
                · next q heq =>
                  cases heq
                  split at hcr
                  · next cl n rs hz =>
                    have e4 := Nat.eq_of_beq_eq_true hcr
                    subst e4
                    have hw := (zws_get (cI := cI) (cO := cO) (base := base) (M := M) (h := h) hz).1
                    have h9 : cl < 8 := (List.getElem?_eq_some_iff.mp hcl).1
                    rw [zce_obj h9] at hw
                    refine ⟨_, va_runV (As := as0.map (zv b base)) (rest := r.map (zv b base)) (C := y.cls) (nL := nL) ⟨hx, hb, hml, hown, hts⟩ (hM l dC dI cI cO b base) ⟨⟨rfl, rfl, Nat.le_trans g1 hR.1, Nat.le_trans g2 hR.2, zpay (zin_mem m1) hts, List.mem_cons_self, hts _ (zin_mem m1), hts _ (zin_mem m2), ⟨of_decide_eq_true m4, of_decide_eq_true m5⟩, fun sig hsig => ?_, hts _ (zin_mem g4)⟩, hts _ (zin_mem g5), hts _ (zin_mem g6)⟩ ⟨ZPc.blind, ?_, fun U hU hW => pre _ H locs hS hO hsz U hU hW⟩ rfl (by rw [List.length_map]) hL.size ?_ (by rw [zv_wt]; show 2 * 0 + _ ≤ 8; omega) hd hrm⟩
                    · have := zns_len g3 sig hsig
                      omega
                    · rw [g7]
                      exact va_recv hK.1 hO.1 hcl hw
                    · show st.map (zv b base) = _
                      rw [hst]
                      simp [zv]
                  · cases hcr
                · cases hcr
          · cases g7
        · cases h2
      · cases h2
  case invokespecial k =>
    obtain ⟨h1, h2⟩ := zlen1 hk
    subst h1
    simp only [zca] at hca
    cases hcr : zrr st bb with
    | false => rw [hcr, cond_false] at hca; cases hca
    | true =>
    rw [hcr, cond_true] at hca
    split at h2
    · unfold zcl at hca; cases hca
    · next a0 =>
      split at h2
      · next rc hrc =>
        refine key a0 hca (fun rc' as hrc' hst hasl hwt hr hnx2 hM hmc H locs ls hO hsz hS hL => ?_) hnx
        cases hrc.symm.trans hrc'
        obtain ⟨T1, nl, y, cb, rt, fr', lo', pl⟩ := rc
        rw [Bool.and_eq_true] at h2
        obtain ⟨h2, g8⟩ := h2
        have g8 : rt = none := of_decide_eq_true g8
        subst g8
        unfold zcallee at h2
        split at h2
        · next heq =>
          cases heq
          simp only [Bool.and_eq_true] at h2
          obtain ⟨⟨⟨g1, g2⟩, g3⟩, ⟨g4, g5⟩, g6⟩ := h2
          have g1 := of_decide_eq_true g1
          have g2 := of_decide_eq_true g2
          have g6 := of_decide_eq_true g6
          unfold zchkM at hmc
          simp only [Bool.and_eq_true] at hmc
          obtain ⟨⟨⟨-, m1⟩, m2⟩, m3⟩ := hmc
          unfold zplain at m3
          simp only [Bool.and_eq_true] at m3
          obtain ⟨⟨m3, m4⟩, m5⟩ := m3
          cases as with
          | nil => cases hasl; unfold zrr at hcr; cases hcr
          | cons v0 as0 =>
            have hv0 : st[as0.length]? = some v0 := by
              rw [hst, List.reverse_cons, List.append_assoc, List.getElem?_append_right (by rw [List.length_reverse]; exact Nat.le_refl _), List.length_reverse, Nat.sub_self]; rfl
            unfold zrr at hcr
            split at hcr
            · cases hcr
            · next b1 =>
              have hb1 : b1 = as0.length := by rw [List.length_cons] at hasl; omega
              subst hb1
              rw [zgt_eq, hv0] at hcr
              split at hcr
              · next q heq =>
                cases heq
                refine ⟨_, va_runI (b := base + q) (As := as0.map (zv b base)) (rest := r.map (zv b base)) (nL := nL) ⟨hx, hb, hml, hown, hts⟩ (hM l dC dI cI cO b base) ⟨⟨rfl, rfl, Nat.le_trans g1 hR.1, Nat.le_trans g2 hR.2, zpay (zin_mem m1) hts, List.mem_cons_self, hts _ (zin_mem m1), hts _ (zin_mem m2), ⟨of_decide_eq_true m4, of_decide_eq_true m5⟩, fun sig hsig => ?_, hts _ (zin_mem g4)⟩, g6, hts _ (zin_mem g5)⟩ ⟨ZPc.blind, fun U hU hW => pre _ H locs hS hO hsz U hU hW⟩ rfl (by rw [List.length_map]) hL.size ?_ (by rw [zv_wt]; show 2 * 0 + _ ≤ 8; omega) hd hrm⟩
                · have := zns_len g3 sig hsig
                  omega
                · show st.map (zv b base) = _
                  rw [hst]
                  simp [zv]
              · cases hcr
        · cases h2
      · cases h2
  case invokestatic k =>
    obtain ⟨h1, h2⟩ := zlen1 hk
    subst h1
    simp only [zca] at hca
    split at h2
    · unfold zcl at hca; cases hca
    · next a0 =>
      split at h2
      · next rc hrc =>
        refine key a0 hca (fun rc' as hrc' hst hasl hwt hr hnx2 hM hmc H locs ls hO hsz hS hL => ?_) hnx
        cases hrc.symm.trans hrc'
        obtain ⟨T1, nl, y, cb, rt, fr', lo', pl⟩ := rc
        unfold zcallee at h2
        split at h2
        · next heq =>
          cases heq
          simp only [Bool.and_eq_true] at h2
          obtain ⟨⟨⟨g1, g2⟩, g3⟩, g4, g5⟩ := h2
          have g1 := of_decide_eq_true g1
          have g2 := of_decide_eq_true g2
          unfold zchkM at hmc
          simp only [Bool.and_eq_true] at hmc
          obtain ⟨⟨⟨-, m1⟩, m2⟩, m3⟩ := hmc
          unfold zplain at m3
          simp only [Bool.and_eq_true] at m3
          obtain ⟨⟨m3, m4⟩, m5⟩ := m3
          have hlen : ∀ sig, parseMethodDescriptor y.desc = some sig → as.length = sig.parameters.length := fun sig hsig => by
            have := zns_len g3 sig hsig
            omega
          have hstk : (F0 m pc ls (st.map (zv b base))).stack = (as.map (zv b base)).reverse ++ r.map (zv b base) := by
            show st.map (zv b base) = _
            rw [hst]
            simp
          have nest : ∀ (w0 : Cond), w0 = nest1 ∨ w0 = nest2 → Cond.methodLinkNest own k y "LuggageTracing" = w0 → ∃ a, va_Run p l e R s m args below meth c H locs cells slots (S'.length - S.length) (zsz S' - zsz S) (F0 m pc ls (st.map (zv b base))) (r.map (zv b base)) (ZQc dC dI cI cO b base rv S' M' h' a) (fun q => base ≤ q) := by
            intro w0 hw0 he
            have hn : (Cond.methodLinkNest own k y "LuggageTracing").before args s = true := by
              rw [he]
              rcases hw0 with e5 | e5
              · rw [e5]; exact va_Nw.use rfl hK.2.1
              · rw [e5]; exact va_Nw.use rfl hK.2.2.1
            exact ⟨_, va_runSN (host := "LuggageTracing") (As := as.map (zv b base)) (rest := r.map (zv b base)) (nL := nL) (n := as.length) ⟨hx, hb, hml, hown, hts⟩ (hM l dC dI cI cO b base) ⟨⟨⟨rfl, rfl, Nat.le_trans g1 hR.1, Nat.le_trans g2 hR.2, zpay (zin_mem m1) hts, List.mem_cons_self⟩, hts _ (zin_mem m1), hts _ (zin_mem m2), ⟨of_decide_eq_true m4, of_decide_eq_true m5⟩, hlen, hn⟩, hts _ (zin_mem g4), trivial⟩ ⟨ZPc.blind, fun U hU hW => pre _ H locs hS hO hsz U hU hW⟩ rfl (by rw [List.length_map]) hL.size hstk (by rw [zv_wt]; show 2 * 0 + _ ≤ 8; omega) hd hrm⟩
          split at g5
          · exact ⟨_, va_runS (As := as.map (zv b base)) (rest := r.map (zv b base)) (nL := nL) (n := as.length) ⟨hx, hb, hml, hown, hts⟩ (hM l dC dI cI cO b base) ⟨⟨rfl, rfl, Nat.le_trans g1 hR.1, Nat.le_trans g2 hR.2, zpay (zin_mem m1) hts, List.mem_cons_self, hts _ (zin_mem m1), hts _ (zin_mem m2), ⟨of_decide_eq_true m4, of_decide_eq_true m5⟩, hlen, hts _ (zin_mem g5)⟩, hts _ (zin_mem g4)⟩ ⟨ZPc.blind, fun U hU hW => pre _ H locs hS hO hsz U hU hW⟩ rfl (by rw [List.length_map]) hL.size hstk (by rw [zv_wt]; show 2 * 0 + _ ≤ 8; omega) hd hrm⟩
          · exact nest nest1 (Or.inl rfl) (of_decide_eq_true g5)
          · exact nest nest2 (Or.inr rfl) (of_decide_eq_true g5)
        · cases h2
      · cases h2
  all_goals (simp only [zca, reduceCtorEq] at hca)
end ZCA
end
section
theorem run_succ {n : Nat} {T : CT} {sc : Sc} {pc : Nat} {L st : List ZV} {S : Sh} {M : Me} {h : Ml} : run (n + 1) T sc pc L st S M h = (match look2 T pc with
    | none => none
    | some e => match zst sc e L st S M h with
      | some (pc', L', st', S', M', h') => run n T sc pc' L' st' S' M' h'
      | none => match zbr sc e L st S M h with
        | some (pc', L', st', S', M', h') => run n T sc pc' L' st' S' M' h'
        | none => match zca e st S with
          | some (T', L0, nx, r) => (match run n T' sc 0 L0 [] S M h with
            | some (v, S', M', h') => run n T sc nx L (zpush v r) S' M' h'
            | none => none)
          | none => match zre e st with
            | some v => some (v, S, M, h)
            | none => none) := rfl
/-- what one row of the run can be -/
theorem run_cases {n : Nat} {T : CT} {sc : Sc} {pc : Nat} {L st : List ZV} {S : Sh} {M : Me} {h : Ml} {z : Zr} (hr : run (n + 1) T sc pc L st S M h = some z) : ∃ e, look2 T pc = some e ∧
    ((∃ pc' L' st' S' M' h', (zst sc e L st S M h = some (pc', L', st', S', M', h') ∨ (zst sc e L st S M h = none ∧ zbr sc e L st S M h = some (pc', L', st', S', M', h'))) ∧ run n T sc pc' L' st' S' M' h' = some z) ∨
     (zst sc e L st S M h = none ∧ zbr sc e L st S M h = none ∧ ∃ T' L0 nx r v S' M' h', zca e st S = some (T', L0, nx, r) ∧ run n T' sc 0 L0 [] S M h = some (v, S', M', h') ∧ run n T sc nx L (zpush v r) S' M' h' = some z) ∨
     (zst sc e L st S M h = none ∧ zbr sc e L st S M h = none ∧ zca e st S = none ∧ ∃ v, zre e st = some v ∧ z = (v, S, M, h))) := by
  rw [run_succ] at hr
  split at hr
  · cases hr
  · next e he =>
    refine ⟨e, he, ?_⟩
    split at hr
    · next pc' L' st' S' M' h' hz => exact Or.inl ⟨pc', L', st', S', M', h', Or.inl hz, hr⟩
    · next hz =>
      split at hr
      · next pc' L' st' S' M' h' hz2 => exact Or.inl ⟨pc', L', st', S', M', h', Or.inr ⟨hz, hz2⟩, hr⟩
      · next hz2 =>
        split at hr
        · next T' L0 nx r hz3 =>
          split at hr
          · next v S' M' h' hz4 => exact Or.inr (Or.inl ⟨hz, hz2, T', L0, nx, r, v, S', M', h', hz3, hz4, hr⟩)
          · cases hr
        · next hz3 =>
          split at hr
          · next v hz4 => exact Or.inr (Or.inr ⟨hz, hz2, hz3, v, hz4, (Option.some.inj hr).symm⟩)
          · cases hr
theorem run_st {n : Nat} {T : CT} {sc : Sc} {pc : Nat} {L st : List ZV} {S : Sh} {M : Me} {h : Ml} {e : En} {pc' : Nat} {L' st' : List ZV} {S' : Sh} {M' : Me} {h' : Ml} (he : look2 T pc = some e) (hz : zst sc e L st S M h = some (pc', L', st', S', M', h')) : run (n + 1) T sc pc L st S M h = run n T sc pc' L' st' S' M' h' := by
  rw [run_succ, he]; dsimp only; rw [hz]
theorem run_br {n : Nat} {T : CT} {sc : Sc} {pc : Nat} {L st : List ZV} {S : Sh} {M : Me} {h : Ml} {e : En} {pc' : Nat} {L' st' : List ZV} {S' : Sh} {M' : Me} {h' : Ml} (he : look2 T pc = some e) (hz0 : zst sc e L st S M h = none) (hz : zbr sc e L st S M h = some (pc', L', st', S', M', h')) : run (n + 1) T sc pc L st S M h = run n T sc pc' L' st' S' M' h' := by
  rw [run_succ, he]; dsimp only; rw [hz0]; dsimp only; rw [hz]
theorem run_ca {n : Nat} {T : CT} {sc : Sc} {pc : Nat} {L st : List ZV} {S : Sh} {M : Me} {h : Ml} {e : En} {T' : CT} {L0 r : List ZV} {nx : Nat} {v : Option ZV} {S' : Sh} {M' : Me} {h' : Ml} (he : look2 T pc = some e) (hz0 : zst sc e L st S M h = none) (hz1 : zbr sc e L st S M h = none) (hz : zca e st S = some (T', L0, nx, r)) (hr : run n T' sc 0 L0 [] S M h = some (v, S', M', h')) : run (n + 1) T sc pc L st S M h = run n T sc nx L (zpush v r) S' M' h' := by
  rw [run_succ, he]; dsimp only; rw [hz0]; dsimp only; rw [hz1]; dsimp only; rw [hz]; dsimp only; rw [hr]
theorem run_re {n : Nat} {T : CT} {sc : Sc} {pc : Nat} {L st : List ZV} {S : Sh} {M : Me} {h : Ml} {e : En} {v : Option ZV} (he : look2 T pc = some e) (hz0 : zst sc e L st S M h = none) (hz1 : zbr sc e L st S M h = none) (hz2 : zca e st S = none) (hz : zre e st = some v) : run (n + 1) T sc pc L st S M h = some (v, S, M, h) := by
  rw [run_succ, he]; dsimp only; rw [hz0]; dsimp only; rw [hz1]; dsimp only; rw [hz2]; dsimp only; rw [hz]
theorem run_up1 : ∀ {n : Nat} {T : CT} {sc : Sc} {pc : Nat} {L st : List ZV} {S : Sh} {M : Me} {h : Ml} {z : Zr}, run n T sc pc L st S M h = some z → run (n + 1) T sc pc L st S M h = some z := by
  intro n
  induction n with
  | zero => intro T sc pc L st S M h z hr; cases hr
  | succ n ih =>
    intro T sc pc L st S M h z hr
    obtain ⟨e, he, h1 | h1 | h1⟩ := run_cases hr
    · obtain ⟨pc', L', st', S', M', h', hz, h2⟩ := h1
      rcases hz with hz | ⟨hz0, hz⟩
      · rw [run_st he hz]; exact ih h2
      · rw [run_br he hz0 hz]; exact ih h2
    · obtain ⟨hz0, hz1, T', L0, nx, r, v, S', M', h', hz, h2, h3⟩ := h1
      rw [run_ca he hz0 hz1 hz (ih h2)]
      exact ih h3
    · obtain ⟨hz0, hz1, hz2, v, hz, rfl⟩ := h1
      rw [run_re he hz0 hz1 hz2 hz]
theorem run_up {n k : Nat} {T : CT} {sc : Sc} {pc : Nat} {L st : List ZV} {S : Sh} {M : Me} {h : Ml} {z : Zr} (hr : run n T sc pc L st S M h = some z) : run (n + k) T sc pc L st S M h = some z := by
  induction k with
  | zero => exact hr
  | succ k ih => exact run_up1 ih
theorem run_mono : ∀ {n : Nat} {T : CT} {sc : Sc} {pc : Nat} {L st : List ZV} {S : Sh} {M : Me} {h : Ml} {v : Option ZV} {S' : Sh} {M' : Me} {h' : Ml}, run n T sc pc L st S M h = some (v, S', M', h') → S.length ≤ S'.length ∧ zsz S ≤ zsz S' := by
  intro n
  induction n with
  | zero => intro T sc pc L st S M h v S' M' h' hr; cases hr
  | succ n ih =>
    intro T sc pc L st S M h v S' M' h' hr
    obtain ⟨⟨i, nx, a, bb, d, cv, w⟩, he, h1 | h1 | h1⟩ := run_cases hr
    · obtain ⟨pc1, L1, st1, S1, M1, h1, hz, h2⟩ := h1
      have g := ih h2
      rcases hz with hz | ⟨hz0, hz⟩
      · have := zst_mono hz; omega
      · have := zbr_mono hz; omega
    · obtain ⟨hz0, hz1, T1, L0, nx, r, v1, S1, M1, h1, hz, h2, h3⟩ := h1
      have g := ih h2
      have g2 := ih h3
      omega
    · obtain ⟨hz0, hz1, hz2, v1, hz, h2⟩ := h1
      cases h2
      omega
/-- an end: with this instruction, of this kind -/
def zrt (ret : Option FieldType) (rv : Option ZV) (i : Instr) : Prop := match rv with
  | none => i = .return_ ∧ ret = none
  | some (.inl x) => i = .ireturn ∧ (ret = some .int ∨ (ret = some .boolean ∧ (x = 0 ∨ x = 1)))
  | some (.inr (.inl _)) => i = .lreturn ∧ ret = some .long
  | some (.inr (.inr _)) => False
def ZF (n : Nat) : Prop := ∀ {T : CT} {sc : Sc} {pc : Nat} {L st : List ZV} {S : Sh} {M : Me} {h : Ml} {rv : Option ZV} {S' : Sh} {M' : Me} {h' : Ml}, run n T sc pc L st S M h = some (rv, S', M', h') →
  ∀ {p : Program} {l : Launch} {e : Env} {R : Room} {s : State} {m : MethodId} {args : Array Value} {below : List Frame} {meth : Method} {c : Code} {Q : State → Prop} {dC : Nat → ClassId} {dI : Nat → Nat → Nat} {cI cO : ClassId} {b base : Nat} {own : String} {cc : ByteArray} {nL : Nat} {isI : Bool} {ret : Option FieldType} {fr lo cells slots : Nat},
  ZCx p s m args meth c own cc nL isI dC dI cI cO base → zSc sc b base s → zchkT own cc nL isI ret fr lo T = true → fr ≤ R.frames ∧ lo ≤ R.locals → cells + (S'.length - S.length) ≤ R.cells ∧ slots + (zsz S' - zsz S) ≤ R.slots →
  (∀ (H : Heap) (locs : List Loc) (ls : Array Slot) (pc' : Nat) (i : Instr), WO dC dI cI cO base S' M' h' H → va_S (fun q => base ≤ q) s.heap H locs → decode cc pc' = .ok (i, 1) → zrt ret rv i → (∀ v, rv = some v → zrv v) → W p l e R s m args below meth c H locs (cells + (S'.length - S.length)) (slots + (zsz S' - zsz S)) Q (F0 m pc' ls (rv.map (zv b base)).toList)) →
  ZN p l e R s m args below meth c Q dC dI cI cO b base nL pc L st S M h cells slots
def ZG (n : Nat) : Prop := ∀ {sc : Sc} {k : Nat} {rc : Mr} {as : List ZV} {S : Sh} {M : Me} {h : Ml} {rv : Option ZV} {S' : Sh} {M' : Me} {h' : Ml}, zgt zMRs k = some rc → (zex as).length ≤ rc.2.1 → (∀ v ∈ as, zrv v) → run n rc.1 sc 0 (zpad rc.2.1 (zex as)) [] S M h = some (rv, S', M', h') → ZM sc rc as S M h rv S' M' h'
theorem zre_ok {own : String} {nL : Nat} {isI : Bool} {ret : Option FieldType} {fr lo pc len : Nat} {i : Instr} {nx a bb d w : Nat} {cv : Int} {st : List ZV} {v : Option ZV} {b base : Nat} (hk : zchk own nL isI ret fr lo pc len i a bb d cv w = true) (hr : ∀ u ∈ st, zrv u) (hz : zre (i, nx, a, bb, d, cv, w) st = some v) : len = 1 ∧ zrt ret v i ∧ (∀ u, v = some u → zrv u) ∧ st.map (zv b base) = (v.map (zv b base)).toList := by
  cases i
  case ireturn =>
    obtain ⟨h1, h2⟩ := zlen1 hk
    simp only [zre] at hz
    split at hz
    · next x =>
      split at hz
      · cases hz
        exact ⟨h1, ⟨rfl, Or.inl (of_decide_eq_true h2)⟩, fun u hu => by cases hu; exact hr _ List.mem_cons_self, rfl⟩
      · next d0 =>
        split at hz
        · next hx =>
          cases hz
          refine ⟨h1, ⟨rfl, Or.inr ⟨?_, hx⟩⟩, fun u hu => by cases hu; exact hr _ List.mem_cons_self, rfl⟩
          split at h2
          · next => exact absurd rfl d0
          · exact of_decide_eq_true h2
        · cases hz
    · cases hz
  case lreturn =>
    obtain ⟨h1, h2⟩ := zlen1 hk
    simp only [zre] at hz
    split at hz
    · cases hz
      exact ⟨h1, ⟨rfl, of_decide_eq_true h2⟩, fun u hu => by cases hu; exact trivial, rfl⟩
    · cases hz
  case return_ =>
    obtain ⟨h1, h2⟩ := zlen1 hk
    simp only [zre] at hz
    split at hz
    · cases hz
      exact ⟨h1, ⟨rfl, of_decide_eq_true h2⟩, (fun u hu => by cases hu), rfl⟩
    · cases hz
  all_goals (simp only [zre, reduceCtorEq] at hz)
theorem zF_succ {n : Nat} (hok : ∀ {k : Nat} {r : Mr}, zgt zMRs k = some r → zchkM r = true) (hF : ZF n) (hG : ZG n) : ZF (n + 1) := by
  intro T sc pc L st S M h rv S' M' h' hr p l e R s m args below meth c Q dC dI cI cO b base own cc nL isI ret fr lo cells slots hC hX hT hR hrm hret
  obtain ⟨⟨i, nx, a, bb, d, cv, w⟩, he, h1 | h1 | h1⟩ := run_cases hr
  · obtain ⟨pc1, L1, st1, S1, M1, h1, hz, h2⟩ := h1
    obtain ⟨len, hd, hnx, hk⟩ := zchkT_at hT he
    have hm2 := run_mono h2
    rcases hz with hz | ⟨hz0, hz⟩
    · have hm1 := zst_mono hz
      refine zst_ok hC hX hR hd hnx hk hz (by omega) (hF h2 hC hX hT hR (by omega) (fun H locs ls pc' i' hO hS hd' hrt hrv => ?_))
      have := hret H locs ls pc' i' hO hS hd' hrt hrv
      rw [show cells + (S1.length - S.length) + (S'.length - S1.length) = cells + (S'.length - S.length) by omega, show slots + (zsz S1 - zsz S) + (zsz S' - zsz S1) = slots + (zsz S' - zsz S) by omega]
      exact this
    · have hm1 := zbr_mono hz
      refine zbr_ok hC hX hR hd hnx hk hz (by omega) (hF h2 hC hX hT hR (by omega) (fun H locs ls pc' i' hO hS hd' hrt hrv => ?_))
      have := hret H locs ls pc' i' hO hS hd' hrt hrv
      rw [show cells + (S1.length - S.length) + (S'.length - S1.length) = cells + (S'.length - S.length) by omega, show slots + (zsz S1 - zsz S) + (zsz S' - zsz S1) = slots + (zsz S' - zsz S) by omega]
      exact this
  · obtain ⟨hz0, hz1, T1, L0, nx1, r, v1, S1, M1, h1, hz, h2, h3⟩ := h1
    obtain ⟨len, hd, hnx, hk⟩ := zchkT_at hT he
    have hm1 := run_mono h2
    have hm2 := run_mono h3
    refine zca_ok hC hX hR hd hnx hk hz (fun k rc as hrc hT1 hlen hL0 hra => ⟨hG hrc hlen hra (by rw [hT1, ← hL0]; exact h2), hok hrc⟩) (by omega) hm1.1 (hF h3 hC hX hT hR (by omega) (fun H locs ls pc' i' hO hS hd' hrt hrv => ?_))
    have := hret H locs ls pc' i' hO hS hd' hrt hrv
    rw [show cells + (S1.length - S.length) + (S'.length - S1.length) = cells + (S'.length - S.length) by omega, show slots + (zsz S1 - zsz S) + (zsz S' - zsz S1) = slots + (zsz S' - zsz S) by omega]
    exact this
  · obtain ⟨hz0, hz1, hz2, v1, hz, h2⟩ := h1
    cases h2
    obtain ⟨len, hd, hnx, hk⟩ := zchkT_at hT he
    intro hz9 H locs ls hO hS hL hrg
    obtain ⟨e1, e2, e3, e4⟩ := zre_ok (b := b) (base := base) hk hrg hz
    subst e1
    rw [e4]
    have := hret H locs ls pc i hO hS hd e2 e3
    rw [Nat.sub_self, Nat.sub_self, Nat.add_zero, Nat.add_zero] at this
    exact this
theorem zG_of {n : Nat} (hok : ∀ {k : Nat} {r : Mr}, zgt zMRs k = some r → zchkM r = true) (hF : ZF n) : ZG n := by
  intro sc k rc as S M h rv S' M' h' hrc hlen hra hr l dC dI cI cO b base
  obtain ⟨T, nl, y, cc, ret, fr, lo, pl⟩ := rc
  have hmc := hok hrc
  unfold zchkM at hmc
  split at hmc
  · next heq =>
    cases heq
    simp only [Bool.and_eq_true] at hmc
    obtain ⟨⟨⟨hT, m1⟩, m2⟩, m3⟩ := hmc
    unfold zplain at m3
    simp only [Bool.and_eq_true] at m3
    obtain ⟨⟨m3, m4⟩, m5⟩ := m3
    refine Met.ofW (cc := cc) (maxL := nl) (ret := ret) m3 rfl ?_
    intro p e s m args below meth c s₁ B hml hv
    obtain ⟨hargs, hSc, hO, hsz, hK⟩ := hv
    subst hargs
    have hx := B.exec
    have hb := B.bytes
    have hrt := B.returns
    have hlk := B.notSynchronized
    have hts : ∀ w ∈ TB, w.before (as.map (zv b base)).toArray s = true := fun w hw => atoms_spec (ws := .code y cc nl ret :: TB) B.pre w (List.mem_cons_of_mem _ hw)
    have hown : s.vm.findClass y.cls = some m.cls := findClass_of_methodNamed B.named
    have hnm : meth.name = y.name := (name_of_methodNamed B.named B.method).1
    rw [lg_entry_eq]
    have hC : ZCx p s m (as.map (zv b base)).toArray meth c y.cls cc nl (decide (y.name = "<init>")) dC dI cI cO base := ⟨hx, hb, hml, hown, hts, hK, fun hd => hnm.trans (of_decide_eq_true hd), by omega⟩
    have hmono := run_mono hr
    refine hF (sc := sc) (cells := 0) (slots := 0) (b := b) hr hC hSc hT ⟨Nat.le_refl _, Nat.le_refl _⟩ (by
      rw [Nat.zero_add, Nat.zero_add]
      exact ⟨Nat.le_refl _, Nat.le_refl _⟩) (fun H locs ls pc' i hO1 hS1 hd1 hrt1 hrv1 => ?_) hsz.symm s.heap [] _ hO va_S.rf (zentry hlen hra) (fun v hv => by cases hv)
    rw [Nat.zero_add, Nat.zero_add]
    have hq : ∀ t : State, t.heap = H → s.WarmedH t.vm → ZQc dC dI cI cO b base rv S' M' h' (as.map (zv b base)).toArray s (.returned (rv.map (zv b base))) t := fun t ht hW => ⟨⟨rfl, hrv1, by rw [ht]; exact hO1⟩, hS1.F ht⟩
    rcases rv with _ | ⟨x | y1 | q1⟩
    · obtain ⟨e1, e2⟩ := hrt1
      subst e1; subst e2
      exact W.vret hx hb hrt hq hS1.2.2 hd1
    · obtain ⟨e1, e2⟩ := hrt1
      subst e1
      rcases e2 with e2 | ⟨e2, e3⟩
      · subst e2
        exact W.iret (v := Int32.ofInt x) hx hb hrt hq hS1.2.2 hd1
      · subst e2
        refine W.zret (v := Int32.ofInt x) (ty := .boolean) hx hb hrt ?_ hq hS1.2.2 hd1
        rcases e3 with e3 | e3
        · subst e3; rfl
        · subst e3; rfl
    · obtain ⟨e1, e2⟩ := hrt1
      subst e1; subst e2
      exact W.lret (v := y1) hx hb hrt hq hS1.2.2 hd1
    · exact hrt1.elim
  · cases hmc
/-- WHAT THE SMALL MACHINE ANSWERS THE REAL ONE ANSWERS -/
theorem zsound (hok : ∀ {k : Nat} {r : Mr}, zgt zMRs k = some r → zchkM r = true) (n : Nat) : ZF n := by
  induction n with
  | zero => intro T sc pc L st S M h rv S' M' h' hr; cases hr
  | succ n ih => exact zF_succ hok ih (zG_of hok ih)
end
section
/-! reasoning about the small machine: a method's answer and what it leaves, over cells of a fixed kind -/
def Wp (S : Sh) (T : CT) (sc : Sc) (pc : Nat) (L st : List ZV) (M : Me) (h : Ml) (Φ : Option ZV → Me → Ml → Prop) : Prop := ∃ (n : Nat) (v : Option ZV) (M' : Me) (h' : Ml), run n T sc pc L st S M h = some (v, S, M', h') ∧ Φ v M' h'
/-- an answer, and the cells' numbers behind it -/
abbrev Rv (M : Me) (h : Ml) : Option ZV → Me → Ml → Prop := fun v M' h' => v = none ∧ M' = M ∧ h' = h
abbrev Ri (x : Int) (M : Me) (h : Ml) : Option ZV → Me → Ml → Prop := fun v M' h' => v = some (zi x) ∧ M' = M ∧ h' = h
abbrev Rl (x : Int64) (M : Me) (h : Ml) : Option ZV → Me → Ml → Prop := fun v M' h' => v = some (zl x) ∧ M' = M ∧ h' = h
/-- as many plain steps as there are -/
def zgo : Nat → CT → Sc → Nat → List ZV → List ZV → Sh → Me → Ml → Option Zs
  | 0, _, _, pc, L, st, S, M, h => some (pc, L, st, S, M, h)
  | n + 1, T, sc, pc, L, st, S, M, h => match look2 T pc with
    | none => none
    | some e => match zst sc e L st S M h with
      | some (pc', L', st', S', M', h') => zgo n T sc pc' L' st' S' M' h'
      | none => some (pc, L, st, S, M, h)
/-- a choice: its condition, where it goes, what stays -/
def zbc (T : CT) (pc : Nat) (st : List ZV) : Option (Prop × Nat × Nat × List ZV) := match look2 T pc with
  | some (i, nx, a, _, _, _, _) => (match i with
    | .if_icmp q _ => (match st with
      | .inl y :: .inl x :: r => (match q with
        | .eq => some (x = y, a, nx, r)
        | .ne => some (x ≠ y, a, nx, r)
        | .lt => some (x < y, a, nx, r)
        | .ge => some (y ≤ x, a, nx, r)
        | .gt => some (y < x, a, nx, r)
        | .le => some (x ≤ y, a, nx, r))
      | _ => none)
    | .ifCond q _ => (match st with
      | .inl x :: r => (match q with
        | .eq => some (x = 0, a, nx, r)
        | .ne => some (x ≠ 0, a, nx, r)
        | .lt => some (x < 0, a, nx, r)
        | .ge => some (0 ≤ x, a, nx, r)
        | .gt => some (0 < x, a, nx, r)
        | .le => some (x ≤ 0, a, nx, r))
      | _ => none)
    | _ => none)
  | none => none
def zal (T : CT) (pc : Nat) (st : List ZV) : Option (Nat × Int × Nat × List ZV) := match look2 T pc with
  | some (i, nx, _, _, _, _, _) => (match i with
    | .iaload => (match st with | .inl j :: .inr (.inr (.inl k)) :: r => some (k, j, nx, r) | _ => none)
    | _ => none)
  | none => none
def zals (T : CT) (pc : Nat) (st : List ZV) : Option (Int × Nat × List ZV) := match look2 T pc with
  | some (i, nx, _, _, _, _, _) => (match i with
    | .iaload => (match st with | .inl j :: .inr (.inr (.inr 1)) :: r => some (j, nx, r) | _ => none)
    | _ => none)
  | none => none
def zas (T : CT) (pc : Nat) (st : List ZV) : Option (Nat × Int × Int × Nat × List ZV) := match look2 T pc with
  | some (i, nx, _, _, _, _, _) => (match i with
    | .iastore => (match st with | .inl x :: .inl j :: .inr (.inr (.inl k)) :: r => some (k, j, x, nx, r) | _ => none)
    | _ => none)
  | none => none
def zdv (T : CT) (pc : Nat) (st : List ZV) : Option (Bool × Int × Int × Nat × List ZV) := match look2 T pc with
  | some (i, nx, _, _, _, _, _) => (match i with
    | .idiv => (match st with | .inl y :: .inl x :: r => some (true, x, y, nx, r) | _ => none)
    | .irem => (match st with | .inl y :: .inl x :: r => some (false, x, y, nx, r) | _ => none)
    | _ => none)
  | none => none
def zacp (T : CT) (pc : Nat) (st : List ZV) : Option (Nat × Nat × Int × Int × Int × Nat × List ZV) := match look2 T pc with
  | some (i, nx, a, _, d, _, _) => (match i with
    | .invokestatic _ => (match a, d, st with | 0, 0, .inl n :: .inl dp :: .inr (.inr (.inl k2)) :: .inl sp :: .inr (.inr (.inl k1)) :: r => bif Nat.ble (zwt r) 8 then some (k1, k2, sp, dp, n, nx, r) else none | _, _, _ => none)
    | _ => none)
  | none => none
def zsw (T : CT) (pc : Nat) (st : List ZV) : Option (Nat × List ZV) := match look2 T pc with
  | some (i, _, _, _, _, c, _) => (match i with
    | .tableswitch df lo hi offs => (match st with
      | .inl x :: r => if x < lo ∨ hi < x then some ((c + df).toNat, r) else (match zgt offs.toList (x - lo).toNat with
        | some o => some ((c + o).toNat, r)
        | none => none)
      | _ => none)
    | _ => none)
  | none => none
/-- a call; the receiver's class is asked apart -/
def zcc (T : CT) (pc : Nat) (st : List ZV) (S : Sh) : Option (CT × List ZV × Nat × List ZV) := match look2 T pc with
  | some e => zca e st S
  | none => none
def zrx (T : CT) (pc : Nat) (st : List ZV) : Option (Option ZV) := match look2 T pc with
  | some e => zre e st
  | none => none
/-- what a method without the script answers it answers with it -/
theorem zst_sc {sc : Sc} {e : En} {L st : List ZV} {S : Sh} {M : Me} {h : Ml} {r : Zs} (hz : zst none e L st S M h = some r) : zst sc e L st S M h = some r := by
  obtain ⟨i, nx, a, b, d, c, w⟩ := e
  cases i
  case arraylength =>
    simp only [zst] at hz ⊢
    split at hz
    · exact hz
    · cases hz
    · cases hz
  all_goals exact hz
theorem zbr_sc {sc : Sc} {e : En} {L st : List ZV} {S : Sh} {M : Me} {h : Ml} {r : Zs} (hz : zbr none e L st S M h = some r) : zbr sc e L st S M h = some r := by
  obtain ⟨i, nx, a, b, d, c, w⟩ := e
  cases i
  case iaload =>
    simp only [zbr] at hz ⊢
    split at hz
    · exact hz
    · cases hz
    · cases hz
  all_goals exact hz
theorem zst_sc0 {sc : Sc} {e : En} {L st : List ZV} {S : Sh} {M : Me} {h : Ml} (hz : zst none e L st S M h = none) (ho : (zbr none e L st S M h).isSome = true ∨ (zca e st S).isSome = true ∨ (zre e st).isSome = true) : zst sc e L st S M h = none := by
  obtain ⟨i, nx, a, b, d, c, w⟩ := e
  cases i
  case arraylength => rcases ho with ho | ho | ho <;> cases ho
  all_goals exact hz
theorem zbr_sc0 {sc : Sc} {e : En} {L st : List ZV} {S : Sh} {M : Me} {h : Ml} (hz : zbr none e L st S M h = none) (ho : (zca e st S).isSome = true ∨ (zre e st).isSome = true) : zbr sc e L st S M h = none := by
  obtain ⟨i, nx, a, b, d, c, w⟩ := e
  cases i
  case iaload => rcases ho with ho | ho <;> cases ho
  all_goals exact hz
theorem run_sc : ∀ {n : Nat} {T : CT} {sc : Sc} {pc : Nat} {L st : List ZV} {S : Sh} {M : Me} {h : Ml} {z : Zr}, run n T none pc L st S M h = some z → run n T sc pc L st S M h = some z := by
  intro n
  induction n with
  | zero => intro T sc pc L st S M h z hr; cases hr
  | succ n ih =>
    intro T sc pc L st S M h z hr
    obtain ⟨e, he, h1 | h1 | h1⟩ := run_cases hr
    · obtain ⟨pc', L', st', S', M', h', hz, h2⟩ := h1
      rcases hz with hz | ⟨hz0, hz⟩
      · rw [run_st he (zst_sc hz)]; exact ih h2
      · rw [run_br he (zst_sc0 hz0 (Or.inl (by rw [hz]; rfl))) (zbr_sc hz)]; exact ih h2
    · obtain ⟨hz0, hz1, T', L0, nx, r, v, S', M', h', hz, h2, h3⟩ := h1
      have k1 : (zca e st S).isSome = true := by rw [hz]; rfl
      rw [run_ca he (zst_sc0 hz0 (Or.inr (Or.inl k1))) (zbr_sc0 hz1 (Or.inl k1)) hz (ih h2)]
      exact ih h3
    · obtain ⟨hz0, hz1, hz2, v, hz, rfl⟩ := h1
      have k1 : (zre e st).isSome = true := by rw [hz]; rfl
      rw [run_re he (zst_sc0 hz0 (Or.inr (Or.inr k1))) (zbr_sc0 hz1 (Or.inr k1)) hz2 hz]
section WPS
variable {S : Sh} {T : CT} {sc : Sc} {pc : Nat} {L st : List ZV} {M : Me} {h : Ml} {Φ : Option ZV → Me → Ml → Prop}
theorem Wp.imp {Ψ : Option ZV → Me → Ml → Prop} (k : Wp S T sc pc L st M h Φ) (hi : ∀ v M' h', Φ v M' h' → Ψ v M' h') : Wp S T sc pc L st M h Ψ := by
  obtain ⟨n, v, M', h', h1, h2⟩ := k
  exact ⟨n, v, M', h', h1, hi _ _ _ h2⟩
theorem zgo_run : ∀ {n : Nat} {T : CT} {sc : Sc} {pc : Nat} {L st : List ZV} {S : Sh} {M : Me} {h : Ml} {pc' : Nat} {L' st' : List ZV} {S' : Sh} {M' : Me} {h' : Ml}, zgo n T sc pc L st S M h = some (pc', L', st', S', M', h') → ∃ k, ∀ m, run (m + k) T sc pc L st S M h = run m T sc pc' L' st' S' M' h' := by
  intro n
  induction n with
  | zero => intro T sc pc L st S M h pc' L' st' S' M' h' hg; cases hg; exact ⟨0, fun m => rfl⟩
  | succ n ih =>
    intro T sc pc L st S M h pc' L' st' S' M' h' hg
    unfold zgo at hg
    split at hg
    · cases hg
    · next e he =>
      split at hg
      · next hz =>
        obtain ⟨k, hk⟩ := ih hg
        refine ⟨k + 1, fun m => ?_⟩
        rw [← Nat.add_assoc, run_st he hz]
        exact hk m
      · cases hg; exact ⟨0, fun m => rfl⟩
theorem Wp.go {pc' : Nat} {L' st' : List ZV} {M' : Me} {h' : Ml} (hg : zgo 400 T sc pc L st S M h = some (pc', L', st', S, M', h')) (k : Wp S T sc pc' L' st' M' h' Φ) : Wp S T sc pc L st M h Φ := by
  obtain ⟨m, hm⟩ := zgo_run hg
  obtain ⟨n, v, M1, h1, e1, e2⟩ := k
  exact ⟨n + m, v, M1, h1, by rw [hm]; exact e1, e2⟩
theorem Wp.gon (i : Nat) {pc' : Nat} {L' st' : List ZV} {M' : Me} {h' : Ml} (hg : zgo i T sc pc L st S M h = some (pc', L', st', S, M', h')) (k : Wp S T sc pc' L' st' M' h' Φ) : Wp S T sc pc L st M h Φ := by
  obtain ⟨m, hm⟩ := zgo_run hg
  obtain ⟨n, v, M1, h1, e1, e2⟩ := k
  exact ⟨n + m, v, M1, h1, by rw [hm]; exact e1, e2⟩
theorem Wp.one {e : En} {pc' : Nat} {L' st' : List ZV} {M' : Me} {h' : Ml} (he : look2 T pc = some e) (hz0 : zst sc e L st S M h = none) (hz : zbr sc e L st S M h = some (pc', L', st', S, M', h')) (k : Wp S T sc pc' L' st' M' h' Φ) : Wp S T sc pc L st M h Φ := by
  obtain ⟨n, v, M1, h1, e1, e2⟩ := k
  exact ⟨n + 1, v, M1, h1, by rw [run_br he hz0 hz]; exact e1, e2⟩
theorem Wp.onest {e : En} {pc' : Nat} {L' st' : List ZV} {M' : Me} {h' : Ml} (he : look2 T pc = some e) (hz : zst sc e L st S M h = some (pc', L', st', S, M', h')) (k : Wp S T sc pc' L' st' M' h' Φ) : Wp S T sc pc L st M h Φ := by
  obtain ⟨n, v, M1, h1, e1, e2⟩ := k
  exact ⟨n + 1, v, M1, h1, by rw [run_st he hz]; exact e1, e2⟩
theorem Wp.br {P : Prop} {a nx : Nat} {r : List ZV} (hb : zbc T pc st = some (P, a, nx, r)) (kt : P → Wp S T sc a L r M h Φ) (kf : ¬ P → Wp S T sc nx L r M h Φ) : Wp S T sc pc L st M h Φ := by
  unfold zbc at hb
  split at hb
  · next i nx0 a0 b d c w he =>
    split at hb
    · next q off =>
      split at hb
      · next y x r0 =>
        split at hb <;> cases hb
        · by_cases hp : x = y
          · exact Wp.one he rfl (by simp only [zbr]; rw [if_pos hp]) (kt hp)
          · exact Wp.one he rfl (by simp only [zbr]; rw [if_neg hp]) (kf hp)
        · by_cases hp : x ≠ y
          · exact Wp.one he rfl (by simp only [zbr]; rw [if_pos hp]) (kt hp)
          · exact Wp.one he rfl (by simp only [zbr]; rw [if_neg hp]) (kf hp)
        · by_cases hp : x < y
          · exact Wp.one he rfl (by simp only [zbr]; rw [if_pos hp]) (kt hp)
          · exact Wp.one he rfl (by simp only [zbr]; rw [if_neg hp]) (kf hp)
        · by_cases hp : y ≤ x
          · exact Wp.one he rfl (by simp only [zbr]; rw [if_pos hp]) (kt hp)
          · exact Wp.one he rfl (by simp only [zbr]; rw [if_neg hp]) (kf hp)
        · by_cases hp : y < x
          · exact Wp.one he rfl (by simp only [zbr]; rw [if_pos hp]) (kt hp)
          · exact Wp.one he rfl (by simp only [zbr]; rw [if_neg hp]) (kf hp)
        · by_cases hp : x ≤ y
          · exact Wp.one he rfl (by simp only [zbr]; rw [if_pos hp]) (kt hp)
          · exact Wp.one he rfl (by simp only [zbr]; rw [if_neg hp]) (kf hp)
      · cases hb
    · next q off =>
      split at hb
      · next x r0 =>
        split at hb <;> cases hb
        · by_cases hp : x = 0
          · exact Wp.one he rfl (by simp only [zbr]; rw [if_pos hp]) (kt hp)
          · exact Wp.one he rfl (by simp only [zbr]; rw [if_neg hp]) (kf hp)
        · by_cases hp : x ≠ 0
          · exact Wp.one he rfl (by simp only [zbr]; rw [if_pos hp]) (kt hp)
          · exact Wp.one he rfl (by simp only [zbr]; rw [if_neg hp]) (kf hp)
        · by_cases hp : x < 0
          · exact Wp.one he rfl (by simp only [zbr]; rw [if_pos hp]) (kt hp)
          · exact Wp.one he rfl (by simp only [zbr]; rw [if_neg hp]) (kf hp)
        · by_cases hp : 0 ≤ x
          · exact Wp.one he rfl (by simp only [zbr]; rw [if_pos hp]) (kt hp)
          · exact Wp.one he rfl (by simp only [zbr]; rw [if_neg hp]) (kf hp)
        · by_cases hp : 0 < x
          · exact Wp.one he rfl (by simp only [zbr]; rw [if_pos hp]) (kt hp)
          · exact Wp.one he rfl (by simp only [zbr]; rw [if_neg hp]) (kf hp)
        · by_cases hp : x ≤ 0
          · exact Wp.one he rfl (by simp only [zbr]; rw [if_pos hp]) (kt hp)
          · exact Wp.one he rfl (by simp only [zbr]; rw [if_neg hp]) (kf hp)
      · cases hb
    · cases hb
  · cases hb
theorem Wp.brt {P : Prop} {a nx : Nat} {r : List ZV} (hb : zbc T pc st = some (P, a, nx, r)) (hp : P) (k : Wp S T sc a L r M h Φ) : Wp S T sc pc L st M h Φ := Wp.br hb (fun _ => k) (fun q => absurd hp q)
theorem Wp.brf {P : Prop} {a nx : Nat} {r : List ZV} (hb : zbc T pc st = some (P, a, nx, r)) (hp : ¬ P) (k : Wp S T sc nx L r M h Φ) : Wp S T sc pc L st M h Φ := Wp.br hb (fun q => absurd q hp) (fun _ => k)
theorem Wp.ld {k nx n : Nat} {j : Int} {r : List ZV} {rs : List (Option Nat)} (ha : zal T pc st = some (k, j, nx, r)) (hs : zgt S k = some (100, n, rs)) (i : Nat) (hj : j = (i : Int)) (hi : i < n) (kk : Wp S T sc nx L (.inl (M k i) :: r) M h Φ) : Wp S T sc pc L st M h Φ := by
  unfold zal at ha
  split at ha
  · next ii nx0 a0 b d c w he =>
    split at ha
    · split at ha
      · cases ha
        subst hj
        exact Wp.one he rfl (by simp only [zbr]; rw [hs]; dsimp only; rw [if_pos ⟨rfl, by omega, by omega⟩]; rfl) kk
      · cases ha
    · cases ha
  · cases ha
theorem Wp.lds {nx n : Nat} {xs : Nat → Int} {j : Int} {r : List ZV} (ha : zals T pc st = some (j, nx, r)) (hs : sc = some (n, xs)) (i : Nat) (hj : j = (i : Int)) (hi : i < n) (kk : Wp S T sc nx L (.inl (xs i) :: r) M h Φ) : Wp S T sc pc L st M h Φ := by
  unfold zals at ha
  split at ha
  · next ii nx0 a0 b d c w he =>
    split at ha
    · split at ha
      · cases ha
        subst hj; subst hs
        exact Wp.one he rfl (by simp only [zbr]; rw [if_pos ⟨by omega, by omega⟩]; rfl) kk
      · cases ha
    · cases ha
  · cases ha
theorem Wp.sto {k nx n : Nat} {j x : Int} {r : List ZV} {rs : List (Option Nat)} (ha : zas T pc st = some (k, j, x, nx, r)) (hs : zgt S k = some (100, n, rs)) (i : Nat) (hj : j = (i : Int)) (hi : i < n) (kk : Wp S T sc nx L r (upd2 M k i x) h Φ) : Wp S T sc pc L st M h Φ := by
  unfold zas at ha
  split at ha
  · next ii nx0 a0 b d c w he =>
    split at ha
    · split at ha
      · cases ha
        subst hj
        exact Wp.one he rfl (by simp only [zbr]; rw [hs]; dsimp only; rw [if_pos ⟨rfl, by omega, by omega⟩]; rfl) kk
      · cases ha
    · cases ha
  · cases ha
theorem Wp.div {nx : Nat} {x y : Int} {r : List ZV} (ha : zdv T pc st = some (true, x, y, nx, r)) (h0 : 0 ≤ x) (h1 : 0 < y) (kk : Wp S T sc nx L (.inl (x / y) :: r) M h Φ) : Wp S T sc pc L st M h Φ := by
  unfold zdv at ha
  split at ha
  · next ii nx0 a0 b d c w he =>
    split at ha
    · split at ha
      · cases ha
        exact Wp.one he rfl (by simp only [zbr]; rw [if_pos ⟨h0, h1⟩]) kk
      · cases ha
    · split at ha <;> cases ha
    · cases ha
  · cases ha
theorem Wp.rem {nx : Nat} {x y : Int} {r : List ZV} (ha : zdv T pc st = some (false, x, y, nx, r)) (h0 : 0 ≤ x) (h1 : 0 < y) (kk : Wp S T sc nx L (.inl (x % y) :: r) M h Φ) : Wp S T sc pc L st M h Φ := by
  unfold zdv at ha
  split at ha
  · next ii nx0 a0 b d c w he =>
    split at ha
    · split at ha <;> cases ha
    · split at ha
      · cases ha
        exact Wp.one he rfl (by simp only [zbr]; rw [if_pos ⟨h0, h1⟩]) kk
      · cases ha
    · cases ha
  · cases ha
theorem Wp.acp {k1 k2 n1 n2 nx : Nat} {sp dp n : Int} {r : List ZV} {r1 r2 : List (Option Nat)} (ha : zacp T pc st = some (k1, k2, sp, dp, n, nx, r)) (hs1 : zgt S k1 = some (100, n1, r1)) (hs2 : zgt S k2 = some (100, n2, r2)) (sp' dp' n' : Nat) (e1 : sp = (sp' : Int)) (e2 : dp = (dp' : Int)) (e3 : n = (n' : Int)) (g1 : sp' + n' ≤ n1) (g2 : dp' + n' ≤ n2) (kk : Wp S T sc nx L r (cpy2 M k1 k2 sp' dp' n') h Φ) : Wp S T sc pc L st M h Φ := by
  unfold zacp at ha
  split at ha
  · next ii nx0 a0 b d c w he =>
    split at ha
    · split at ha
      · next n0 dp0 k20 sp0 k10 r0 =>
        cases hc : Nat.ble (zwt r0) 8 with
        | false => rw [hc, cond_false] at ha; cases ha
        | true =>
          rw [hc, cond_true] at ha
          cases ha
          subst e1; subst e2; subst e3
          exact Wp.one he rfl (by simp only [zbr]; rw [hs1, hs2]; dsimp only; rw [if_pos ⟨rfl, rfl, by omega, by omega, by omega, by omega, by omega, Nat.le_of_ble_eq_true hc⟩]; rfl) kk
      · cases ha
    · cases ha
  · cases ha
theorem Wp.sw {t : Nat} {r : List ZV} (ha : zsw T pc st = some (t, r)) (kk : Wp S T sc t L r M h Φ) : Wp S T sc pc L st M h Φ := by
  unfold zsw at ha
  split at ha
  · next ii nx0 a0 b d c w he =>
    split at ha
    · split at ha
      · split at ha
        · next hx =>
          cases ha
          exact Wp.one he rfl (by simp only [zbr]; rw [if_pos hx]) kk
        · next hx =>
          split at ha
          · next o ho =>
            cases ha
            exact Wp.one he rfl (by simp only [zbr]; rw [if_neg hx, ho]) kk
          · cases ha
      · cases ha
    · cases ha
  · cases ha
theorem zca_none {e : En} {r : CT × List ZV × Nat × List ZV} (hc : zca e st S = some r) : zst sc e L st S M h = none ∧ zbr sc e L st S M h = none := by
  obtain ⟨i, nx, a, b, d, c, w⟩ := e
  cases i
  case invokevirtual k => exact ⟨rfl, rfl⟩
  case invokespecial k =>
    cases a with
    | zero =>
      simp only [zca] at hc
      cases hr : zrr st b with
      | false => rw [hr, cond_false] at hc; cases hc
      | true => rw [hr, cond_true] at hc; cases hc
    | succ a => exact ⟨rfl, rfl⟩
  case invokestatic k =>
    cases a with
    | zero => cases hc
    | succ a => exact ⟨rfl, rfl⟩
  all_goals (simp only [zca, reduceCtorEq] at hc)
theorem Wp.callS {T' : CT} {L0 r : List ZV} {nx : Nat} {Ψ : Option ZV → Me → Ml → Prop} (hc : zcc T pc st S = some (T', L0, nx, r)) (hm : Wp S T' sc 0 L0 [] M h Ψ) (kk : ∀ v M' h', Ψ v M' h' → Wp S T sc nx L (zpush v r) M' h' Φ) : Wp S T sc pc L st M h Φ := by
  unfold zcc at hc
  split at hc
  · next e he =>
    obtain ⟨n, v, M', h', h1, h2⟩ := hm
    obtain ⟨n2, v2, M2, h2', h3, h4⟩ := kk v M' h' h2
    obtain ⟨z0, z1⟩ := zca_none (sc := sc) (L := L) (M := M) (h := h) hc
    refine ⟨max n n2 + 1, v2, M2, h2', ?_, h4⟩
    have e1 := run_up (k := max n n2 - n) h1
    have e2 := run_up (k := max n n2 - n2) h3
    rw [show n + (max n n2 - n) = max n n2 by omega] at e1
    rw [show n2 + (max n n2 - n2) = max n n2 by omega] at e2
    rw [run_ca he z0 z1 hc e1]
    exact e2
  · cases hc
theorem Wp.lift {Ψ : Option ZV → Me → Ml → Prop} (k : Wp S T none pc L st M h Ψ) : Wp S T sc pc L st M h Ψ := by
  obtain ⟨n, v, M', h', h1, h2⟩ := k
  exact ⟨n, v, M', h', run_sc h1, h2⟩
theorem Wp.call {T' : CT} {L0 r : List ZV} {nx : Nat} {Ψ : Option ZV → Me → Ml → Prop} (hc : zcc T pc st S = some (T', L0, nx, r)) (hm : Wp S T' none 0 L0 [] M h Ψ) (kk : ∀ v M' h', Ψ v M' h' → Wp S T sc nx L (zpush v r) M' h' Φ) : Wp S T sc pc L st M h Φ := Wp.callS hc hm.lift kk
theorem Wp.calli {T' : CT} {L0 r : List ZV} {nx : Nat} {x : Int} {M' : Me} {h' : Ml} (hc : zcc T pc st S = some (T', L0, nx, r)) (hm : Wp S T' none 0 L0 [] M h (Ri x M' h')) (kk : Wp S T sc nx L (.inl x :: r) M' h' Φ) : Wp S T sc pc L st M h Φ :=
  Wp.call hc hm (fun v M1 h1 q => by obtain ⟨rfl, rfl, rfl⟩ := q; exact kk)
theorem Wp.callv {T' : CT} {L0 r : List ZV} {nx : Nat} {M' : Me} {h' : Ml} (hc : zcc T pc st S = some (T', L0, nx, r)) (hm : Wp S T' none 0 L0 [] M h (Rv M' h')) (kk : Wp S T sc nx L r M' h' Φ) : Wp S T sc pc L st M h Φ :=
  Wp.call hc hm (fun v M1 h1 q => by obtain ⟨rfl, rfl, rfl⟩ := q; exact kk)
theorem Wp.calll {T' : CT} {L0 r : List ZV} {nx : Nat} {x : Int64} {M' : Me} {h' : Ml} (hc : zcc T pc st S = some (T', L0, nx, r)) (hm : Wp S T' none 0 L0 [] M h (Rl x M' h')) (kk : Wp S T sc nx L (.inr (.inl x) :: r) M' h' Φ) : Wp S T sc pc L st M h Φ :=
  Wp.call hc hm (fun v M1 h1 q => by obtain ⟨rfl, rfl, rfl⟩ := q; exact kk)
theorem Wp.re {v : Option ZV} (hr : zrx T pc st = some v) (hp : Φ v M h) : Wp S T sc pc L st M h Φ := by
  unfold zrx at hr
  split at hr
  · next e he =>
    have hn : zst sc e L st S M h = none ∧ zbr sc e L st S M h = none ∧ zca e st S = none := by
      obtain ⟨i, nx, a, b, d, c, w⟩ := e
      cases i
      case ireturn => exact ⟨rfl, rfl, rfl⟩
      case lreturn => exact ⟨rfl, rfl, rfl⟩
      case return_ => exact ⟨rfl, rfl, rfl⟩
      all_goals (simp only [zre, reduceCtorEq] at hr)
    exact ⟨1, v, M, h, by rw [run_re he hn.1 hn.2.1 hn.2.2 hr], hp⟩
  · cases hr
theorem Wp.rei {x y : Int} {M' : Me} {h' : Ml} (hr : zrx T pc st = some (some (.inl x))) (hx : x = y) (hM : M = M') (hh : h = h') : Wp S T sc pc L st M h (Ri y M' h') := Wp.re hr ⟨by rw [hx], hM, hh⟩
theorem Wp.rev {M' : Me} {h' : Ml} (hr : zrx T pc st = some none) (hM : M = M') (hh : h = h') : Wp S T sc pc L st M h (Rv M' h') := Wp.re hr ⟨rfl, hM, hh⟩
end WPS
/-- plain steps, one at least -/
def zgo1 (T : CT) (sc : Sc) (pc : Nat) (L st : List ZV) (S : Sh) (M : Me) (h : Ml) : Option Zs := match look2 T pc with
  | none => none
  | some e => match zst sc e L st S M h with
    | some (pc', L', st', S', M', h') => zgo 400 T sc pc' L' st' S' M' h'
    | none => none
theorem Wp.g1 {S : Sh} {T : CT} {sc : Sc} {pc : Nat} {L st : List ZV} {M : Me} {h : Ml} {Φ : Option ZV → Me → Ml → Prop} {pc' : Nat} {L' st' : List ZV} {M' : Me} {h' : Ml} (hg : zgo1 T sc pc L st S M h = some (pc', L', st', S, M', h')) (k : Wp S T sc pc' L' st' M' h' Φ) : Wp S T sc pc L st M h Φ := by
  unfold zgo1 at hg
  split at hg
  · cases hg
  · next e he =>
    split at hg
    · next hz =>
      obtain ⟨m, hm⟩ := zgo_run hg
      obtain ⟨n, v, M1, h1, e1, e2⟩ := k
      exact ⟨n + m + 1, v, M1, h1, by rw [run_st he hz, hm]; exact e1, e2⟩
    · cases hg
def zaa (T : CT) (pc : Nat) (st : List ZV) : Option (Nat × Int × Nat × List ZV) := match look2 T pc with
  | some (i, nx, _, _, _, _, _) => (match i with
    | .aaload => (match st with | .inl j :: .inr (.inr (.inl k)) :: r => some (k, j, nx, r) | _ => none)
    | _ => none)
  | none => none
theorem Wp.ald {S : Sh} {T : CT} {sc : Sc} {pc : Nat} {L st : List ZV} {M : Me} {h : Ml} {Φ : Option ZV → Me → Ml → Prop} {k nx n q : Nat} {j : Int} {r : List ZV} {rs : List (Option Nat)} (ha : zaa T pc st = some (k, j, nx, r)) (hs : zgt S k = some (101, n, rs)) (i : Nat) (hj : j = (i : Int)) (hi : i < n) (hq : zgt rs i = some (some q)) (kk : Wp S T sc nx L (zr q :: r) M h Φ) : Wp S T sc pc L st M h Φ := by
  unfold zaa at ha
  split at ha
  · next ii nx0 a0 b d c w he =>
    split at ha
    · split at ha
      · cases ha
        subst hj
        exact Wp.one he rfl (by simp only [zbr]; rw [hs]; dsimp only; rw [if_pos ⟨rfl, by omega, by omega⟩, Int.toNat_natCast, hq]) kk
      · cases ha
    · cases ha
  · cases ha
/-- plain steps up to the place t -/
def zgoT : Nat → Nat → CT → Sc → Nat → List ZV → List ZV → Sh → Me → Ml → Option Zs
  | 0, _, _, _, _, _, _, _, _, _ => none
  | n + 1, t, T, sc, pc, L, st, S, M, h => bif Nat.beq pc t then some (pc, L, st, S, M, h) else (match look2 T pc with
    | none => none
    | some e => match zst sc e L st S M h with
      | some (pc', L', st', S', M', h') => zgoT n t T sc pc' L' st' S' M' h'
      | none => none)
theorem zgoT_run : ∀ {n t : Nat} {T : CT} {sc : Sc} {pc : Nat} {L st : List ZV} {S : Sh} {M : Me} {h : Ml} {pc' : Nat} {L' st' : List ZV} {S' : Sh} {M' : Me} {h' : Ml}, zgoT n t T sc pc L st S M h = some (pc', L', st', S', M', h') → ∃ k, ∀ m, run (m + k) T sc pc L st S M h = run m T sc pc' L' st' S' M' h' := by
  intro n
  induction n with
  | zero => intro t T sc pc L st S M h pc' L' st' S' M' h' hg; cases hg
  | succ n ih =>
    intro t T sc pc L st S M h pc' L' st' S' M' h' hg
    unfold zgoT at hg
    cases hb : Nat.beq pc t with
    | true => rw [hb, cond_true] at hg; cases hg; exact ⟨0, fun m => rfl⟩
    | false =>
      rw [hb, cond_false] at hg
      split at hg
      · cases hg
      · next e he =>
        split at hg
        · next hz =>
          obtain ⟨k, hk⟩ := ih hg
          refine ⟨k + 1, fun m => ?_⟩
          rw [← Nat.add_assoc, run_st he hz]
          exact hk m
        · cases hg
theorem Wp.gt (t : Nat) {S : Sh} {T : CT} {sc : Sc} {pc : Nat} {L st : List ZV} {M : Me} {h : Ml} {Φ : Option ZV → Me → Ml → Prop} {pc' : Nat} {L' st' : List ZV} {M' : Me} {h' : Ml} (hg : zgoT 400 t T sc pc L st S M h = some (pc', L', st', S, M', h')) (k : Wp S T sc pc' L' st' M' h' Φ) : Wp S T sc pc L st M h Φ := by
  obtain ⟨m, hm⟩ := zgoT_run hg
  obtain ⟨n, v, M1, h1, e1, e2⟩ := k
  exact ⟨n + m, v, M1, h1, by rw [hm]; exact e1, e2⟩
end
section
def zS1 : Sh := [(7, 0, [some 1, some 9, some 59, some 61, some 63, some 65, some 71, some 72, some 73]),
  (3, 0, [some 2, some 5, some 8, none, none, none, none, none, none, none, none]),
  (6, 0, [none, some 4, some 3, none, none]),
  (100, 12, []),
  (100, 96, []),
  (6, 0, [none, some 7, some 6, none, none]),
  (100, 10, []),
  (100, 90, []),
  (100, 6, []),
  (2, 0, [some 10, none, none]),
  (101, 6, [some 11, some 19, some 27, some 35, some 43, some 51]),
  (3, 0, [some 12, some 15, some 18, none, none, none, none, none, none, none, none]),
  (6, 0, [none, some 14, some 13, none, none]),
  (100, 12, []),
  (100, 96, []),
  (6, 0, [none, some 17, some 16, none, none]),
  (100, 10, []),
  (100, 90, []),
  (100, 6, []),
  (3, 0, [some 20, some 23, some 26, none, none, none, none, none, none, none, none]),
  (6, 0, [none, some 22, some 21, none, none]),
  (100, 12, []),
  (100, 96, []),
  (6, 0, [none, some 25, some 24, none, none]),
  (100, 10, []),
  (100, 90, []),
  (100, 6, []),
  (3, 0, [some 28, some 31, some 34, none, none, none, none, none, none, none, none]),
  (6, 0, [none, some 30, some 29, none, none]),
  (100, 12, []),
  (100, 96, []),
  (6, 0, [none, some 33, some 32, none, none]),
  (100, 10, []),
  (100, 90, []),
  (100, 6, []),
  (3, 0, [some 36, some 39, some 42, none, none, none, none, none, none, none, none]),
  (6, 0, [none, some 38, some 37, none, none]),
  (100, 12, []),
  (100, 96, []),
  (6, 0, [none, some 41, some 40, none, none]),
  (100, 10, []),
  (100, 90, []),
  (100, 6, []),
  (3, 0, [some 44, some 47, some 50, none, none, none, none, none, none, none, none]),
  (6, 0, [none, some 46, some 45, none, none]),
  (100, 12, []),
  (100, 96, []),
  (6, 0, [none, some 49, some 48, none, none]),
  (100, 10, []),
  (100, 90, []),
  (100, 6, []),
  (3, 0, [some 52, some 55, some 58, none, none, none, none, none, none, none, none]),
  (6, 0, [none, some 54, some 53, none, none]),
  (100, 12, []),
  (100, 96, []),
  (6, 0, [none, some 57, some 56, none, none]),
  (100, 10, []),
  (100, 90, []),
  (100, 6, []),
  (1, 0, [some 60, none, none, none]),
  (100, 80, []),
  (5, 0, [some 62]),
  (100, 7, []),
  (4, 0, [some 64, none, none]),
  (100, 120, []),
  (0, 0, [some 66, some 67, some 68, some 69, some 70, none]),
  (100, 11, []),
  (100, 13, []),
  (100, 13, []),
  (100, 13, []),
  (100, 13, []),
  (100, 3, []),
  (100, 8, []),
  (100, 12, [])]
def zS0 : Sh := [(7, 0, [some 1, some 9, some 59, some 61, some 63, some 65, some 71, some 72, some 73]),
  (3, 0, [some 2, some 5, some 8, none, none, none, none, none, none, none, none]),
  (6, 0, [none, some 4, some 3, none, none]),
  (100, 12, []),
  (100, 96, []),
  (6, 0, [none, some 7, some 6, none, none]),
  (100, 10, []),
  (100, 90, []),
  (100, 6, []),
  (2, 0, [some 10, none, none]),
  (101, 6, [some 11, some 19, some 27, some 35, some 43, some 51]),
  (3, 0, [some 12, some 15, some 18, none, none, none, none, none, none, none, none]),
  (6, 0, [none, some 14, some 13, none, none]),
  (100, 12, []),
  (100, 96, []),
  (6, 0, [none, some 17, some 16, none, none]),
  (100, 10, []),
  (100, 90, []),
  (100, 6, []),
  (3, 0, [some 20, some 23, some 26, none, none, none, none, none, none, none, none]),
  (6, 0, [none, some 22, some 21, none, none]),
  (100, 12, []),
  (100, 96, []),
  (6, 0, [none, some 25, some 24, none, none]),
  (100, 10, []),
  (100, 90, []),
  (100, 6, []),
  (3, 0, [some 28, some 31, some 34, none, none, none, none, none, none, none, none]),
  (6, 0, [none, some 30, some 29, none, none]),
  (100, 12, []),
  (100, 96, []),
  (6, 0, [none, some 33, some 32, none, none]),
  (100, 10, []),
  (100, 90, []),
  (100, 6, []),
  (3, 0, [some 36, some 39, some 42, none, none, none, none, none, none, none, none]),
  (6, 0, [none, some 38, some 37, none, none]),
  (100, 12, []),
  (100, 96, []),
  (6, 0, [none, some 41, some 40, none, none]),
  (100, 10, []),
  (100, 90, []),
  (100, 6, []),
  (3, 0, [some 44, some 47, some 50, none, none, none, none, none, none, none, none]),
  (6, 0, [none, some 46, some 45, none, none]),
  (100, 12, []),
  (100, 96, []),
  (6, 0, [none, some 49, some 48, none, none]),
  (100, 10, []),
  (100, 90, []),
  (100, 6, []),
  (3, 0, [some 52, some 55, some 58, none, none, none, none, none, none, none, none]),
  (6, 0, [none, some 54, some 53, none, none]),
  (100, 12, []),
  (100, 96, []),
  (6, 0, [none, some 57, some 56, none, none]),
  (100, 10, []),
  (100, 90, []),
  (100, 6, []),
  (1, 0, [some 60, none, none, none]),
  (100, 80, []),
  (5, 0, [some 62]),
  (100, 7, []),
  (4, 0, [some 64, none, none]),
  (100, 120, []),
  (0, 0, [some 66, some 67, some 68, some 69, some 70, none]),
  (100, 11, []),
  (100, 13, []),
  (100, 13, []),
  (100, 13, []),
  (100, 13, []),
  (100, 3, []),
  (100, 8, []),
  (100, 12, []),
  (100, 7, []),
  (100, 12, []),
  (100, 10, [])]
end
section
/-! what an office is: a row of 214 whole numbers, as the reference keeps it; and how the class keeps it -/
/-- the first place below n where f is x; n, if there is none -/
def fnd (f : Nat → Int) (x : Int) : Nat → Nat
  | 0 => 0
  | n + 1 => if fnd f x n < n then fnd f x n else if f n = x then n else n + 1
theorem fnd_le (f : Nat → Int) (x : Int) : ∀ n, fnd f x n ≤ n := by
  intro n
  induction n with
  | zero => exact Nat.le_refl _
  | succ n ih =>
    unfold fnd
    split
    · omega
    · split <;> omega
theorem fnd_none {f : Nat → Int} {x : Int} : ∀ {n : Nat}, (∀ j, j < n → f j ≠ x) → fnd f x n = n := by
  intro n
  induction n with
  | zero => intro _; rfl
  | succ n ih =>
    intro h
    have h1 := ih (fun j hj => h j (by omega))
    unfold fnd
    rw [if_neg (by omega), if_neg (h n (by omega))]
theorem fnd_some {f : Nat → Int} {x : Int} : ∀ {n k : Nat}, k < n → f k = x → (∀ j, j < k → f j ≠ x) → fnd f x n = k := by
  intro n
  induction n with
  | zero => intro k h; omega
  | succ n ih =>
    intro k hk hx hj
    by_cases hkn : k < n
    · have h1 := ih hkn hx hj
      unfold fnd
      rw [if_pos (by omega), h1]
    · have hkn : k = n := by omega
      subst hkn
      have h1 := fnd_none hj
      unfold fnd
      rw [if_neg (by omega), if_pos hx]
theorem fnd_spec {f : Nat → Int} {x : Int} {n : Nat} : (fnd f x n < n ∧ f (fnd f x n) = x ∧ ∀ j, j < fnd f x n → f j ≠ x) ∨ (fnd f x n = n ∧ ∀ j, j < n → f j ≠ x) := by
  induction n with
  | zero => exact Or.inr ⟨rfl, fun j h => by omega⟩
  | succ n ih =>
    rcases ih with ⟨h1, h2, h3⟩ | ⟨h1, h2⟩
    · have e : fnd f x (n + 1) = fnd f x n := by
        conv => lhs; unfold fnd
        rw [if_pos h1]
      rw [e]
      exact Or.inl ⟨by omega, h2, h3⟩
    · by_cases hx : f n = x
      · have e := fnd_some (n := n + 1) (k := n) (by omega) hx h2
        rw [e]
        exact Or.inl ⟨by omega, hx, h2⟩
      · refine Or.inr ⟨fnd_none fun j hj => ?_, fun j hj => ?_⟩
        · by_cases e : j = n
          · subst e; exact hx
          · exact h2 j (by omega)
        · by_cases e : j = n
          · subst e; exact hx
          · exact h2 j (by omega)
theorem fnd_congr {f g : Nat → Int} {x : Int} {n : Nat} (h : ∀ j, j < n → f j = g j) : fnd f x n = fnd g x n := by
  rcases fnd_spec (f := f) (x := x) (n := n) with ⟨h1, h2, h3⟩ | ⟨h1, h2⟩
  · exact (fnd_some h1 (by rw [← h _ h1]; exact h2) (fun j hj => by rw [← h j (by omega)]; exact h3 j hj)).symm
  · rw [h1]
    exact (fnd_none fun j hj => by rw [← h j hj]; exact h2 j hj).symm
/-- the claim with which the bag in row r is matched -/
def cw (V : Nat → Int) (nc r : Nat) : Int := if fnd (fun c => V (114 + 10 * c + 9)) (V (18 + 8 * r)) nc < nc then V (114 + 10 * fnd (fun c => V (114 + 10 * c + 9)) (V (18 + 8 * r)) nc) else -10006
/-- the bag with which the claim in row r is matched -/
def pt (V : Nat → Int) (r : Nat) : Int := if V (114 + 10 * r + 9) = 0 then -10006 else V (114 + 10 * r + 9)
/-- the rows of bags and claims -/
def rkB (V : Nat → Int) (nb : Nat) (x : Int) : Nat := fnd (fun r => V (18 + 8 * r)) x nb
def rkC (V : Nat → Int) (nc : Nat) (x : Int) : Nat := fnd (fun r => V (114 + 10 * r)) x nc
/-- an office of the class, at the cell o, holds V -/
def OfRel (M : Me) (o : Nat) (V : Nat → Int) (nb nc : Nat) : Prop :=
  (M o 3 = V 0 ∧ M o 4 = V 1 ∧ M o 5 = V 2 ∧ M o 6 = V 3 ∧ M o 7 = V 14 ∧ M o 8 = V 15 ∧ M o 9 = V 16 ∧ M o 10 = V 17) ∧ (∀ i, i < 6 → M (o + 7) i = V (4 + i)) ∧
  (M (o + 1) 3 = (nb : Int) ∧ M (o + 1) 4 = V 11 ∧ M (o + 4) 3 = (nc : Int) ∧ M (o + 4) 4 = V 13) ∧
  (∀ r, r < nb → M (o + 2) r = V (18 + 8 * r) ∧ (∀ c, c < 7 → M (o + 3) (8 * r + c) = V (18 + 8 * r + 1 + c)) ∧ M (o + 3) (8 * r + 7) = cw V nc r) ∧
  (∀ r, r < nc → M (o + 5) r = V (114 + 10 * r) ∧ (∀ c, c < 8 → M (o + 6) (9 * r + c) = V (114 + 10 * r + 1 + c)) ∧ M (o + 6) (9 * r + 8) = pt V r)
def BOK (V : Nat → Int) (r : Nat) : Prop := 1 ≤ V (18 + 8 * r) ∧ V (18 + 8 * r) ≤ V 11 ∧ (0 ≤ V (18 + 8 * r + 1) ∧ V (18 + 8 * r + 1) ≤ 7) ∧ (0 ≤ V (18 + 8 * r + 2) ∧ V (18 + 8 * r + 2) ≤ 999999) ∧ (0 ≤ V (18 + 8 * r + 3) ∧ V (18 + 8 * r + 3) ≤ 63) ∧ (0 ≤ V (18 + 8 * r + 4) ∧ V (18 + 8 * r + 4) ≤ 7) ∧ (0 ≤ V (18 + 8 * r + 5) ∧ V (18 + 8 * r + 5) ≤ 11) ∧ (0 ≤ V (18 + 8 * r + 6) ∧ V (18 + 8 * r + 6) ≤ 255) ∧ 0 ≤ V (18 + 8 * r + 7) ∧ V (18 + 8 * r + 7) ≤ 9999
def COK (V : Nat → Int) (r : Nat) : Prop := 1 ≤ V (114 + 10 * r) ∧ V (114 + 10 * r) ≤ V 13 ∧ (0 ≤ V (114 + 10 * r + 1) ∧ V (114 + 10 * r + 1) ≤ 999999) ∧ (0 ≤ V (114 + 10 * r + 2) ∧ V (114 + 10 * r + 2) ≤ 7) ∧ (0 ≤ V (114 + 10 * r + 3) ∧ V (114 + 10 * r + 3) ≤ 11) ∧ (0 ≤ V (114 + 10 * r + 4) ∧ V (114 + 10 * r + 4) ≤ 255) ∧ (1 ≤ V (114 + 10 * r + 5) ∧ V (114 + 10 * r + 5) ≤ 255) ∧ (1 ≤ V (114 + 10 * r + 6) ∧ V (114 + 10 * r + 6) ≤ 99999) ∧ (0 ≤ V (114 + 10 * r + 7) ∧ V (114 + 10 * r + 7) ≤ 20) ∧ (-30 ≤ V (114 + 10 * r + 8) ∧ V (114 + 10 * r + 8) ≤ 9999) ∧ 0 ≤ V (114 + 10 * r + 9) ∧ V (114 + 10 * r + 9) ≤ V 11
def WF (V : Nat → Int) (nb nc t : Nat) : Prop :=
  (V 10 = (nb : Int) ∧ V 12 = (nc : Int) ∧ nb ≤ 12 ∧ nc ≤ 10) ∧
  ((0 ≤ V 0 ∧ V 0 ≤ 9999) ∧ (0 ≤ V 1 ∧ V 1 ≤ 200) ∧ (0 ≤ V 2 ∧ V 2 ≤ 500) ∧ (0 ≤ V 3 ∧ V 3 ≤ 9999) ∧ (∀ i, i < 6 → 0 ≤ V (4 + i) ∧ V (4 + i) ≤ 50) ∧ (0 ≤ V 11 ∧ V 11 ≤ 12 * t) ∧ (0 ≤ V 13 ∧ V 13 ≤ 12 * t)) ∧
  (∀ r, r < nb → BOK V r) ∧ (∀ r, r < nc → COK V r) ∧
  (∀ r q, r < nb → q < nb → V (18 + 8 * r) = V (18 + 8 * q) → r = q) ∧
  (∀ r, r < nc → V (114 + 10 * r + 9) ≠ 0 → ∃ b, b < nb ∧ V (18 + 8 * b) = V (114 + 10 * r + 9)) ∧
  (∀ r q, r < nc → q < nc → V (114 + 10 * r + 9) = V (114 + 10 * q + 9) → V (114 + 10 * r + 9) ≠ 0 → r = q)
/-- the saved states of the class, the oldest first -/
def HiRel (M : Me) (kn : Nat) (P : Nat → Nat → Int) : Prop := ∃ nx : Nat, nx < 6 ∧ M 9 1 = (nx : Int) ∧ M 9 2 = (kn : Int) ∧ kn ≤ 6 ∧ ∀ c, c < kn → ∃ nb nc : Nat, P c 10 = (nb : Int) ∧ P c 12 = (nc : Int) ∧ OfRel M (11 + 8 * ((nx + 6 - kn + c) % 6)) (P c) nb nc
/-- the class's object holds the state -/
def CRel (M : Me) (V : Nat → Int) (nb nc kn : Nat) (P : Nat → Nat → Int) (len : Nat) (tx : Nat → Int) (p0 p1 p2 : Int) : Prop :=
  OfRel M 1 V nb nc ∧ (M 2 0 = 8 ∧ M 5 0 = 9) ∧ HiRel M kn P ∧ (M 59 1 = (len : Int) ∧ ∀ i, i < len → M 60 i = tx i) ∧ (M 71 0 = p0 ∧ M 71 1 = p1 ∧ M 71 2 = p2)
/-- the reference holds it -/
def MRel (M : Me) (V : Nat → Int) (kn : Nat) (P : Nat → Nat → Int) (len : Nat) (tx : Nat → Int) (p0 p1 p2 : Int) : Prop :=
  (∀ j, j < 214 → M 75 j = V j) ∧ (M 74 2 = (kn : Int) ∧ ∀ c j, c < kn → j < 214 → M 76 (214 * c + j) = P c j) ∧ (M 74 4 = (len : Int) ∧ ∀ i, i < len → M 77 i = tx i) ∧ (M 74 5 = p0 ∧ M 74 6 = p1 ∧ M 74 7 = p2)
/-- the state is in order after t calls -/
def SOK (V : Nat → Int) (nb nc kn : Nat) (P : Nat → Nat → Int) (len : Nat) (tx : Nat → Int) (t : Nat) : Prop :=
  WF V nb nc t ∧ kn ≤ 6 ∧ (∀ c, c < kn → ∃ nb' nc' : Nat, WF (P c) nb' nc' t) ∧ len ≤ 80 ∧ ∀ i, i < len → 33 ≤ tx i ∧ tx i ≤ 126
def svK (kn : Nat) : Nat := if kn = 6 then 6 else kn + 1
def svP (kn : Nat) (V : Nat → Int) (P : Nat → Nat → Int) : Nat → Nat → Int := fun c => if kn = 6 then (if c < 5 then P (c + 1) else V) else (if c < kn then P c else V)
theorem OfRel.kept {M M' : Me} {o : Nat} {V : Nat → Int} {nb nc : Nat} (h : OfRel M o V nb nc) (hk : ∀ k, o ≤ k → k < o + 8 → M' k = M k) : OfRel M' o V nb nc := by
  unfold OfRel at h ⊢
  rw [hk o (by omega) (by omega), hk (o + 1) (by omega) (by omega), hk (o + 2) (by omega) (by omega), hk (o + 3) (by omega) (by omega), hk (o + 4) (by omega) (by omega), hk (o + 5) (by omega) (by omega), hk (o + 6) (by omega) (by omega), hk (o + 7) (by omega) (by omega)]
  exact h
theorem HiRel.kept {M M' : Me} {kn : Nat} {P : Nat → Nat → Int} (h : HiRel M kn P) (hk : ∀ k, 9 ≤ k → k < 59 → M' k = M k) : HiRel M' kn P := by
  obtain ⟨nx, h1, h2, h3, h4, h5⟩ := h
  refine ⟨nx, h1, by rw [hk 9 (by omega) (by omega)]; exact h2, by rw [hk 9 (by omega) (by omega)]; exact h3, h4, fun c hc => ?_⟩
  obtain ⟨nb, nc, e1, e2, e3⟩ := h5 c hc
  exact ⟨nb, nc, e1, e2, e3.kept (fun k g1 g2 => hk k (by omega) (by omega))⟩
theorem CRel.kept {M M' : Me} {V : Nat → Int} {nb nc kn : Nat} {P : Nat → Nat → Int} {len : Nat} {tx : Nat → Int} {p0 p1 p2 : Int} (h : CRel M V nb nc kn P len tx p0 p1 p2) (hk : ∀ k, k < 61 ∨ k = 71 → M' k = M k) : CRel M' V nb nc kn P len tx p0 p1 p2 := by
  obtain ⟨h1, h2, h3, h4, h5⟩ := h
  refine ⟨h1.kept (fun k _ g => hk k (by omega)), ?_, h3.kept (fun k _ g => hk k (by omega)), ?_, ?_⟩
  · rw [hk 2 (by omega), hk 5 (by omega)]; exact h2
  · rw [hk 59 (by omega), hk 60 (by omega)]; exact h4
  · rw [hk 71 (by omega)]; exact h5
theorem MRel.kept {M M' : Me} {V : Nat → Int} {kn : Nat} {P : Nat → Nat → Int} {len : Nat} {tx : Nat → Int} {p0 p1 p2 : Int} (h : MRel M V kn P len tx p0 p1 p2) (hk : ∀ k, 74 ≤ k → k < 78 → M' k = M k) : MRel M' V kn P len tx p0 p1 p2 := by
  unfold MRel at h ⊢
  rw [hk 74 (by omega) (by omega), hk 75 (by omega) (by omega), hk 76 (by omega) (by omega), hk 77 (by omega) (by omega)]
  exact h
end
section
def sumI (f : Nat → Int) : Nat → Int
  | 0 => 0
  | n + 1 => sumI f n + f n
theorem sumI_bd {f : Nat → Int} : ∀ n : Nat, (∀ j, j < n → 0 ≤ f j ∧ f j ≤ 1) → 0 ≤ sumI f n ∧ sumI f n ≤ n := by
  intro n
  induction n with
  | zero => intro _; exact ⟨Int.le_refl _, Int.le_refl _⟩
  | succ n ih =>
    intro h
    have h1 := ih (fun j hj => h j (by omega))
    have h2 := h n (by omega)
    show 0 ≤ sumI f n + f n ∧ sumI f n + f n ≤ ((n + 1 : Nat) : Int)
    omega
theorem sumI_congr {f g : Nat → Int} : ∀ n : Nat, (∀ j, j < n → f j = g j) → sumI f n = sumI g n := by
  intro n
  induction n with
  | zero => intro _; rfl
  | succ n ih =>
    intro h
    show sumI f n + f n = sumI g n + g n
    rw [ih (fun j hj => h j (by omega)), h n (by omega)]
/-- a hash over numbers -/
def hfold (f : Nat → Int) (s : Int64) : Nat → Int64
  | 0 => s
  | k + 1 => 31 * hfold f s k + Int64.ofInt (f k)
theorem hfold_congr {f g : Nat → Int} {s : Int64} : ∀ n : Nat, (∀ j, j < n → f j = g j) → hfold f s n = hfold g s n := by
  intro n
  induction n with
  | zero => intro _; rfl
  | succ n ih =>
    intro h
    show 31 * hfold f s n + Int64.ofInt (f n) = 31 * hfold g s n + Int64.ofInt (g n)
    rw [ih (fun j hj => h j (by omega)), h n (by omega)]
theorem m_outside (v l g : Int) (M : Me) (h : Ml) : Wp zS0 tX8_outside none 0 [zi v, zi l, zi g] [] M h (Ri (if v < l ∨ g < v then 1 else 0) M h) := by
  repeat' first | refine Wp.g1 rfl ?_ | refine Wp.br rfl (fun _ => ?_) (fun _ => ?_)
  all_goals refine Wp.rei rfl ?_ rfl rfl
  all_goals (split <;> omega)
theorem m2_rows (M : Me) (h : Ml) : Wp zS0 tX6_rows none 0 [zr 2] [] M h (Ri (M 2 3) M h) := by
  refine Wp.g1 rfl ?_
  exact Wp.rei rfl rfl rfl rfl
theorem m2_isFull (n : Nat) (M : Me) (h : Ml) (hn : M 2 3 = (n : Int)) : Wp zS0 tX6_isFull none 0 [zr 2] [] M h (Ri (if 12 ≤ n then 1 else 0) M h) := by
  repeat' first | refine Wp.g1 rfl ?_ | refine Wp.br rfl (fun _ => ?_) (fun _ => ?_)
  all_goals refine Wp.rei rfl ?_ rfl rfl
  all_goals (split <;> omega)
theorem m2_hasRow (row : Int) (n : Nat) (M : Me) (h : Ml) (hn : M 2 3 = (n : Int)) (hR : n ≤ 12) : Wp zS0 tX6_hasRow none 0 [zr 2, zi row] [] M h (Ri (if 0 ≤ row ∧ row < (n : Int) then 1 else 0) M h) := by
  repeat' first | refine Wp.g1 rfl ?_ | refine Wp.br rfl (fun _ => ?_) (fun _ => ?_)
  all_goals refine Wp.rei rfl ?_ rfl rfl
  all_goals (split <;> omega)
theorem m2_rowOf (x : Int) (n : Nat) (M : Me) (h : Ml) (hn : M 2 3 = (n : Int)) (hR : n ≤ 12) : Wp zS0 tX6_rowOf none 0 [zr 2, zi x, zn] [] M h (Ri (if fnd (M 3) x n < n then (fnd (M 3) x n : Int) else -1) M h) := by
  have loop : ∀ d r : Nat, r + d = n → (∀ j, j < r → M 3 j ≠ x) → Wp zS0 tX6_rowOf none 2 [zr 2, zi x, zi r] [] M h (Ri (if fnd (M 3) x n < n then (fnd (M 3) x n : Int) else -1) M h) := by
    intro d
    induction d with
    | zero =>
      intro r hr hj
      have e := fnd_none (n := n) (f := M 3) (x := x) (fun j h1 => hj j (by omega))
      refine Wp.g1 rfl ?_
      refine Wp.brt rfl (by omega) ?_
      refine Wp.g1 rfl ?_
      exact Wp.rei rfl (by rw [if_neg (by omega)]) rfl rfl
    | succ d ih =>
      intro r hr hj
      refine Wp.g1 rfl ?_
      refine Wp.brf rfl (by omega) ?_
      refine Wp.g1 rfl ?_
      refine Wp.brf rfl (by omega) ?_
      refine Wp.g1 rfl ?_
      refine Wp.ld rfl rfl r rfl (by omega) ?_
      refine Wp.g1 rfl ?_
      refine Wp.br rfl (fun c => ?_) (fun c => ?_)
      · refine Wp.gt 2 rfl ?_
        rw [show w32 ((r : Int) + 1) = ((r + 1 : Nat) : Int) by simp only [w32_def]; omega]
        exact ih (r + 1) (by omega) (fun j h1 => by
          by_cases e : j = r
          · subst e; exact c
          · exact hj j (by omega))
      · have c : M 3 r = x := Decidable.not_not.mp c
        have e := fnd_some (n := n) (f := M 3) (x := x) (k := r) (by omega) c hj
        refine Wp.g1 rfl ?_
        exact Wp.rei rfl (by rw [e, if_pos (by omega)]) rfl rfl
  refine Wp.gt 2 rfl ?_
  exact loop n 0 (by omega) (fun j h1 => by omega)
theorem m2_numberOf (r n : Nat) (M : Me) (h : Ml) (hn : M 2 3 = (n : Int)) (hR : n ≤ 12) (hr : r < n) : Wp zS0 tX6_numberOf none 0 [zr 2, zi r] [] M h (Ri (M 3 r) M h) := by
  refine Wp.g1 rfl ?_
  refine Wp.calli rfl (m2_hasRow _ n M h hn hR) ?_
  refine Wp.brf rfl (by split <;> omega) ?_
  refine Wp.g1 rfl ?_
  refine Wp.ld rfl rfl r rfl (by omega) ?_
  refine Wp.g1 rfl ?_
  exact Wp.rei rfl rfl rfl rfl
theorem m2_get (r c n : Nat) (M : Me) (h : Ml) (hw : M 2 0 = 8) (hn : M 2 3 = (n : Int)) (hR : n ≤ 12) (hr : r < n) (hc : c < 8) : Wp zS0 tX6_get none 0 [zr 2, zi r, zi c] [] M h (Ri (M 4 (8 * r + c)) M h) := by
  refine Wp.g1 rfl ?_
  refine Wp.calli rfl (m2_hasRow _ n M h hn hR) ?_
  refine Wp.brf rfl (by split <;> omega) ?_
  refine Wp.g1 rfl ?_
  refine Wp.calli rfl (m_outside _ _ _ M h) ?_
  refine Wp.brt rfl (by simp only [w32_def]; split <;> omega) ?_
  refine Wp.g1 rfl ?_
  refine Wp.ld rfl rfl (8 * r + c) (by simp only [w32_def]; rw [hw]; omega) (by omega) ?_
  exact Wp.rei rfl rfl rfl rfl
theorem m2_put (r c n : Nat) (v : Int) (M : Me) (h : Ml) (hw : M 2 0 = 8) (hn : M 2 3 = (n : Int)) (hR : n ≤ 12) (hr : r < n) (hc : c < 8) : Wp zS0 tX6_put none 0 [zr 2, zi r, zi c, zi v] [] M h (Rv (upd2 M 4 (8 * r + c) v) h) := by
  refine Wp.g1 rfl ?_
  refine Wp.calli rfl (m2_hasRow _ n M h hn hR) ?_
  refine Wp.brf rfl (by split <;> omega) ?_
  refine Wp.g1 rfl ?_
  refine Wp.calli rfl (m_outside _ _ _ M h) ?_
  refine Wp.brf rfl (by simp only [w32_def]; split <;> omega) ?_
  refine Wp.g1 rfl ?_
  refine Wp.sto rfl rfl (8 * r + c) (by simp only [w32_def]; rw [hw]; omega) (by omega) ?_
  exact Wp.rev rfl rfl rfl
theorem m2_partner (r n : Nat) (M : Me) (h : Ml) (hw : M 2 0 = 8) (hn : M 2 3 = (n : Int)) (hR : n ≤ 12) (hr : r < n) : Wp zS0 tX6_partner none 0 [zr 2, zi r] [] M h (Ri (M 4 (8 * r + 7)) M h) := by
  refine Wp.g1 rfl ?_
  rw [show w32 (M 2 0 - 1) = ((7 : Nat) : Int) by simp only [w32_def]; rw [hw]; rfl]
  refine Wp.calli rfl (m2_get r 7 n M h hw hn hR hr (by omega)) ?_
  exact Wp.rei rfl rfl rfl rfl
theorem m2_setPartner (r n : Nat) (v : Int) (M : Me) (h : Ml) (hw : M 2 0 = 8) (hn : M 2 3 = (n : Int)) (hR : n ≤ 12) (hr : r < n) : Wp zS0 tX6_setPartner none 0 [zr 2, zi r, zi v] [] M h (Rv (upd2 M 4 (8 * r + 7) v) h) := by
  refine Wp.g1 rfl ?_
  rw [show w32 (M 2 0 - 1) = ((7 : Nat) : Int) by simp only [w32_def]; rw [hw]; rfl]
  refine Wp.callv rfl (m2_put r 7 n v M h hw hn hR hr (by omega)) ?_
  exact Wp.rev rfl rfl rfl
theorem m2_isFree (r n : Nat) (M : Me) (h : Ml) (hw : M 2 0 = 8) (hn : M 2 3 = (n : Int)) (hR : n ≤ 12) : Wp zS0 tX6_isFree none 0 [zr 2, zi r] [] M h (Ri (if r < n ∧ M 4 (8 * r + 7) = -10006 then 1 else 0) M h) := by
  refine Wp.g1 rfl ?_
  refine Wp.calli rfl (m2_hasRow _ n M h hn hR) ?_
  by_cases hr : r < n
  · refine Wp.brf rfl (by split <;> omega) ?_
    refine Wp.g1 rfl ?_
    refine Wp.ld rfl rfl (8 * r + 7) (by simp only [w32_def]; rw [hw]; omega) (by omega) ?_
    refine Wp.g1 rfl ?_
    refine Wp.br rfl (fun c => ?_) (fun c => ?_)
    · refine Wp.g1 rfl ?_
      exact Wp.rei rfl (by rw [if_neg (fun q => c q.2)]) rfl rfl
    · refine Wp.g1 rfl ?_
      exact Wp.rei rfl (by rw [if_pos ⟨hr, Decidable.not_not.mp c⟩]) rfl rfl
  · refine Wp.brt rfl (by split <;> omega) ?_
    refine Wp.g1 rfl ?_
    exact Wp.rei rfl (by rw [if_neg (fun q => hr q.1)]) rfl rfl
theorem m2_matchedRows (n : Nat) (M : Me) (h : Ml) (hw : M 2 0 = 8) (hn : M 2 3 = (n : Int)) (hR : n ≤ 12) : Wp zS0 tX6_matchedRows none 0 [zr 2, zn, zn] [] M h (Ri (sumI (fun r => if M 4 (8 * r + 7) = -10006 then 0 else 1) n) M h) := by
  have loop : ∀ d r : Nat, r + d = n → Wp zS0 tX6_matchedRows none 4 [zr 2, zi (sumI (fun r => if M 4 (8 * r + 7) = -10006 then 0 else 1) r), zi r] [] M h (Ri (sumI (fun r => if M 4 (8 * r + 7) = -10006 then 0 else 1) n) M h) := by
    intro d
    induction d with
    | zero =>
      intro r hr
      refine Wp.g1 rfl ?_
      refine Wp.brt rfl (by omega) ?_
      refine Wp.g1 rfl ?_
      have e : r = n := by omega
      subst e
      exact Wp.rei rfl rfl rfl rfl
    | succ d ih =>
      intro r hr
      have hb := sumI_bd (f := fun r => if M 4 (8 * r + 7) = -10006 then 0 else 1) r (fun j _ => by split <;> omega)
      refine Wp.g1 rfl ?_
      refine Wp.brf rfl (by omega) ?_
      refine Wp.g1 rfl ?_
      refine Wp.calli rfl (m2_isFree r n M h hw hn hR) ?_
      have e1 : w32 ((r : Int) + 1) = ((r + 1 : Nat) : Int) := by simp only [w32_def]; omega
      have ih' := ih (r + 1) (by omega)
      have e3 : sumI (fun r => if M 4 (8 * r + 7) = -10006 then 0 else 1) (r + 1) = sumI (fun r => if M 4 (8 * r + 7) = -10006 then 0 else 1) r + (if M 4 (8 * r + 7) = -10006 then 0 else 1) := rfl
      rw [e3] at ih'
      by_cases hf : M 4 (8 * r + 7) = -10006
      · refine Wp.brt rfl (by rw [if_pos ⟨by omega, hf⟩]; decide) ?_
        refine Wp.gt 4 rfl ?_
        rw [e1]
        rw [if_pos hf, Int.add_zero] at ih'
        exact ih'
      · refine Wp.brf rfl (by rw [if_neg (fun q => hf q.2)]; decide) ?_
        refine Wp.gt 4 rfl ?_
        rw [e1, show w32 (sumI (fun r => if M 4 (8 * r + 7) = -10006 then 0 else 1) r + 1) = sumI (fun r => if M 4 (8 * r + 7) = -10006 then 0 else 1) r + 1 by simp only [w32_def]; omega]
        rw [if_neg hf] at ih'
        exact ih'
  refine Wp.gt 4 rfl ?_
  exact loop n 0 (by omega)
theorem m2_append (n : Nat) (M : Me) (h : Ml) (hw : M 2 0 = 8) (hn : M 2 3 = (n : Int)) (hR : n < 12) : Wp zS0 tX6_append none 0 [zr 2, zn] [] M h (Ri n (upd2 (upd2 (upd2 (upd2 M 2 3 ((n + 1 : Nat) : Int)) 2 4 (w32 (M 2 4 + 1))) 3 n (w32 (M 2 4 + 1))) 4 (8 * n + 7) (-10006)) h) := by
  refine Wp.g1 rfl ?_
  refine Wp.calli rfl (m2_isFull n M h hn) ?_
  refine Wp.brt rfl (by split <;> omega) ?_
  refine Wp.g1 rfl ?_
  rw [hn, show w32 ((n : Int) + 1) = ((n + 1 : Nat) : Int) by simp only [w32_def]; omega]
  refine Wp.sto rfl rfl n rfl (by omega) ?_
  refine Wp.g1 rfl ?_
  refine Wp.callv rfl (m2_setPartner n (n + 1) (-10006) _ h ?_ ?_ (by omega) (by omega)) ?_
  · simp [upd2, hw]
  · simp [upd2]
  refine Wp.g1 rfl ?_
  refine Wp.rei rfl rfl ?_ rfl
  simp [upd2]
theorem m2_remove (r n : Nat) (M : Me) (h : Ml) (hw : M 2 0 = 8) (hn : M 2 3 = (n : Int)) (hR : n ≤ 12) (hr : r < n) : Wp zS0 tX6_remove none 0 [zr 2, zi r, zn] [] M h (Rv (upd2 (cpy2 (cpy2 M 3 3 (r + 1) r (n - r - 1)) 4 4 (8 * (r + 1)) (8 * r) (8 * (n - r - 1))) 2 3 ((n - 1 : Nat) : Int)) h) := by
  have g1 : ∀ (a b c d e : Nat), cpy2 (cpy2 M 3 3 a b c) 4 4 d e 0 2 = M 2 := fun _ _ _ _ _ => by funext j; simp [cpy2]
  refine Wp.g1 rfl ?_
  refine Wp.calli rfl (m2_hasRow _ n M h hn hR) ?_
  refine Wp.brt rfl (by split <;> omega) ?_
  refine Wp.g1 rfl ?_
  refine Wp.acp rfl rfl rfl (r + 1) r (n - r - 1) (by simp only [w32_def]; omega) rfl (by simp only [w32_def]; rw [hn]; omega) (by omega) (by omega) ?_
  refine Wp.g1 rfl ?_
  have e0 : cpy2 M 3 3 (r + 1) r (n - r - 1) 2 = M 2 := by funext j; simp [cpy2]
  refine Wp.acp rfl rfl rfl (8 * (r + 1)) (8 * r) (8 * (n - r - 1)) (by rw [e0, hw]; simp only [w32_def]; omega) (by rw [e0, hw]; simp only [w32_def]; omega) (by rw [e0, hw, hn]; simp only [w32_def]; omega) (by omega) (by omega) ?_
  refine Wp.g1 rfl ?_
  refine Wp.rev rfl ?_ rfl
  have e1 : cpy2 (cpy2 M 3 3 (r + 1) r (n - r - 1)) 4 4 (8 * (r + 1)) (8 * r) (8 * (n - r - 1)) 2 = M 2 := by funext j; simp [cpy2]
  rw [e1, hn, show w32 ((n : Int) - 1) = ((n - 1 : Nat) : Int) by simp only [w32_def]; omega]
theorem m5_rows (M : Me) (h : Ml) : Wp zS0 tX6_rows none 0 [zr 5] [] M h (Ri (M 5 3) M h) := by
  refine Wp.g1 rfl ?_
  exact Wp.rei rfl rfl rfl rfl
theorem m5_isFull (n : Nat) (M : Me) (h : Ml) (hn : M 5 3 = (n : Int)) : Wp zS0 tX6_isFull none 0 [zr 5] [] M h (Ri (if 10 ≤ n then 1 else 0) M h) := by
  repeat' first | refine Wp.g1 rfl ?_ | refine Wp.br rfl (fun _ => ?_) (fun _ => ?_)
  all_goals refine Wp.rei rfl ?_ rfl rfl
  all_goals (split <;> omega)
theorem m5_hasRow (row : Int) (n : Nat) (M : Me) (h : Ml) (hn : M 5 3 = (n : Int)) (hR : n ≤ 10) : Wp zS0 tX6_hasRow none 0 [zr 5, zi row] [] M h (Ri (if 0 ≤ row ∧ row < (n : Int) then 1 else 0) M h) := by
  repeat' first | refine Wp.g1 rfl ?_ | refine Wp.br rfl (fun _ => ?_) (fun _ => ?_)
  all_goals refine Wp.rei rfl ?_ rfl rfl
  all_goals (split <;> omega)
theorem m5_rowOf (x : Int) (n : Nat) (M : Me) (h : Ml) (hn : M 5 3 = (n : Int)) (hR : n ≤ 10) : Wp zS0 tX6_rowOf none 0 [zr 5, zi x, zn] [] M h (Ri (if fnd (M 6) x n < n then (fnd (M 6) x n : Int) else -1) M h) := by
  have loop : ∀ d r : Nat, r + d = n → (∀ j, j < r → M 6 j ≠ x) → Wp zS0 tX6_rowOf none 2 [zr 5, zi x, zi r] [] M h (Ri (if fnd (M 6) x n < n then (fnd (M 6) x n : Int) else -1) M h) := by
    intro d
    induction d with
    | zero =>
      intro r hr hj
      have e := fnd_none (n := n) (f := M 6) (x := x) (fun j h1 => hj j (by omega))
      refine Wp.g1 rfl ?_
      refine Wp.brt rfl (by omega) ?_
      refine Wp.g1 rfl ?_
      exact Wp.rei rfl (by rw [if_neg (by omega)]) rfl rfl
    | succ d ih =>
      intro r hr hj
      refine Wp.g1 rfl ?_
      refine Wp.brf rfl (by omega) ?_
      refine Wp.g1 rfl ?_
      refine Wp.brf rfl (by omega) ?_
      refine Wp.g1 rfl ?_
      refine Wp.ld rfl rfl r rfl (by omega) ?_
      refine Wp.g1 rfl ?_
      refine Wp.br rfl (fun c => ?_) (fun c => ?_)
      · refine Wp.gt 2 rfl ?_
        rw [show w32 ((r : Int) + 1) = ((r + 1 : Nat) : Int) by simp only [w32_def]; omega]
        exact ih (r + 1) (by omega) (fun j h1 => by
          by_cases e : j = r
          · subst e; exact c
          · exact hj j (by omega))
      · have c : M 6 r = x := Decidable.not_not.mp c
        have e := fnd_some (n := n) (f := M 6) (x := x) (k := r) (by omega) c hj
        refine Wp.g1 rfl ?_
        exact Wp.rei rfl (by rw [e, if_pos (by omega)]) rfl rfl
  refine Wp.gt 2 rfl ?_
  exact loop n 0 (by omega) (fun j h1 => by omega)
theorem m5_numberOf (r n : Nat) (M : Me) (h : Ml) (hn : M 5 3 = (n : Int)) (hR : n ≤ 10) (hr : r < n) : Wp zS0 tX6_numberOf none 0 [zr 5, zi r] [] M h (Ri (M 6 r) M h) := by
  refine Wp.g1 rfl ?_
  refine Wp.calli rfl (m5_hasRow _ n M h hn hR) ?_
  refine Wp.brf rfl (by split <;> omega) ?_
  refine Wp.g1 rfl ?_
  refine Wp.ld rfl rfl r rfl (by omega) ?_
  refine Wp.g1 rfl ?_
  exact Wp.rei rfl rfl rfl rfl
theorem m5_get (r c n : Nat) (M : Me) (h : Ml) (hw : M 5 0 = 9) (hn : M 5 3 = (n : Int)) (hR : n ≤ 10) (hr : r < n) (hc : c < 9) : Wp zS0 tX6_get none 0 [zr 5, zi r, zi c] [] M h (Ri (M 7 (9 * r + c)) M h) := by
  refine Wp.g1 rfl ?_
  refine Wp.calli rfl (m5_hasRow _ n M h hn hR) ?_
  refine Wp.brf rfl (by split <;> omega) ?_
  refine Wp.g1 rfl ?_
  refine Wp.calli rfl (m_outside _ _ _ M h) ?_
  refine Wp.brt rfl (by simp only [w32_def]; split <;> omega) ?_
  refine Wp.g1 rfl ?_
  refine Wp.ld rfl rfl (9 * r + c) (by simp only [w32_def]; rw [hw]; omega) (by omega) ?_
  exact Wp.rei rfl rfl rfl rfl
theorem m5_put (r c n : Nat) (v : Int) (M : Me) (h : Ml) (hw : M 5 0 = 9) (hn : M 5 3 = (n : Int)) (hR : n ≤ 10) (hr : r < n) (hc : c < 9) : Wp zS0 tX6_put none 0 [zr 5, zi r, zi c, zi v] [] M h (Rv (upd2 M 7 (9 * r + c) v) h) := by
  refine Wp.g1 rfl ?_
  refine Wp.calli rfl (m5_hasRow _ n M h hn hR) ?_
  refine Wp.brf rfl (by split <;> omega) ?_
  refine Wp.g1 rfl ?_
  refine Wp.calli rfl (m_outside _ _ _ M h) ?_
  refine Wp.brf rfl (by simp only [w32_def]; split <;> omega) ?_
  refine Wp.g1 rfl ?_
  refine Wp.sto rfl rfl (9 * r + c) (by simp only [w32_def]; rw [hw]; omega) (by omega) ?_
  exact Wp.rev rfl rfl rfl
theorem m5_partner (r n : Nat) (M : Me) (h : Ml) (hw : M 5 0 = 9) (hn : M 5 3 = (n : Int)) (hR : n ≤ 10) (hr : r < n) : Wp zS0 tX6_partner none 0 [zr 5, zi r] [] M h (Ri (M 7 (9 * r + 8)) M h) := by
  refine Wp.g1 rfl ?_
  rw [show w32 (M 5 0 - 1) = ((8 : Nat) : Int) by simp only [w32_def]; rw [hw]; rfl]
  refine Wp.calli rfl (m5_get r 8 n M h hw hn hR hr (by omega)) ?_
  exact Wp.rei rfl rfl rfl rfl
theorem m5_setPartner (r n : Nat) (v : Int) (M : Me) (h : Ml) (hw : M 5 0 = 9) (hn : M 5 3 = (n : Int)) (hR : n ≤ 10) (hr : r < n) : Wp zS0 tX6_setPartner none 0 [zr 5, zi r, zi v] [] M h (Rv (upd2 M 7 (9 * r + 8) v) h) := by
  refine Wp.g1 rfl ?_
  rw [show w32 (M 5 0 - 1) = ((8 : Nat) : Int) by simp only [w32_def]; rw [hw]; rfl]
  refine Wp.callv rfl (m5_put r 8 n v M h hw hn hR hr (by omega)) ?_
  exact Wp.rev rfl rfl rfl
theorem m5_isFree (r n : Nat) (M : Me) (h : Ml) (hw : M 5 0 = 9) (hn : M 5 3 = (n : Int)) (hR : n ≤ 10) : Wp zS0 tX6_isFree none 0 [zr 5, zi r] [] M h (Ri (if r < n ∧ M 7 (9 * r + 8) = -10006 then 1 else 0) M h) := by
  refine Wp.g1 rfl ?_
  refine Wp.calli rfl (m5_hasRow _ n M h hn hR) ?_
  by_cases hr : r < n
  · refine Wp.brf rfl (by split <;> omega) ?_
    refine Wp.g1 rfl ?_
    refine Wp.ld rfl rfl (9 * r + 8) (by simp only [w32_def]; rw [hw]; omega) (by omega) ?_
    refine Wp.g1 rfl ?_
    refine Wp.br rfl (fun c => ?_) (fun c => ?_)
    · refine Wp.g1 rfl ?_
      exact Wp.rei rfl (by rw [if_neg (fun q => c q.2)]) rfl rfl
    · refine Wp.g1 rfl ?_
      exact Wp.rei rfl (by rw [if_pos ⟨hr, Decidable.not_not.mp c⟩]) rfl rfl
  · refine Wp.brt rfl (by split <;> omega) ?_
    refine Wp.g1 rfl ?_
    exact Wp.rei rfl (by rw [if_neg (fun q => hr q.1)]) rfl rfl
theorem m5_matchedRows (n : Nat) (M : Me) (h : Ml) (hw : M 5 0 = 9) (hn : M 5 3 = (n : Int)) (hR : n ≤ 10) : Wp zS0 tX6_matchedRows none 0 [zr 5, zn, zn] [] M h (Ri (sumI (fun r => if M 7 (9 * r + 8) = -10006 then 0 else 1) n) M h) := by
  have loop : ∀ d r : Nat, r + d = n → Wp zS0 tX6_matchedRows none 4 [zr 5, zi (sumI (fun r => if M 7 (9 * r + 8) = -10006 then 0 else 1) r), zi r] [] M h (Ri (sumI (fun r => if M 7 (9 * r + 8) = -10006 then 0 else 1) n) M h) := by
    intro d
    induction d with
    | zero =>
      intro r hr
      refine Wp.g1 rfl ?_
      refine Wp.brt rfl (by omega) ?_
      refine Wp.g1 rfl ?_
      have e : r = n := by omega
      subst e
      exact Wp.rei rfl rfl rfl rfl
    | succ d ih =>
      intro r hr
      have hb := sumI_bd (f := fun r => if M 7 (9 * r + 8) = -10006 then 0 else 1) r (fun j _ => by split <;> omega)
      refine Wp.g1 rfl ?_
      refine Wp.brf rfl (by omega) ?_
      refine Wp.g1 rfl ?_
      refine Wp.calli rfl (m5_isFree r n M h hw hn hR) ?_
      have e1 : w32 ((r : Int) + 1) = ((r + 1 : Nat) : Int) := by simp only [w32_def]; omega
      have ih' := ih (r + 1) (by omega)
      have e3 : sumI (fun r => if M 7 (9 * r + 8) = -10006 then 0 else 1) (r + 1) = sumI (fun r => if M 7 (9 * r + 8) = -10006 then 0 else 1) r + (if M 7 (9 * r + 8) = -10006 then 0 else 1) := rfl
      rw [e3] at ih'
      by_cases hf : M 7 (9 * r + 8) = -10006
      · refine Wp.brt rfl (by rw [if_pos ⟨by omega, hf⟩]; decide) ?_
        refine Wp.gt 4 rfl ?_
        rw [e1]
        rw [if_pos hf, Int.add_zero] at ih'
        exact ih'
      · refine Wp.brf rfl (by rw [if_neg (fun q => hf q.2)]; decide) ?_
        refine Wp.gt 4 rfl ?_
        rw [e1, show w32 (sumI (fun r => if M 7 (9 * r + 8) = -10006 then 0 else 1) r + 1) = sumI (fun r => if M 7 (9 * r + 8) = -10006 then 0 else 1) r + 1 by simp only [w32_def]; omega]
        rw [if_neg hf] at ih'
        exact ih'
  refine Wp.gt 4 rfl ?_
  exact loop n 0 (by omega)
theorem m5_append (n : Nat) (M : Me) (h : Ml) (hw : M 5 0 = 9) (hn : M 5 3 = (n : Int)) (hR : n < 10) : Wp zS0 tX6_append none 0 [zr 5, zn] [] M h (Ri n (upd2 (upd2 (upd2 (upd2 M 5 3 ((n + 1 : Nat) : Int)) 5 4 (w32 (M 5 4 + 1))) 6 n (w32 (M 5 4 + 1))) 7 (9 * n + 8) (-10006)) h) := by
  refine Wp.g1 rfl ?_
  refine Wp.calli rfl (m5_isFull n M h hn) ?_
  refine Wp.brt rfl (by split <;> omega) ?_
  refine Wp.g1 rfl ?_
  rw [hn, show w32 ((n : Int) + 1) = ((n + 1 : Nat) : Int) by simp only [w32_def]; omega]
  refine Wp.sto rfl rfl n rfl (by omega) ?_
  refine Wp.g1 rfl ?_
  refine Wp.callv rfl (m5_setPartner n (n + 1) (-10006) _ h ?_ ?_ (by omega) (by omega)) ?_
  · simp [upd2, hw]
  · simp [upd2]
  refine Wp.g1 rfl ?_
  refine Wp.rei rfl rfl ?_ rfl
  simp [upd2]
theorem m5_remove (r n : Nat) (M : Me) (h : Ml) (hw : M 5 0 = 9) (hn : M 5 3 = (n : Int)) (hR : n ≤ 10) (hr : r < n) : Wp zS0 tX6_remove none 0 [zr 5, zi r, zn] [] M h (Rv (upd2 (cpy2 (cpy2 M 6 6 (r + 1) r (n - r - 1)) 7 7 (9 * (r + 1)) (9 * r) (9 * (n - r - 1))) 5 3 ((n - 1 : Nat) : Int)) h) := by
  have g1 : ∀ (a b c d e : Nat), cpy2 (cpy2 M 6 6 a b c) 7 7 d e 0 5 = M 5 := fun _ _ _ _ _ => by funext j; simp [cpy2]
  refine Wp.g1 rfl ?_
  refine Wp.calli rfl (m5_hasRow _ n M h hn hR) ?_
  refine Wp.brt rfl (by split <;> omega) ?_
  refine Wp.g1 rfl ?_
  refine Wp.acp rfl rfl rfl (r + 1) r (n - r - 1) (by simp only [w32_def]; omega) rfl (by simp only [w32_def]; rw [hn]; omega) (by omega) (by omega) ?_
  refine Wp.g1 rfl ?_
  have e0 : cpy2 M 6 6 (r + 1) r (n - r - 1) 5 = M 5 := by funext j; simp [cpy2]
  refine Wp.acp rfl rfl rfl (9 * (r + 1)) (9 * r) (9 * (n - r - 1)) (by rw [e0, hw]; simp only [w32_def]; omega) (by rw [e0, hw]; simp only [w32_def]; omega) (by rw [e0, hw, hn]; simp only [w32_def]; omega) (by omega) (by omega) ?_
  refine Wp.g1 rfl ?_
  refine Wp.rev rfl ?_ rfl
  have e1 : cpy2 (cpy2 M 6 6 (r + 1) r (n - r - 1)) 7 7 (9 * (r + 1)) (9 * r) (9 * (n - r - 1)) 5 = M 5 := by funext j; simp [cpy2]
  rw [e1, hn, show w32 ((n : Int) - 1) = ((n - 1 : Nat) : Int) by simp only [w32_def]; omega]
end
section
/-! bits, digits, and the class's parts of a score -/
theorem nI_and (a b : Nat) : nI a &&& nI b = nI (a &&& b) := by
  apply Int32.toBitVec_inj.1
  show BitVec.ofNat 32 a &&& BitVec.ofNat 32 b = BitVec.ofNat 32 (a &&& b)
  apply BitVec.eq_of_getLsbD_eq
  intro i hi
  simp [hi]
theorem nI_xor (a b : Nat) : nI a ^^^ nI b = nI (a ^^^ b) := by
  apply Int32.toBitVec_inj.1
  show BitVec.ofNat 32 a ^^^ BitVec.ofNat 32 b = BitVec.ofNat 32 (a ^^^ b)
  apply BitVec.eq_of_getLsbD_eq
  intro i hi
  simp [hi]
theorem bAnd_nat {a b : Nat} (hb : b < 2 ^ 31) : bAnd (a : Int) (b : Int) = ((a &&& b : Nat) : Int) := by
  show (nI a &&& nI b).toInt = _
  rw [nI_and, nI_toInt (Nat.and_lt_two_pow _ hb)]
theorem bXor_nat {a b : Nat} (ha : a < 2 ^ 31) (hb : b < 2 ^ 31) : bXor (a : Int) (b : Int) = ((a ^^^ b : Nat) : Int) := by
  show (nI a ^^^ nI b).toInt = _
  rw [nI_xor, nI_toInt (Nat.xor_lt_two_pow ha hb)]
/-- a bit -/
def ib (x k : Int) : Int := bAnd (bShr x k) 1
theorem bAnd_1 (x : Int) : bAnd x 1 = 0 ∨ bAnd x 1 = 1 := by
  unfold bAnd
  rw [show Int32.ofInt 1 = (1 : Int32) from rfl, pk_and (Int32.ofInt x) (m := 1) 1 (by decide)]
  have h : (Int32.ofInt x).toBitVec.toNat % 2 ^ 1 < 2 := Nat.mod_lt _ (by decide)
  rw [nI_toInt (by omega)]
  omega
theorem ib_01 (x k : Int) : ib x k = 0 ∨ ib x k = 1 := bAnd_1 _
def dv (t : Int) : Nat → Int
  | 0 => t
  | n + 1 => dv t n / 10
theorem dv_rn {t : Int} (h : 0 ≤ t) : ∀ n, 0 ≤ dv t n ∧ dv t n ≤ t := by
  intro n
  induction n with
  | zero => exact ⟨h, Int.le_refl _⟩
  | succ n ih =>
    show 0 ≤ dv t n / 10 ∧ dv t n / 10 ≤ t
    omega
def digN (t : Int) (k : Nat) : Int := dv t (5 - k) % 10
/-- sums over places: from the last, from the first -/
def qs (e : Nat → Bool) : Nat → Nat
  | 0 => 0
  | n + 1 => qs e n + if e (5 - n) then 2 ^ (5 - n) else 0
def ms (e : Nat → Bool) : Nat → Nat
  | 0 => 0
  | n + 1 => ms e n + if e n then 2 ^ n else 0
/-- the places at which both tags have the same digit, legible with the bag -/
def smk (t u ill : Int) : Nat := ms (fun k => decide (digN t k = digN u k) && decide (ib ill k = 0)) 6
def pcN (n : Nat) : Nat := n % 2 + n / 2 % 2 + n / 4 % 2 + n / 8 % 2 + n / 16 % 2 + n / 32 % 2 + n / 64 % 2 + n / 128 % 2
def lq (t ill : Int) : Nat → Int
  | 0 => 0
  | n + 1 => lq t ill n + (if ib ill ((5 - n : Nat) : Int) = 0 then digN t (5 - n) else 0) * 10 ^ n
/-- a tag without its illegible digits -/
def leg (t ill : Int) : Int := lq t ill 6
theorem qs_lt (e : Nat → Bool) : ∀ n, n ≤ 6 → qs e n < 64 ∧ qs e n % 2 ^ (6 - n) = 0 := by
  intro n hn
  have key : ∀ (b0 b1 b2 b3 b4 b5 : Bool), ∀ n, n ≤ 6 → qs (fun k => match k with | 0 => b0 | 1 => b1 | 2 => b2 | 3 => b3 | 4 => b4 | _ => b5) n < 64 ∧ qs (fun k => match k with | 0 => b0 | 1 => b1 | 2 => b2 | 3 => b3 | 4 => b4 | _ => b5) n % 2 ^ (6 - n) = 0 := by decide +kernel
  have e1 : ∀ n, n ≤ 6 → qs e n = qs (fun k => match k with | 0 => e 0 | 1 => e 1 | 2 => e 2 | 3 => e 3 | 4 => e 4 | _ => e 5) n := by
    intro n
    induction n with
    | zero => intro _; rfl
    | succ n ih =>
      intro h
      unfold qs
      rw [ih (by omega)]
      rcases (show n = 0 ∨ n = 1 ∨ n = 2 ∨ n = 3 ∨ n = 4 ∨ n = 5 by omega) with e | e | e | e | e | e <;> subst e <;> rfl
  rw [e1 n hn]
  exact key (e 0) (e 1) (e 2) (e 3) (e 4) (e 5) n hn
theorem bOr_q : ∀ n : Nat, n < 6 → ∀ q : Nat, q < 64 → q % 2 ^ (6 - n) = 0 → bOr (q : Int) (bShl 1 ((5 - n : Nat) : Int)) = ((q + 2 ^ (5 - n) : Nat) : Int) := by decide +kernel
theorem qm_key : ∀ (b0 b1 b2 b3 b4 b5 : Bool), ∀ i : Nat, i < 64 → bAnd ((qs (fun k => match k with | 0 => b0 | 1 => b1 | 2 => b2 | 3 => b3 | 4 => b4 | _ => b5) 6 : Nat) : Int) (bXor (i : Int) (-1)) = ((ms (fun k => (match k with | 0 => b0 | 1 => b1 | 2 => b2 | 3 => b3 | 4 => b4 | _ => b5) && decide (ib (i : Int) (k : Int) = 0)) 6 : Nat) : Int) := by decide +kernel
theorem qm (e : Nat → Bool) (i : Nat) (hi : i < 64) : bAnd ((qs e 6 : Nat) : Int) (bXor (i : Int) (-1)) = ((ms (fun k => e k && decide (ib (i : Int) (k : Int) = 0)) 6 : Nat) : Int) := qm_key (e 0) (e 1) (e 2) (e 3) (e 4) (e 5) i hi
theorem un_key : ∀ (b0 b1 b2 b3 b4 b5 : Bool), ∀ i : Nat, i < 64 → ∃ u : Nat, u < 64 ∧ bAnd (bAnd 63 (bXor (i : Int) (-1))) (bXor ((ms (fun k => (match k with | 0 => b0 | 1 => b1 | 2 => b2 | 3 => b3 | 4 => b4 | _ => b5) && decide (ib (i : Int) (k : Int) = 0)) 6 : Nat) : Int) (-1)) = (u : Int) ∧ (pcN u : Int) = 6 - pcN i - pcN (ms (fun k => (match k with | 0 => b0 | 1 => b1 | 2 => b2 | 3 => b3 | 4 => b4 | _ => b5) && decide (ib (i : Int) (k : Int) = 0)) 6) := by
  have key : ∀ (b0 b1 b2 b3 b4 b5 : Bool), ∀ i : Nat, i < 64 → 0 ≤ bAnd (bAnd 63 (bXor (i : Int) (-1))) (bXor ((ms (fun k => (match k with | 0 => b0 | 1 => b1 | 2 => b2 | 3 => b3 | 4 => b4 | _ => b5) && decide (ib (i : Int) (k : Int) = 0)) 6 : Nat) : Int) (-1)) ∧ bAnd (bAnd 63 (bXor (i : Int) (-1))) (bXor ((ms (fun k => (match k with | 0 => b0 | 1 => b1 | 2 => b2 | 3 => b3 | 4 => b4 | _ => b5) && decide (ib (i : Int) (k : Int) = 0)) 6 : Nat) : Int) (-1)) < 64 ∧ (pcN (bAnd (bAnd 63 (bXor (i : Int) (-1))) (bXor ((ms (fun k => (match k with | 0 => b0 | 1 => b1 | 2 => b2 | 3 => b3 | 4 => b4 | _ => b5) && decide (ib (i : Int) (k : Int) = 0)) 6 : Nat) : Int) (-1))).toNat : Int) = 6 - pcN i - pcN (ms (fun k => (match k with | 0 => b0 | 1 => b1 | 2 => b2 | 3 => b3 | 4 => b4 | _ => b5) && decide (ib (i : Int) (k : Int) = 0)) 6) := by decide +kernel
  intro b0 b1 b2 b3 b4 b5 i hi
  obtain ⟨h1, h2, h3⟩ := key b0 b1 b2 b3 b4 b5 i hi
  exact ⟨_, by omega, (Int.toNat_of_nonneg h1).symm, h3⟩
theorem un (e : Nat → Bool) (i : Nat) (hi : i < 64) : ∃ u : Nat, u < 64 ∧ bAnd (bAnd 63 (bXor (i : Int) (-1))) (bXor ((ms (fun k => e k && decide (ib (i : Int) (k : Int) = 0)) 6 : Nat) : Int) (-1)) = (u : Int) ∧ (pcN u : Int) = 6 - pcN i - pcN (ms (fun k => e k && decide (ib (i : Int) (k : Int) = 0)) 6) := un_key (e 0) (e 1) (e 2) (e 3) (e 4) (e 5) i hi
theorem ms_lt (e : Nat → Bool) : ∀ n, ms e n < 2 ^ n := by
  intro n
  induction n with
  | zero => show 0 < 2 ^ 0; decide
  | succ n ih =>
    unfold ms
    rw [Nat.pow_succ]
    split <;> omega
theorem pcN_le (n : Nat) : pcN n ≤ 8 := by unfold pcN; omega
theorem m_bitCount (n : Nat) (hn : n < 256) (M : Me) (h : Ml) : Wp zS0 tJ6_bitCount_0f7a4 none 0 [zi n] [] M h (Ri (pcN n) M h) := by
  refine Wp.g1 rfl ?_
  refine Wp.rei rfl ?_ rfl rfl
  revert hn
  revert n
  decide +kernel
theorem m_common (t u : Int) (i : Nat) (ht : 0 ≤ t ∧ t ≤ 999999) (hu : 0 ≤ u ∧ u ≤ 999999) (hi : i < 64) (M : Me) (h : Ml) : Wp zS0 tX7_common none 0 [zi t, zi u, zi i, zn, zn, zn, zn] [] M h (Ri (smk t u i) M h) := by
  have loop : ∀ d n : Nat, n + d = 6 → Wp zS0 tX7_common none 11 [zi t, zi u, zi i, zi (qs (fun k => decide (digN t k = digN u k)) n), zi (dv t n), zi (dv u n), zi (5 - (n : Int))] [] M h (Ri (smk t u i) M h) := by
    intro d
    induction d with
    | zero =>
      intro n hn
      have e : n = 6 := by omega
      subst e
      refine Wp.g1 rfl ?_
      refine Wp.brt rfl (by decide) ?_
      refine Wp.g1 rfl ?_
      exact Wp.rei rfl (qm _ i hi) rfl rfl
    | succ d ih =>
      intro n hn
      have h1 := dv_rn ht.1 n
      have h2 := dv_rn hu.1 n
      have h3 := qs_lt (fun k => decide (digN t k = digN u k)) n (by omega)
      have e1 : w32 (5 - (n : Int) + -1) = 5 - ((n + 1 : Nat) : Int) := by simp only [w32_def]; omega
      have e2 : (5 - (n : Int)) = ((5 - n : Nat) : Int) := by omega
      have e3 : digN t (5 - n) = dv t n % 10 := by unfold digN; rw [show 5 - (5 - n) = n by omega]
      have e4 : digN u (5 - n) = dv u n % 10 := by unfold digN; rw [show 5 - (5 - n) = n by omega]
      have ih' := ih (n + 1) (by omega)
      refine Wp.g1 rfl ?_
      refine Wp.brf rfl (by omega) ?_
      refine Wp.g1 rfl ?_
      refine Wp.rem rfl h1.1 (by decide) ?_
      refine Wp.g1 rfl ?_
      refine Wp.rem rfl h2.1 (by decide) ?_
      refine Wp.br rfl (fun c => ?_) (fun c => ?_)
      · refine Wp.g1 rfl ?_
        refine Wp.div rfl h1.1 (by decide) ?_
        refine Wp.g1 rfl ?_
        refine Wp.div rfl h2.1 (by decide) ?_
        refine Wp.gt 11 rfl ?_
        rw [e1]
        have e5 : qs (fun k => decide (digN t k = digN u k)) (n + 1) = qs (fun k => decide (digN t k = digN u k)) n := by
          show qs _ n + (if decide (digN t (5 - n) = digN u (5 - n)) = true then _ else 0) = _
          rw [if_neg (by rw [e3, e4]; simpa using c)]; rfl
        rw [e5] at ih'
        exact ih'
      · have c : dv t n % 10 = dv u n % 10 := Decidable.not_not.mp c
        refine Wp.g1 rfl ?_
        refine Wp.div rfl h1.1 (by decide) ?_
        refine Wp.g1 rfl ?_
        refine Wp.div rfl h2.1 (by decide) ?_
        refine Wp.gt 11 rfl ?_
        rw [e1, e2, bOr_q n (by omega) _ h3.1 h3.2]
        have e5 : qs (fun k => decide (digN t k = digN u k)) (n + 1) = qs (fun k => decide (digN t k = digN u k)) n + 2 ^ (5 - n) := by
          show qs _ n + (if decide (digN t (5 - n) = digN u (5 - n)) = true then _ else 0) = _
          rw [if_pos (by rw [e3, e4]; simpa using c)]
        rw [e5] at ih'
        exact ih'
  refine Wp.gt 11 rfl ?_
  exact loop 6 0 (by omega)
theorem lq_rn {t ill : Int} (ht : 0 ≤ t) : ∀ n, n ≤ 6 → 0 ≤ lq t ill n ∧ lq t ill n < 10 ^ n := by
  intro n
  induction n with
  | zero => intro _; show (0 : Int) ≤ 0 ∧ (0 : Int) < 10 ^ 0; decide
  | succ n ih =>
    intro hn
    have h1 := ih (by omega)
    have h2 := (dv_rn ht (5 - (5 - n))).1
    have hd : 0 ≤ digN t (5 - n) ∧ digN t (5 - n) ≤ 9 := by unfold digN; omega
    unfold lq
    rcases (show n = 0 ∨ n = 1 ∨ n = 2 ∨ n = 3 ∨ n = 4 ∨ n = 5 by omega) with e | e | e | e | e | e <;> subst e <;> (split <;> omega)
theorem ten_pow : ∀ n : Nat, n < 6 → (10 : Int) ^ n ≤ 100000 ∧ 1 ≤ (10 : Int) ^ n := by decide +kernel
theorem m_legible (t ill : Int) (ht : 0 ≤ t ∧ t ≤ 999999) (M : Me) (h : Ml) : Wp zS0 tX7_legible none 0 [zi t, zi ill, zn, zn, zn, zn] [] M h (Ri (leg t ill) M h) := by
  have loop : ∀ d n : Nat, n + d = 6 → Wp zS0 tX7_legible none 10 [zi t, zi ill, zi (lq t ill n), zi (10 ^ n), zi (dv t n), zi (5 - (n : Int))] [] M h (Ri (leg t ill) M h) := by
    intro d
    induction d with
    | zero =>
      intro n hn
      have e : n = 6 := by omega
      subst e
      refine Wp.g1 rfl ?_
      refine Wp.brt rfl (by decide) ?_
      refine Wp.g1 rfl ?_
      exact Wp.rei rfl rfl rfl rfl
    | succ d ih =>
      intro n hn
      have h1 := dv_rn ht.1 n
      have h3 := lq_rn (ill := ill) ht.1 n (by omega)
      have h4 := ten_pow n (by omega)
      have e1 : w32 (5 - (n : Int) + -1) = 5 - ((n + 1 : Nat) : Int) := by simp only [w32_def]; omega
      have e2 : (5 - (n : Int)) = ((5 - n : Nat) : Int) := by omega
      have e3 : digN t (5 - n) = dv t n % 10 := by unfold digN; rw [show 5 - (5 - n) = n by omega]
      have e6 : w32 (10 ^ n * 10) = 10 ^ (n + 1) := by
        rw [Int.pow_succ]
        exact w32_id ⟨by omega, by omega⟩
      have ih' := ih (n + 1) (by omega)
      have e5 : lq t ill (n + 1) = lq t ill n + (if ib ill ((5 - n : Nat) : Int) = 0 then digN t (5 - n) else 0) * 10 ^ n := rfl
      rw [e5] at ih'
      refine Wp.g1 rfl ?_
      refine Wp.brf rfl (by omega) ?_
      refine Wp.g1 rfl ?_
      rw [e2]
      refine Wp.br rfl (fun c => ?_) (fun c => ?_)
      · refine Wp.g1 rfl ?_
        refine Wp.div rfl h1.1 (by decide) ?_
        refine Wp.gt 10 rfl ?_
        rw [e6, ← e2, e1]
        have c : ¬ ib ill ((5 - n : Nat) : Int) = 0 := c
        rw [if_neg c, Int.zero_mul, Int.add_zero] at ih'
        exact ih'
      · have c : ib ill ((5 - n : Nat) : Int) = 0 := Decidable.not_not.mp c
        refine Wp.g1 rfl ?_
        refine Wp.rem rfl h1.1 (by decide) ?_
        refine Wp.g1 rfl ?_
        refine Wp.div rfl h1.1 (by decide) ?_
        refine Wp.gt 10 rfl ?_
        have g : 0 ≤ dv t n % 10 * 10 ^ n ∧ dv t n % 10 * 10 ^ n ≤ 9 * 100000 := by
          have g1 : 0 ≤ dv t n % 10 ∧ dv t n % 10 ≤ 9 := by omega
          exact ⟨Int.mul_nonneg g1.1 (by omega), Int.mul_le_mul g1.2 h4.1 (by omega) (by omega)⟩
        have g2 : lq t ill n < 10 ^ n := h3.2
        rw [e6, ← e2, e1, w32_id (x := dv t n % 10 * 10 ^ n) ⟨by omega, by omega⟩, w32_id (x := lq t ill n + dv t n % 10 * 10 ^ n) ⟨by omega, by omega⟩]
        rw [if_pos c, e3] at ih'
        exact ih'
  refine Wp.gt 10 rfl ?_
  exact loop 6 0 (by omega)
/-- the parts of a score -/
def sc1 (w t u ill : Int) : Int := pcN (smk t u ill) * w - (6 - pcN ill.toNat - pcN (smk t u ill)) * (3 * w / 2)
def sc2 (w x y : Int) : Int := if x = y then w else if x - y = 1 ∨ y - x = 1 ∨ x - y = 7 ∨ y - x = 7 then w / 3 else 0
def sc3 (w x y : Int) : Int := if x = y then w else if x / 4 = y / 4 then w / 3 else 0
def sc4 (w x y : Int) : Int := pcN (x.toNat &&& y.toNat) * w - pcN (x.toNat ^^^ y.toNat) * (w / 2)
def sc5 (w x y : Int) : Int := if ib x y = 1 then w else -w
def sc6 (w d : Int) : Int := -(w * min d 10)
theorem mulbd {a b : Int} {A B : Int} (ha : 0 ≤ a ∧ a ≤ A) (hb : 0 ≤ b ∧ b ≤ B) : 0 ≤ a * b ∧ a * b ≤ A * B := ⟨Int.mul_nonneg ha.1 hb.1, Int.mul_le_mul ha.2 hb.2 hb.1 (Int.le_trans ha.1 ha.2)⟩
theorem m_ofDigits (w : Int) (a b : Nat) (hw : 0 ≤ w ∧ w ≤ 50) (ha : a < 256) (hb : b < 256) (M : Me) (h : Ml) : Wp zS0 tX5_ofDigits none 0 [zi w, zi a, zi b] [] M h (Ri (pcN a * w - pcN b * (3 * w / 2)) M h) := by
  have p1 := pcN_le a
  have p2 := pcN_le b
  have g1 := mulbd (a := (pcN a : Int)) (b := w) (A := 8) (B := 50) (by omega) hw
  have g2 := mulbd (a := (pcN b : Int)) (b := 3 * w / 2) (A := 8) (B := 75) (by omega) (by omega)
  refine Wp.g1 rfl ?_
  refine Wp.calli rfl (m_bitCount a ha M h) ?_
  refine Wp.g1 rfl ?_
  refine Wp.calli rfl (m_bitCount b hb M h) ?_
  refine Wp.g1 rfl ?_
  rw [w32_id (x := 3 * w) ⟨by omega, by omega⟩]
  refine Wp.div rfl (by omega) (by decide) ?_
  refine Wp.g1 rfl ?_
  rw [w32_id (x := (pcN a : Int) * w) ⟨by omega, by omega⟩, w32_id (x := (pcN b : Int) * (3 * w / 2)) ⟨by omega, by omega⟩, w32_id ⟨by omega, by omega⟩]
  exact Wp.rei rfl rfl rfl rfl
theorem m_ofColours (w x y : Int) (hw : 0 ≤ w ∧ w ≤ 50) (hx : 0 ≤ x ∧ x ≤ 7) (hy : 0 ≤ y ∧ y ≤ 7) (M : Me) (h : Ml) : Wp zS0 tX5_ofColours none 0 [zi w, zi x, zi y, zn] [] M h (Ri (sc2 w x y) M h) := by
  have e1 : w32 (x - y) = x - y := w32_id ⟨by omega, by omega⟩
  have e2 : w32 ((x - y).natAbs : Int) = ((x - y).natAbs : Int) := w32_id ⟨by omega, by omega⟩
  refine Wp.g1 rfl ?_
  rw [e1, e2]
  refine Wp.br rfl (fun c => ?_) (fun c => ?_)
  · refine Wp.g1 rfl ?_
    refine Wp.br rfl (fun c2 => ?_) (fun c2 => ?_)
    · refine Wp.g1 rfl ?_
      refine Wp.div rfl hw.1 (by decide) ?_
      refine Wp.g1 rfl ?_
      refine Wp.rei rfl ?_ rfl rfl
      unfold sc2
      rw [if_neg (by omega), if_pos (by omega)]
    · refine Wp.g1 rfl ?_
      refine Wp.br rfl (fun c3 => ?_) (fun c3 => ?_)
      · refine Wp.g1 rfl ?_
        refine Wp.rei rfl ?_ rfl rfl
        unfold sc2
        rw [if_neg (by omega), if_neg (by omega)]
      · refine Wp.g1 rfl ?_
        refine Wp.div rfl hw.1 (by decide) ?_
        refine Wp.g1 rfl ?_
        refine Wp.rei rfl ?_ rfl rfl
        unfold sc2
        rw [if_neg (by omega), if_pos (by omega)]
  · refine Wp.g1 rfl ?_
    refine Wp.rei rfl ?_ rfl rfl
    unfold sc2
    rw [if_pos (by omega)]
theorem m_ofKinds (w x y : Int) (hw : 0 ≤ w ∧ w ≤ 50) (hx : 0 ≤ x ∧ x ≤ 11) (hy : 0 ≤ y ∧ y ≤ 11) (M : Me) (h : Ml) : Wp zS0 tX5_ofKinds none 0 [zi w, zi x, zi y] [] M h (Ri (sc3 w x y) M h) := by
  refine Wp.g1 rfl ?_
  refine Wp.br rfl (fun c => ?_) (fun c => ?_)
  · refine Wp.g1 rfl ?_
    refine Wp.div rfl hx.1 (by decide) ?_
    refine Wp.g1 rfl ?_
    refine Wp.div rfl hy.1 (by decide) ?_
    refine Wp.br rfl (fun c2 => ?_) (fun c2 => ?_)
    · refine Wp.g1 rfl ?_
      refine Wp.rei rfl ?_ rfl rfl
      unfold sc3
      rw [if_neg (by omega), if_neg (by omega)]
    · refine Wp.g1 rfl ?_
      refine Wp.div rfl hw.1 (by decide) ?_
      refine Wp.g1 rfl ?_
      refine Wp.rei rfl ?_ rfl rfl
      unfold sc3
      rw [if_neg (by omega), if_pos (by omega)]
  · refine Wp.g1 rfl ?_
    refine Wp.rei rfl ?_ rfl rfl
    unfold sc3
    rw [if_pos (by omega)]
theorem m_ofMarks (w x y : Int) (hw : 0 ≤ w ∧ w ≤ 50) (hx : 0 ≤ x ∧ x ≤ 255) (hy : 0 ≤ y ∧ y ≤ 255) (M : Me) (h : Ml) : Wp zS0 tX5_ofMarks none 0 [zi w, zi x, zi y] [] M h (Ri (sc4 w x y) M h) := by
  obtain ⟨a, rfl⟩ := Int.eq_ofNat_of_zero_le hx.1
  obtain ⟨c, rfl⟩ := Int.eq_ofNat_of_zero_le hy.1
  have l1 : a &&& c < 2 ^ 8 := Nat.and_lt_two_pow _ (by omega)
  have l2 : a ^^^ c < 2 ^ 8 := Nat.xor_lt_two_pow (by omega) (by omega)
  have p1 := pcN_le (a &&& c)
  have p2 := pcN_le (a ^^^ c)
  have g1 := mulbd (a := (pcN (a &&& c) : Int)) (b := w) (A := 8) (B := 50) (by omega) hw
  have g2 := mulbd (a := (pcN (a ^^^ c) : Int)) (b := w / 2) (A := 8) (B := 25) (by omega) (by omega)
  refine Wp.g1 rfl ?_
  rw [bAnd_nat (by omega)]
  refine Wp.calli rfl (m_bitCount _ l1 M h) ?_
  refine Wp.g1 rfl ?_
  rw [bXor_nat (by omega) (by omega)]
  refine Wp.calli rfl (m_bitCount _ l2 M h) ?_
  refine Wp.g1 rfl ?_
  refine Wp.div rfl hw.1 (by decide) ?_
  refine Wp.g1 rfl ?_
  rw [w32_id (x := (pcN (a &&& c) : Int) * w) ⟨by omega, by omega⟩, w32_id (x := (pcN (a ^^^ c) : Int) * (w / 2)) ⟨by omega, by omega⟩, w32_id ⟨by omega, by omega⟩]
  exact Wp.rei rfl rfl rfl rfl
theorem m_ofAirport (w x y : Int) (hw : 0 ≤ w ∧ w ≤ 50) (M : Me) (h : Ml) : Wp zS0 tX5_ofAirport none 0 [zi w, zi x, zi y] [] M h (Ri (sc5 w x y) M h) := by
  refine Wp.g1 rfl ?_
  refine Wp.br rfl (fun c => ?_) (fun c => ?_)
  · refine Wp.g1 rfl ?_
    rw [w32_id ⟨by omega, by omega⟩]
    refine Wp.rei rfl ?_ rfl rfl
    have c : ¬ ib x y = 1 := c
    unfold sc5
    rw [if_neg c]
  · refine Wp.g1 rfl ?_
    refine Wp.rei rfl ?_ rfl rfl
    have c : ib x y = 1 := Decidable.not_not.mp c
    unfold sc5
    rw [if_pos c]
end
section
/-- the six parts of the score of the claim in row c and the bag in row b; their sum is part 0 -/
def scP (V : Nat → Int) (c b : Nat) : Nat → Int
  | 1 => sc1 (V 4) (V (114 + 10 * c + 1)) (V (18 + 8 * b + 2)) (V (18 + 8 * b + 3))
  | 2 => sc2 (V 5) (V (114 + 10 * c + 2)) (V (18 + 8 * b + 4))
  | 3 => sc3 (V 6) (V (114 + 10 * c + 3)) (V (18 + 8 * b + 5))
  | 4 => sc4 (V 7) (V (114 + 10 * c + 4)) (V (18 + 8 * b + 6))
  | 5 => sc5 (V 8) (V (114 + 10 * c + 5)) (V (18 + 8 * b + 1))
  | _ => sc6 (V 9) (V (18 + 8 * b + 7) - V (114 + 10 * c + 8))
def scS (f : Nat → Int) : Nat → Int
  | 0 => 0
  | n + 1 => scS f n + (if n = 0 then 0 else f n)
def scI (V : Nat → Int) (c b i : Nat) : Int := if i = 0 then scS (scP V c b) 7 else scP V c b i
/-- with what calls answer where there is no score -/
def scN (V : Nat → Int) (c b i : Nat) : Int := if V (18 + 8 * b + 7) < V (114 + 10 * c + 8) then -10006 else scI V c b i
theorem scP_bd {V : Nat → Int} {nb nc t c b : Nat} (hW : WF V nb nc t) (hc : c < nc) (hb : b < nb) (hl : V (114 + 10 * c + 8) ≤ V (18 + 8 * b + 7)) : ∀ i, -1600 ≤ scP V c b i ∧ scP V c b i ≤ 1600 := by
  obtain ⟨-, ⟨-, -, -, -, hwt, -⟩, hB, hC, -⟩ := hW
  have w4 : 0 ≤ V 4 ∧ V 4 ≤ 50 := hwt 0 (by omega)
  have w5 : 0 ≤ V 5 ∧ V 5 ≤ 50 := hwt 1 (by omega)
  have w6 : 0 ≤ V 6 ∧ V 6 ≤ 50 := hwt 2 (by omega)
  have w7 : 0 ≤ V 7 ∧ V 7 ≤ 50 := hwt 3 (by omega)
  have w8 : 0 ≤ V 8 ∧ V 8 ≤ 50 := hwt 4 (by omega)
  have w9 : 0 ≤ V 9 ∧ V 9 ≤ 50 := hwt 5 (by omega)
  intro i
  unfold scP
  split
  · unfold sc1
    have p1 := pcN_le (smk (V (114 + 10 * c + 1)) (V (18 + 8 * b + 2)) (V (18 + 8 * b + 3)))
    have p2 := pcN_le (V (18 + 8 * b + 3)).toNat
    have g1 := mulbd (a := (pcN (smk (V (114 + 10 * c + 1)) (V (18 + 8 * b + 2)) (V (18 + 8 * b + 3))) : Int)) (b := V 4) (A := 8) (B := 50) (by omega) w4
    have g2 := mulbd (a := (pcN (smk (V (114 + 10 * c + 1)) (V (18 + 8 * b + 2)) (V (18 + 8 * b + 3))) : Int)) (b := 3 * V 4 / 2) (A := 8) (B := 75) (by omega) (by omega)
    have g3 := mulbd (a := (pcN (V (18 + 8 * b + 3)).toNat : Int)) (b := 3 * V 4 / 2) (A := 8) (B := 75) (by omega) (by omega)
    rw [Int.sub_mul, Int.sub_mul]
    omega
  · unfold sc2
    have w5 : 0 ≤ V 5 ∧ V 5 ≤ 50 := w5
    repeat' split
    all_goals omega
  · unfold sc3
    have w6 : 0 ≤ V 6 ∧ V 6 ≤ 50 := w6
    repeat' split
    all_goals omega
  · unfold sc4
    have p1 := pcN_le ((V (114 + 10 * c + 4)).toNat &&& (V (18 + 8 * b + 6)).toNat)
    have p2 := pcN_le ((V (114 + 10 * c + 4)).toNat ^^^ (V (18 + 8 * b + 6)).toNat)
    have g1 := mulbd (a := (pcN ((V (114 + 10 * c + 4)).toNat &&& (V (18 + 8 * b + 6)).toNat) : Int)) (b := V 7) (A := 8) (B := 50) (by omega) w7
    have g2 := mulbd (a := (pcN ((V (114 + 10 * c + 4)).toNat ^^^ (V (18 + 8 * b + 6)).toNat) : Int)) (b := V 7 / 2) (A := 8) (B := 25) (by omega) (by omega)
    omega
  · unfold sc5
    have w8 : 0 ≤ V 8 ∧ V 8 ≤ 50 := w8
    split <;> omega
  · unfold sc6
    have g1 := mulbd (a := V 9) (b := min (V (18 + 8 * b + 7) - V (114 + 10 * c + 8)) 10) (A := 50) (B := 10) w9 (by omega)
    omega
theorem scS_bd {f : Nat → Int} (h : ∀ i, -1600 ≤ f i ∧ f i ≤ 1600) : ∀ n : Nat, -1600 * (n : Int) ≤ scS f n ∧ scS f n ≤ 1600 * (n : Int) := by
  intro n
  induction n with
  | zero => show -1600 * ((0 : Nat) : Int) ≤ 0 ∧ (0 : Int) ≤ 1600 * ((0 : Nat) : Int); decide
  | succ n ih =>
    have h1 := h n
    show -1600 * ((n + 1 : Nat) : Int) ≤ scS f n + (if n = 0 then 0 else f n) ∧ scS f n + (if n = 0 then 0 else f n) ≤ 1600 * ((n + 1 : Nat) : Int)
    split <;> omega
theorem scI_bd {V : Nat → Int} {nb nc t c b : Nat} (hW : WF V nb nc t) (hc : c < nc) (hb : b < nb) (hl : V (114 + 10 * c + 8) ≤ V (18 + 8 * b + 7)) (i : Nat) : -9600 ≤ scI V c b i ∧ scI V c b i ≤ 9600 := by
  have h1 := scP_bd hW hc hb hl
  have h2 : scS (scP V c b) 7 = 0 + 0 + scP V c b 1 + scP V c b 2 + scP V c b 3 + scP V c b 4 + scP V c b 5 + scP V c b 6 := rfl
  have h3 := h1 i
  have a1 := h1 1
  have a2 := h1 2
  have a3 := h1 3
  have a4 := h1 4
  have a5 := h1 5
  have a6 := h1 6
  unfold scI
  split <;> omega
set_option maxHeartbeats 1000000 in
theorem m_compare {V : Nat → Int} {nb nc t c b : Nat} {M : Me} {h : Ml} (hR : OfRel M 1 V nb nc) (hw2 : M 2 0 = 8) (hw5 : M 5 0 = 9) (hW : WF V nb nc t) (hc : c < nc) (hb : b < nb) :
    Wp zS0 tX5_compare none 0 [zr 61, zr 1, zi c, zi b, zn, zn, zn, zn, zn, zn, zn] [] M h (fun v M' h' => h' = h ∧ (∀ k, k ≠ 62 → M' k = M k) ∧ ((V (18 + 8 * b + 7) < V (114 + 10 * c + 8) ∧ v = some (zi 0)) ∨ (V (114 + 10 * c + 8) ≤ V (18 + 8 * b + 7) ∧ v = some (zi 1) ∧ ∀ i, i < 7 → M' 62 i = scI V c b i))) := by
  obtain ⟨-, hwt, ⟨hn2, -, hn5, -⟩, hBr, hCr⟩ := hR
  have hWF := hW
  obtain ⟨⟨-, -, hnb, hnc⟩, ⟨-, -, -, -, hws, -⟩, hB, hC, -⟩ := hW
  obtain ⟨-, -, b1, b2, b3, b4, b5, b6, b7⟩ := hB b hb
  obtain ⟨-, -, c1, c2, c3, c4, c5, c6, c7, c8, c9⟩ := hC c hc
  have gb : ∀ (M' : Me), (∀ k, k ≠ 62 → M' k = M k) → ∀ j : Nat, j < 7 → Wp zS0 tX6_get none 0 [zr 2, zi b, zi j] [] M' h (Ri (V (18 + 8 * b + 1 + j)) M' h) := by
    intro M' hk j hj
    have := m2_get b j nb M' h (by rw [hk 2 (by omega)]; exact hw2) (by rw [hk 2 (by omega)]; exact hn2) hnb hb (by omega)
    rw [hk 4 (by omega), (hBr b hb).2.1 j hj] at this
    exact this
  have gc : ∀ (M' : Me), (∀ k, k ≠ 62 → M' k = M k) → ∀ j : Nat, j < 8 → Wp zS0 tX6_get none 0 [zr 5, zi c, zi j] [] M' h (Ri (V (114 + 10 * c + 1 + j)) M' h) := by
    intro M' hk j hj
    have := m5_get c j nc M' h (by rw [hk 5 (by omega)]; exact hw5) (by rw [hk 5 (by omega)]; exact hn5) hnc hc (by omega)
    rw [hk 7 (by omega), (hCr c hc).2.1 j hj] at this
    exact this
  have k0 : ∀ k, k ≠ 62 → M k = M k := fun _ _ => rfl
  have q6 : V (18 + 8 * b + 1 + 6) = V (18 + 8 * b + 7) := rfl
  have q7 : V (114 + 10 * c + 1 + 7) = V (114 + 10 * c + 8) := rfl
  refine Wp.g1 rfl ?_
  refine Wp.calli rfl (gb M k0 6 (by omega)) ?_
  refine Wp.g1 rfl ?_
  refine Wp.calli rfl (gc M k0 7 (by omega)) ?_
  refine Wp.g1 rfl ?_
  rw [w32_id (x := V (18 + 8 * b + 1 + 6) - V (114 + 10 * c + 1 + 7)) ⟨by omega, by omega⟩]
  refine Wp.br rfl (fun c0 => ?_) (fun c0 => ?_)
  rotate_left
  · refine Wp.g1 rfl ?_
    exact Wp.re rfl ⟨rfl, k0, Or.inl ⟨by omega, rfl⟩⟩
  have hl : V (114 + 10 * c + 8) ≤ V (18 + 8 * b + 7) := by omega
  have bdP := scP_bd hWF hc hb hl
  obtain ⟨ill, hill⟩ := Int.eq_ofNat_of_zero_le b3.1
  refine Wp.g1 rfl ?_
  refine Wp.calli rfl (gb M k0 2 (by omega)) ?_
  refine Wp.g1 rfl ?_
  refine Wp.calli rfl (gc M k0 0 (by omega)) ?_
  refine Wp.g1 rfl ?_
  refine Wp.calli rfl (gb M k0 1 (by omega)) ?_
  refine Wp.g1 rfl ?_
  rw [show V (18 + 8 * b + 1 + 2) = (ill : Int) from hill]
  refine Wp.calli rfl (m_common _ _ ill c1 b2 (by omega) M h) ?_
  refine Wp.g1 rfl ?_
  refine Wp.ld rfl rfl 0 rfl (by omega) ?_
  refine Wp.g1 rfl ?_
  obtain ⟨u, hu1, hu2, hu3⟩ := un (fun k => decide (digN (V (114 + 10 * c + 1)) k = digN (V (18 + 8 * b + 2)) k)) ill (by omega)
  have hsm : smk (V (114 + 10 * c + 1)) (V (18 + 8 * b + 2)) ill < 2 ^ 6 := ms_lt _ 6
  rw [show M 8 0 = V 4 from hwt 0 (by omega)]
  have e1 : bAnd (bAnd 63 (bXor (ill : Int) (-1))) (bXor ((smk (V (114 + 10 * c + 1 + 0)) (V (18 + 8 * b + 1 + 1)) ill : Nat) : Int) (-1)) = (u : Int) := hu2
  rw [e1]
  refine Wp.calli rfl (m_ofDigits (V 4) _ u (hws 0 (by omega)) (by omega) (by omega) M h) ?_
  refine Wp.sto rfl rfl 1 rfl (by omega) ?_
  have e2 : (pcN (smk (V (114 + 10 * c + 1 + 0)) (V (18 + 8 * b + 1 + 1)) ill) : Int) * V 4 - pcN u * (3 * V 4 / 2) = scP V c b 1 := by
    show _ = sc1 (V 4) (V (114 + 10 * c + 1)) (V (18 + 8 * b + 2)) (V (18 + 8 * b + 3))
    unfold sc1
    rw [hill, hu3]
    rfl
  rw [e2]
  have k1 : ∀ k, k ≠ 62 → upd2 M 62 1 (scP V c b 1) k = M k := fun k hk => upd2_ne hk
  have v1 : upd2 M 62 1 (scP V c b 1) 62 1 = scP V c b 1 := upd2_at
  generalize upd2 M 62 1 (scP V c b 1) = M1 at k1 v1 ⊢
  refine Wp.g1 rfl ?_
  refine Wp.ld rfl rfl 1 rfl (by omega) ?_
  refine Wp.g1 rfl ?_
  refine Wp.calli rfl (gc M1 k1 1 (by omega)) ?_
  refine Wp.g1 rfl ?_
  refine Wp.calli rfl (gb M1 k1 3 (by omega)) ?_
  rw [k1 8 (by omega), show M 8 1 = V 5 from hwt 1 (by omega)]
  refine Wp.calli rfl (m_ofColours (V 5) _ _ (hws 1 (by omega)) c2 b4 M1 h) ?_
  refine Wp.sto rfl rfl 2 rfl (by omega) ?_
  have k2 : ∀ k, k ≠ 62 → upd2 M1 62 2 (scP V c b 2) k = M k := fun k hk => (upd2_ne hk).trans (k1 k hk)
  have v2 : ∀ i, 1 ≤ i → i < 3 → upd2 M1 62 2 (scP V c b 2) 62 i = scP V c b i := fun i h1 h2 => by
    rcases (show i = 1 ∨ i = 2 by omega) with e | e <;> subst e
    · rw [upd2_off (by omega)]; exact v1
    · exact upd2_at
  have e3 : upd2 M1 62 2 (sc2 (V 5) (V (114 + 10 * c + 1 + 1)) (V (18 + 8 * b + 1 + 3))) = upd2 M1 62 2 (scP V c b 2) := rfl
  rw [e3]
  generalize upd2 M1 62 2 (scP V c b 2) = M2 at k2 v2 ⊢
  refine Wp.g1 rfl ?_
  refine Wp.ld rfl rfl 2 rfl (by omega) ?_
  refine Wp.g1 rfl ?_
  refine Wp.calli rfl (gc M2 k2 2 (by omega)) ?_
  refine Wp.g1 rfl ?_
  refine Wp.calli rfl (gb M2 k2 4 (by omega)) ?_
  rw [k2 8 (by omega), show M 8 2 = V 6 from hwt 2 (by omega)]
  refine Wp.calli rfl (m_ofKinds (V 6) _ _ (hws 2 (by omega)) c3 b5 M2 h) ?_
  refine Wp.sto rfl rfl 3 rfl (by omega) ?_
  have k3 : ∀ k, k ≠ 62 → upd2 M2 62 3 (scP V c b 3) k = M k := fun k hk => (upd2_ne hk).trans (k2 k hk)
  have v3 : ∀ i, 1 ≤ i → i < 4 → upd2 M2 62 3 (scP V c b 3) 62 i = scP V c b i := fun i h1 h2 => by
    by_cases e : i = 3
    · subst e; exact upd2_at
    · rw [upd2_off e]; exact v2 i h1 (by omega)
  have e3 : upd2 M2 62 3 (sc3 (V 6) (V (114 + 10 * c + 1 + 2)) (V (18 + 8 * b + 1 + 4))) = upd2 M2 62 3 (scP V c b 3) := rfl
  rw [e3]
  generalize upd2 M2 62 3 (scP V c b 3) = M3 at k3 v3 ⊢
  refine Wp.g1 rfl ?_
  refine Wp.ld rfl rfl 3 rfl (by omega) ?_
  refine Wp.g1 rfl ?_
  refine Wp.calli rfl (gc M3 k3 3 (by omega)) ?_
  refine Wp.g1 rfl ?_
  refine Wp.calli rfl (gb M3 k3 5 (by omega)) ?_
  rw [k3 8 (by omega), show M 8 3 = V 7 from hwt 3 (by omega)]
  refine Wp.calli rfl (m_ofMarks (V 7) _ _ (hws 3 (by omega)) c4 b6 M3 h) ?_
  refine Wp.sto rfl rfl 4 rfl (by omega) ?_
  have k4 : ∀ k, k ≠ 62 → upd2 M3 62 4 (scP V c b 4) k = M k := fun k hk => (upd2_ne hk).trans (k3 k hk)
  have v4 : ∀ i, 1 ≤ i → i < 5 → upd2 M3 62 4 (scP V c b 4) 62 i = scP V c b i := fun i h1 h2 => by
    by_cases e : i = 4
    · subst e; exact upd2_at
    · rw [upd2_off e]; exact v3 i h1 (by omega)
  have e3 : upd2 M3 62 4 (sc4 (V 7) (V (114 + 10 * c + 1 + 3)) (V (18 + 8 * b + 1 + 5))) = upd2 M3 62 4 (scP V c b 4) := rfl
  rw [e3]
  generalize upd2 M3 62 4 (scP V c b 4) = M4 at k4 v4 ⊢
  refine Wp.g1 rfl ?_
  refine Wp.ld rfl rfl 4 rfl (by omega) ?_
  refine Wp.g1 rfl ?_
  refine Wp.calli rfl (gc M4 k4 4 (by omega)) ?_
  refine Wp.g1 rfl ?_
  refine Wp.calli rfl (gb M4 k4 0 (by omega)) ?_
  rw [k4 8 (by omega), show M 8 4 = V 8 from hwt 4 (by omega)]
  refine Wp.calli rfl (m_ofAirport (V 8) _ _ (hws 4 (by omega)) M4 h) ?_
  refine Wp.sto rfl rfl 5 rfl (by omega) ?_
  have k5 : ∀ k, k ≠ 62 → upd2 M4 62 5 (scP V c b 5) k = M k := fun k hk => (upd2_ne hk).trans (k4 k hk)
  have v5 : ∀ i, 1 ≤ i → i < 6 → upd2 M4 62 5 (scP V c b 5) 62 i = scP V c b i := fun i h1 h2 => by
    by_cases e : i = 5
    · subst e; exact upd2_at
    · rw [upd2_off e]; exact v4 i h1 (by omega)
  have e3 : upd2 M4 62 5 (sc5 (V 8) (V (114 + 10 * c + 1 + 4)) (V (18 + 8 * b + 1 + 0))) = upd2 M4 62 5 (scP V c b 5) := rfl
  rw [e3]
  generalize upd2 M4 62 5 (scP V c b 5) = M5 at k5 v5 ⊢
  refine Wp.g1 rfl ?_
  refine Wp.ld rfl rfl 5 rfl (by omega) ?_
  refine Wp.g1 rfl ?_
  rw [k5 8 (by omega), show M 8 5 = V 9 from hwt 5 (by omega)]
  have w9 : 0 ≤ V 9 ∧ V 9 ≤ 50 := hws 5 (by omega)
  have g6 := mulbd (a := V 9) (b := min (V (18 + 8 * b + 7) - V (114 + 10 * c + 8)) 10) (A := 50) (B := 10) w9 (by omega)
  have e6 : w32 (w32 (-V 9) * min (V (18 + 8 * b + 1 + 6) - V (114 + 10 * c + 1 + 7)) 10) = scP V c b 6 := by
    rw [w32_id (x := -V 9) ⟨by omega, by omega⟩]
    show w32 (-V 9 * min (V (18 + 8 * b + 7) - V (114 + 10 * c + 8)) 10) = -(V 9 * min (V (18 + 8 * b + 7) - V (114 + 10 * c + 8)) 10)
    rw [Int.neg_mul, w32_id ⟨by omega, by omega⟩]
  rw [e6]
  refine Wp.sto rfl rfl 6 rfl (by omega) ?_
  have k6 : ∀ k, k ≠ 62 → upd2 M5 62 6 (scP V c b 6) k = M k := fun k hk => (upd2_ne hk).trans (k5 k hk)
  have v6 : ∀ i, 1 ≤ i → i < 7 → upd2 M5 62 6 (scP V c b 6) 62 i = scP V c b i := fun i h1 h2 => by
    by_cases e : i = 6
    · subst e; exact upd2_at
    · rw [upd2_off e]; exact v5 i h1 (by omega)
  generalize upd2 M5 62 6 (scP V c b 6) = M6 at k6 v6 ⊢
  refine Wp.g1 rfl ?_
  refine Wp.sto rfl rfl 0 rfl (by omega) ?_
  refine Wp.gt 239 rfl ?_
  have loop : ∀ d n : Nat, n + d = 7 → 1 ≤ n → ∀ M' : Me, (∀ k, k ≠ 62 → M' k = M k) → (∀ i, 1 ≤ i → i < 7 → M' 62 i = scP V c b i) → M' 62 0 = scS (scP V c b) n → Wp zS0 tX5_compare none 239 [zr 61, zr 1, zi c, zi b, zr 5, zr 2, zr 8, zi (V (18 + 8 * b + 1 + 6) - V (114 + 10 * c + 1 + 7)), zi ill, zi (smk (V (114 + 10 * c + 1 + 0)) (V (18 + 8 * b + 1 + 1)) ill), zi n] [] M' h (fun v M' h' => h' = h ∧ (∀ k, k ≠ 62 → M' k = M k) ∧ ((V (18 + 8 * b + 7) < V (114 + 10 * c + 8) ∧ v = some (zi 0)) ∨ (V (114 + 10 * c + 8) ≤ V (18 + 8 * b + 7) ∧ v = some (zi 1) ∧ ∀ i, i < 7 → M' 62 i = scI V c b i))) := by
    intro d
    induction d with
    | zero =>
      intro n hn h1 M' hk hv h0
      have e : n = 7 := by omega
      subst e
      refine Wp.g1 rfl ?_
      refine Wp.brt rfl (by decide) ?_
      refine Wp.g1 rfl ?_
      refine Wp.re rfl ⟨rfl, hk, Or.inr ⟨hl, rfl, fun i hi => ?_⟩⟩
      unfold scI
      by_cases e : i = 0
      · subst e; rw [if_pos rfl]; exact h0
      · rw [if_neg e]; exact hv i (by omega) hi
    | succ d ih =>
      intro n hn h1 M' hk hv h0
      have bS := scS_bd bdP n
      have bP := bdP n
      refine Wp.g1 rfl ?_
      refine Wp.brf rfl (by omega) ?_
      refine Wp.g1 rfl ?_
      refine Wp.ld rfl rfl 0 rfl (by omega) ?_
      refine Wp.g1 rfl ?_
      refine Wp.ld rfl rfl n rfl (by omega) ?_
      refine Wp.g1 rfl ?_
      refine Wp.sto rfl rfl 0 rfl (by omega) ?_
      refine Wp.gt 239 rfl ?_
      rw [show w32 ((n : Int) + 1) = ((n + 1 : Nat) : Int) by simp only [w32_def]; omega, h0, hv n h1 (by omega), w32_id (x := scS (scP V c b) n + scP V c b n) ⟨by omega, by omega⟩]
      refine ih (n + 1) (by omega) (by omega) _ (fun k hk' => (upd2_ne hk').trans (hk k hk')) (fun i hi hi2 => by rw [upd2_off (by omega)]; exact hv i hi hi2) ?_
      rw [upd2_at]
      show _ = scS (scP V c b) n + (if n = 0 then 0 else scP V c b n)
      rw [if_neg (by omega)]
  exact loop 6 1 (by omega) (by omega) _ (fun k hk' => (upd2_ne hk').trans (k6 k hk')) (fun i hi hi2 => by rw [upd2_off (by omega)]; exact v6 i hi hi2) (by rw [upd2_at]; rfl)
end
section
theorem ix12 {c b : Nat} (hc : c < 10) (hb : b < 12) : w32 (w32 ((c : Int) * 12) + (b : Int)) = ((12 * c + b : Nat) : Int) := by
  rw [w32_id (x := (c : Int) * 12) ⟨by omega, by omega⟩, w32_id ⟨by omega, by omega⟩]
  omega
theorem w32_s {n : Nat} (h : n < 1000000) : w32 ((n : Int) + 1) = ((n + 1 : Nat) : Int) := by
  rw [w32_id ⟨by omega, by omega⟩]
  omega
theorem m_part {V : Nat → Int} {nb nc t c b : Nat} {M : Me} {h : Ml} (hR : OfRel M 1 V nb nc) (hw2 : M 2 0 = 8) (hw5 : M 5 0 = 9) (hW : WF V nb nc t) (hc : c < nc) (hb : b < nb) (i : Nat) (hi : i < 7) :
    Wp zS0 tX5_part none 0 [zr 61, zr 1, zi c, zi b, zi i] [] M h (fun v M' h' => v = some (zi (scN V c b i)) ∧ h' = h ∧ ∀ k, k ≠ 62 → M' k = M k) := by
  refine Wp.g1 rfl ?_
  refine Wp.brf rfl (by omega) ?_
  refine Wp.g1 rfl ?_
  refine Wp.brf rfl (by omega) ?_
  refine Wp.g1 rfl ?_
  refine Wp.call rfl (m_compare hR hw2 hw5 hW hc hb) (fun v M1 h1 q => ?_)
  obtain ⟨rfl, hk, ⟨hl, rfl⟩ | ⟨hl, rfl, hv⟩⟩ := q
  · refine Wp.brf rfl (by decide) ?_
    refine Wp.g1 rfl ?_
    refine Wp.re rfl ⟨?_, rfl, hk⟩
    unfold scN
    rw [if_pos hl]
  · refine Wp.brt rfl (by decide) ?_
    refine Wp.g1 rfl ?_
    refine Wp.ld rfl rfl i rfl (by omega) ?_
    refine Wp.re rfl ⟨?_, rfl, hk⟩
    unfold scN
    rw [if_neg (by omega), hv i hi]
/-- what the class calls likely: the score, or -1 -/
def lkG (V : Nat → Int) (nb nc c b : Nat) : Int := if b < nb ∧ cw V nc b = -10006 ∧ V (114 + 10 * c + 8) ≤ V (18 + 8 * b + 7) ∧ V 1 ≤ scI V c b 0 then scI V c b 0 else -1
def gF (V : Nat → Int) (nb nc c b : Nat) : Int := if c < nc ∧ V (114 + 10 * c + 9) = 0 then lkG V nb nc c b else -1
theorem m_likely {V : Nat → Int} {nb nc t c b : Nat} {M : Me} {h : Ml} (hR : OfRel M 1 V nb nc) (hw2 : M 2 0 = 8) (hw5 : M 5 0 = 9) (hW : WF V nb nc t) (hc : c < nc) :
    Wp zS0 tX5_likely none 0 [zr 61, zr 1, zi c, zi b] [] M h (fun v M' h' => v = some (zi (lkG V nb nc c b)) ∧ h' = h ∧ ∀ k, k ≠ 62 → M' k = M k) := by
  have hf := m2_isFree b nb M h hw2 hR.2.2.1.1 hW.1.2.2.1
  refine Wp.g1 rfl ?_
  refine Wp.calli rfl hf ?_
  by_cases hb : b < nb
  · rw [(hR.2.2.2.1 b hb).2.2]
    by_cases hfr : cw V nc b = -10006
    · refine Wp.brf rfl (by rw [if_pos ⟨hb, hfr⟩]; decide) ?_
      refine Wp.g1 rfl ?_
      refine Wp.call rfl (m_compare hR hw2 hw5 hW hc hb) (fun v M1 h1 q => ?_)
      obtain ⟨rfl, hk, ⟨hl, rfl⟩ | ⟨hl, rfl, hv⟩⟩ := q
      · refine Wp.brt rfl (by decide) ?_
        refine Wp.g1 rfl ?_
        refine Wp.re rfl ⟨?_, rfl, hk⟩
        unfold lkG
        rw [if_neg (fun q => by omega)]
      · refine Wp.brf rfl (by decide) ?_
        refine Wp.g1 rfl ?_
        refine Wp.ld rfl rfl 0 rfl (by omega) ?_
        refine Wp.g1 rfl ?_
        rw [hv 0 (by omega), hk 1 (by omega), hR.1.2.1]
        refine Wp.br rfl (fun c0 => ?_) (fun c0 => ?_)
        · refine Wp.g1 rfl ?_
          refine Wp.ld rfl rfl 0 rfl (by omega) ?_
          refine Wp.re rfl ⟨?_, rfl, hk⟩
          unfold lkG
          rw [if_pos ⟨hb, hfr, hl, c0⟩, hv 0 (by omega)]
        · refine Wp.g1 rfl ?_
          refine Wp.re rfl ⟨?_, rfl, hk⟩
          unfold lkG
          rw [if_neg (fun q => c0 q.2.2.2)]
    · refine Wp.brt rfl (by rw [if_neg (fun q => hfr q.2)]) ?_
      refine Wp.g1 rfl ?_
      refine Wp.re rfl ⟨?_, rfl, fun _ _ => rfl⟩
      unfold lkG
      rw [if_neg (fun q => hfr q.2.1)]
  · refine Wp.brt rfl (by rw [if_neg (fun q => hb q.1)]) ?_
    refine Wp.g1 rfl ?_
    refine Wp.re rfl ⟨?_, rfl, fun _ _ => rfl⟩
    unfold lkG
    rw [if_neg (fun q => hb q.1)]
theorem pt_free {V : Nat → Int} {nb nc t c : Nat} (hW : WF V nb nc t) (hc : c < nc) : pt V c = -10006 ↔ V (114 + 10 * c + 9) = 0 := by
  have h := hW.2.2.2.1 c hc
  obtain ⟨-, -, -, -, -, -, -, -, -, -, c9⟩ := h
  unfold pt
  split
  · next e => exact ⟨fun _ => e, fun _ => rfl⟩
  · next e => exact ⟨fun q => by omega, fun q => absurd q e⟩
theorem m_fill {V : Nat → Int} {nb nc t : Nat} {M : Me} {h : Ml} (hR : OfRel M 1 V nb nc) (hw2 : M 2 0 = 8) (hw5 : M 5 0 = 9) (hW : WF V nb nc t) :
    Wp zS0 tX4_fill none 0 [zr 63, zr 1, zr 61, zn, zn, zn] [] M h (fun v M' h' => v = none ∧ h' = h ∧ (∀ k, k ≠ 62 → k ≠ 64 → M' k = M k) ∧ ∀ c b, c < 10 → b < 12 → M' 64 (12 * c + b) = gF V nb nc c b) := by
  have outer : ∀ e c : Nat, c + e = 10 → ∀ (M' : Me) (x y : ZV), (∀ k, k ≠ 62 → k ≠ 64 → M' k = M k) → (∀ c' b, c' < c → b < 12 → M' 64 (12 * c' + b) = gF V nb nc c' b) →
      Wp zS0 tX4_fill none 2 [zr 63, zr 1, zr 61, zi c, x, y] [] M' h (fun v M' h' => v = none ∧ h' = h ∧ (∀ k, k ≠ 62 → k ≠ 64 → M' k = M k) ∧ ∀ c b, c < 10 → b < 12 → M' 64 (12 * c + b) = gF V nb nc c b) := by
    intro e
    induction e with
    | zero =>
      intro c hce M' x y hk hv
      refine Wp.g1 rfl ?_
      refine Wp.brt rfl (by omega) ?_
      exact Wp.re rfl ⟨rfl, rfl, hk, fun c' b h1 h2 => hv c' b (by omega) h2⟩
    | succ e ih =>
      intro c hce M' x y hk hv
      have hR' : OfRel M' 1 V nb nc := hR.kept (fun k g1 g2 => hk k (by omega) (by omega))
      have hfree := m5_isFree c nc M' h (by rw [hk 5 (by omega) (by omega)]; exact hw5) hR'.2.2.1.2.2.1 hW.1.2.2.2
      refine Wp.g1 rfl ?_
      refine Wp.brf rfl (by omega) ?_
      refine Wp.g1 rfl ?_
      refine Wp.calli rfl hfree ?_
      have hfx : (if c < nc ∧ M' 7 (9 * c + 8) = -10006 then (1 : Int) else 0) = if c < nc ∧ V (114 + 10 * c + 9) = 0 then 1 else 0 := by
        by_cases hc : c < nc
        · rw [(hR'.2.2.2.2 c hc).2.2]
          have := pt_free hW hc
          by_cases hz : V (114 + 10 * c + 9) = 0
          · rw [if_pos ⟨hc, this.mpr hz⟩, if_pos ⟨hc, hz⟩]
          · rw [if_neg (fun q => hz (this.mp q.2)), if_neg (fun q => hz q.2)]
        · rw [if_neg (fun q => hc q.1), if_neg (fun q => hc q.1)]
      rw [hfx]
      have inner : ∀ d b : Nat, b + d = 12 → ∀ (M' : Me), (∀ k, k ≠ 62 → k ≠ 64 → M' k = M k) → (∀ c' b', (c' < c ∨ (c' = c ∧ b' < b)) → b' < 12 → M' 64 (12 * c' + b') = gF V nb nc c' b') →
          Wp zS0 tX4_fill none 21 [zr 63, zr 1, zr 61, zi c, zi (if c < nc ∧ V (114 + 10 * c + 9) = 0 then 1 else 0), zi b] [] M' h (fun v M' h' => v = none ∧ h' = h ∧ (∀ k, k ≠ 62 → k ≠ 64 → M' k = M k) ∧ ∀ c b, c < 10 → b < 12 → M' 64 (12 * c + b) = gF V nb nc c b) := by
        intro d
        induction d with
        | zero =>
          intro b hbd M' hk hv
          refine Wp.g1 rfl ?_
          refine Wp.brt rfl (by omega) ?_
          refine Wp.gt 2 rfl ?_
          rw [w32_s (n := c) (by omega)]
          exact ih (c + 1) (by omega) M' _ _ hk (fun c' b' g1 g2 => hv c' b' (by omega) g2)
        | succ d ihd =>
          intro b hbd M' hk hv
          have hix := ix12 (c := c) (b := b) (by omega) (by omega)
          have nxt : ∀ (M1 : Me), (∀ k, k ≠ 62 → k ≠ 64 → M1 k = M k) → (M1 64 = upd2 M' 64 (12 * c + b) (gF V nb nc c b) 64) → Wp zS0 tX4_fill none 21 [zr 63, zr 1, zr 61, zi c, zi (if c < nc ∧ V (114 + 10 * c + 9) = 0 then 1 else 0), zi ((b + 1 : Nat) : Int)] [] M1 h (fun v M' h' => v = none ∧ h' = h ∧ (∀ k, k ≠ 62 → k ≠ 64 → M' k = M k) ∧ ∀ c b, c < 10 → b < 12 → M' 64 (12 * c + b) = gF V nb nc c b) := by
            intro M1 hk1 h64
            refine ihd (b + 1) (by omega) M1 hk1 (fun c' b' g1 g2 => ?_)
            rw [h64]
            by_cases e1 : c' = c ∧ b' = b
            · rw [e1.1, e1.2, upd2_at]
            · rw [upd2_off (by omega)]
              exact hv c' b' (by omega) g2
          refine Wp.g1 rfl ?_
          refine Wp.brf rfl (by omega) ?_
          refine Wp.g1 rfl ?_
          rw [hix]
          by_cases hg : c < nc ∧ V (114 + 10 * c + 9) = 0
          · have hR' : OfRel M' 1 V nb nc := hR.kept (fun k g1 g2 => hk k (by omega) (by omega))
            refine Wp.brf rfl (by rw [if_pos hg]; decide) ?_
            refine Wp.g1 rfl ?_
            refine Wp.call rfl (m_likely (b := b) hR' (by rw [hk 2 (by omega) (by omega)]; exact hw2) (by rw [hk 5 (by omega) (by omega)]; exact hw5) hW hg.1) (fun v M1 h1 q => ?_)
            obtain ⟨rfl, rfl, hk1⟩ := q
            refine Wp.g1 rfl ?_
            refine Wp.sto rfl rfl (12 * c + b) rfl (by omega) ?_
            refine Wp.gt 21 rfl ?_
            rw [w32_s (n := b) (by omega)]
            refine nxt _ (fun k g1 g2 => by rw [upd2_ne g2, hk1 k g1]; exact hk k g1 g2) ?_
            have e2 : gF V nb nc c b = lkG V nb nc c b := by unfold gF; rw [if_pos hg]
            rw [e2]
            funext i
            unfold upd2
            rw [hk1 64 (by omega)]
          · refine Wp.brt rfl (by rw [if_neg hg]) ?_
            refine Wp.g1 rfl ?_
            refine Wp.sto rfl rfl (12 * c + b) rfl (by omega) ?_
            refine Wp.gt 21 rfl ?_
            rw [w32_s (n := b) (by omega)]
            have e2 : gF V nb nc c b = -1 := by unfold gF; rw [if_neg hg]
            exact nxt _ (fun k g1 g2 => by rw [upd2_ne g2]; exact hk k g1 g2) (by rw [e2])
      refine Wp.gt 21 rfl ?_
      exact inner 12 0 (by omega) M' hk (fun c' b' g1 g2 => hv c' b' (by omega) g2)
  refine Wp.gt 2 rfl ?_
  exact outer 10 0 (by omega) M _ _ (fun _ _ _ => rfl) (fun c' b h1 => by omega)
theorem m_gain (x y : Int) (M : Me) (h : Ml) : Wp zS0 tX4_gain none 0 [zr 63, zi x, zi y] [] M h (Ri (if 0 ≤ x ∧ x < 10 ∧ 0 ≤ y ∧ y < 12 then M 64 (12 * x.toNat + y.toNat) else -1) M h) := by
  by_cases hx : 0 ≤ x ∧ x < 10 ∧ 0 ≤ y ∧ y < 12
  · rw [if_pos hx]
    refine Wp.g1 rfl ?_
    refine Wp.brf rfl (by omega) ?_
    refine Wp.g1 rfl ?_
    refine Wp.brf rfl (by omega) ?_
    refine Wp.g1 rfl ?_
    refine Wp.brf rfl (by omega) ?_
    refine Wp.g1 rfl ?_
    refine Wp.brt rfl (by omega) ?_
    refine Wp.g1 rfl ?_
    refine Wp.ld rfl rfl (12 * x.toNat + y.toNat) (by simp only [w32_def]; omega) (by omega) ?_
    exact Wp.rei rfl rfl rfl rfl
  · rw [if_neg hx]
    repeat' first | refine Wp.g1 rfl ?_ | refine Wp.br rfl (fun _ => ?_) (fun _ => ?_)
    all_goals first | omega | exact Wp.rei rfl rfl rfl rfl
theorem m_gainN (c b : Nat) (hc : c < 10) (hb : b < 12) (M : Me) (h : Ml) : Wp zS0 tX4_gain none 0 [zr 63, zi c, zi b] [] M h (Ri (M 64 (12 * c + b)) M h) := by
  have := m_gain c b M h
  rw [if_pos (by omega)] at this
  exact this
/-- the greatest of the first n numbers above -1, and its first place -/
def bv (f : Nat → Int) : Nat → Int
  | 0 => -1
  | n + 1 => if bv f n < f n then f n else bv f n
def bp (f : Nat → Int) : Nat → Nat
  | 0 => 0
  | n + 1 => if bv f n < f n then n else bp f n
theorem bv_ge (f : Nat → Int) : ∀ n, -1 ≤ bv f n := by
  intro n
  induction n with
  | zero => exact Int.le_refl _
  | succ n ih => unfold bv; split <;> omega
theorem m_strikeOut (ci bi : Nat) (M : Me) (h : Ml) (h1 : M 63 1 = (ci : Int)) (h2 : M 63 2 = (bi : Int)) :
    Wp zS0 tX4_strikeOut none 0 [zr 63, zn, zn] [] M h (fun v M' h' => v = none ∧ h' = h ∧ (∀ k, k ≠ 64 → M' k = M k) ∧ ∀ i, i < 120 → M' 64 i = if i / 12 = ci ∨ i % 12 = bi then -1 else M 64 i) := by
  have outer : ∀ e c : Nat, c + e = 10 → ∀ (M' : Me) (y : ZV), (∀ k, k ≠ 64 → M' k = M k) → (∀ i, i < 120 → M' 64 i = if i < 12 * c ∧ (i / 12 = ci ∨ i % 12 = bi) then -1 else M 64 i) →
      Wp zS0 tX4_strikeOut none 2 [zr 63, zi c, y] [] M' h (fun v M' h' => v = none ∧ h' = h ∧ (∀ k, k ≠ 64 → M' k = M k) ∧ ∀ i, i < 120 → M' 64 i = if i / 12 = ci ∨ i % 12 = bi then -1 else M 64 i) := by
    intro e
    induction e with
    | zero =>
      intro c hce M' y hk hv
      refine Wp.g1 rfl ?_
      refine Wp.brt rfl (by omega) ?_
      refine Wp.re rfl ⟨rfl, rfl, hk, fun i hi => ?_⟩
      rw [hv i hi]
      by_cases hp : i / 12 = ci ∨ i % 12 = bi
      · rw [if_pos ⟨by omega, hp⟩, if_pos hp]
      · rw [if_neg (fun q => hp q.2), if_neg hp]
    | succ e ih =>
      intro c hce M' y hk hv
      refine Wp.g1 rfl ?_
      refine Wp.brf rfl (by omega) ?_
      have inner : ∀ d b : Nat, b + d = 12 → ∀ (M' : Me), (∀ k, k ≠ 64 → M' k = M k) → (∀ i, i < 120 → M' 64 i = if i < 12 * c + b ∧ (i / 12 = ci ∨ i % 12 = bi) then -1 else M 64 i) →
          Wp zS0 tX4_strikeOut none 10 [zr 63, zi c, zi b] [] M' h (fun v M' h' => v = none ∧ h' = h ∧ (∀ k, k ≠ 64 → M' k = M k) ∧ ∀ i, i < 120 → M' 64 i = if i / 12 = ci ∨ i % 12 = bi then -1 else M 64 i) := by
        intro d
        induction d with
        | zero =>
          intro b hbd M' hk hv
          refine Wp.g1 rfl ?_
          refine Wp.brt rfl (by omega) ?_
          refine Wp.gt 2 rfl ?_
          rw [w32_s (n := c) (by omega)]
          refine ih (c + 1) (by omega) M' _ hk (fun i hi => ?_)
          rw [hv i hi, show 12 * c + b = 12 * (c + 1) by omega]
        | succ d ihd =>
          intro b hbd M' hk hv
          have e1 := w32_s (n := b) (by omega)
          have put : (c = ci ∨ b = bi) → Wp zS0 tX4_strikeOut none 32 [zr 63, zi c, zi b] [] M' h (fun v M' h' => v = none ∧ h' = h ∧ (∀ k, k ≠ 64 → M' k = M k) ∧ ∀ i, i < 120 → M' 64 i = if i / 12 = ci ∨ i % 12 = bi then -1 else M 64 i) := by
            intro hp
            have hix := ix12 (c := c) (b := b) (by omega) (by omega)
            refine Wp.g1 rfl ?_
            rw [hix]
            refine Wp.sto rfl rfl (12 * c + b) rfl (by omega) ?_
            refine Wp.gt 10 rfl ?_
            rw [e1]
            refine ihd (b + 1) (by omega) _ (fun k hk' => (upd2_ne hk').trans (hk k hk')) (fun i hi => ?_)
            by_cases ei : i = 12 * c + b
            · subst ei
              rw [upd2_at, if_pos ⟨by omega, by omega⟩]
            · rw [upd2_off ei, hv i hi]
              by_cases hq : i < 12 * c + b ∧ (i / 12 = ci ∨ i % 12 = bi)
              · rw [if_pos hq, if_pos ⟨by omega, hq.2⟩]
              · rw [if_neg hq, if_neg (fun q => hq ⟨by omega, q.2⟩)]
          refine Wp.g1 rfl ?_
          refine Wp.brf rfl (by omega) ?_
          refine Wp.g1 rfl ?_
          rw [hk 63 (by omega), h1]
          refine Wp.br rfl (fun c0 => put (by omega)) (fun c0 => ?_)
          refine Wp.g1 rfl ?_
          rw [hk 63 (by omega), h2]
          refine Wp.br rfl (fun c1 => ?_) (fun c1 => put (by omega))
          refine Wp.gt 10 rfl ?_
          rw [e1]
          refine ihd (b + 1) (by omega) _ hk (fun i hi => ?_)
          rw [hv i hi]
          by_cases hq : i < 12 * c + b ∧ (i / 12 = ci ∨ i % 12 = bi)
          · rw [if_pos hq, if_pos ⟨by omega, hq.2⟩]
          · rw [if_neg hq, if_neg (fun q => hq ⟨by omega, q.2⟩)]
      refine Wp.gt 10 rfl ?_
      exact inner 12 0 (by omega) M' hk (fun i hi => hv i hi)
  refine Wp.gt 2 rfl ?_
  exact outer 10 0 (by omega) M _ (fun _ _ => rfl) (fun i hi => by rw [if_neg (by omega)])
theorem m_takeGreatest (M : Me) (h : Ml) :
    Wp zS0 tX4_takeGreatest none 0 [zr 63, zn, zn, zn] [] M h (fun v M' h' => v = some (zi (bv (M 64) 120)) ∧ h' = h ∧ (∀ k, k ≠ 63 → k ≠ 64 → M' k = M k) ∧ (bv (M 64) 120 = -1 → M' 64 = M 64) ∧ (bv (M 64) 120 ≠ -1 → M' 63 1 = ((bp (M 64) 120 / 12 : Nat) : Int) ∧ M' 63 2 = ((bp (M 64) 120 % 12 : Nat) : Int) ∧ ∀ i, i < 120 → M' 64 i = if i / 12 = bp (M 64) 120 / 12 ∨ i % 12 = bp (M 64) 120 % 12 then -1 else M 64 i)) := by
  have outer : ∀ e c : Nat, c + e = 10 → ∀ (M' : Me) (y : ZV), (∀ k, k ≠ 63 → M' k = M k) → (bv (M 64) (12 * c) ≠ -1 → M' 63 1 = ((bp (M 64) (12 * c) / 12 : Nat) : Int) ∧ M' 63 2 = ((bp (M 64) (12 * c) % 12 : Nat) : Int)) →
      Wp zS0 tX4_takeGreatest none 4 [zr 63, zi (bv (M 64) (12 * c)), zi c, y] [] M' h (fun v M' h' => v = some (zi (bv (M 64) 120)) ∧ h' = h ∧ (∀ k, k ≠ 63 → k ≠ 64 → M' k = M k) ∧ (bv (M 64) 120 = -1 → M' 64 = M 64) ∧ (bv (M 64) 120 ≠ -1 → M' 63 1 = ((bp (M 64) 120 / 12 : Nat) : Int) ∧ M' 63 2 = ((bp (M 64) 120 % 12 : Nat) : Int) ∧ ∀ i, i < 120 → M' 64 i = if i / 12 = bp (M 64) 120 / 12 ∨ i % 12 = bp (M 64) 120 % 12 then -1 else M 64 i)) := by
    intro e
    induction e with
    | zero =>
      intro c hce M' y hk hv
      have ec : c = 10 := by omega
      subst ec
      refine Wp.g1 rfl ?_
      refine Wp.brt rfl (by decide) ?_
      refine Wp.g1 rfl ?_
      refine Wp.br rfl (fun c0 => ?_) (fun c0 => ?_)
      · refine Wp.g1 rfl ?_
        exact Wp.re rfl ⟨rfl, rfl, fun k g1 _ => hk k g1, fun _ => hk 64 (by omega), fun q => absurd c0 q⟩
      · refine Wp.g1 rfl ?_
        obtain ⟨g1, g2⟩ := hv c0
        refine Wp.call rfl (m_strikeOut _ _ M' h g1 g2) (fun v M1 h1 q => ?_)
        obtain ⟨rfl, rfl, q1, q2⟩ := q
        refine Wp.g1 rfl ?_
        refine Wp.re rfl ⟨rfl, rfl, fun k g3 g4 => (q1 k g4).trans (hk k g3), fun q => absurd q c0, fun _ => ⟨by rw [q1 63 (by omega)]; exact g1, by rw [q1 63 (by omega)]; exact g2, fun i hi => ?_⟩⟩
        rw [q2 i hi, hk 64 (by omega)]
    | succ e ih =>
      intro c hce M' y hk hv
      refine Wp.g1 rfl ?_
      refine Wp.brf rfl (by omega) ?_
      have inner : ∀ d b : Nat, b + d = 12 → ∀ (M' : Me), (∀ k, k ≠ 63 → M' k = M k) → (bv (M 64) (12 * c + b) ≠ -1 → M' 63 1 = ((bp (M 64) (12 * c + b) / 12 : Nat) : Int) ∧ M' 63 2 = ((bp (M 64) (12 * c + b) % 12 : Nat) : Int)) →
          Wp zS0 tX4_takeGreatest none 12 [zr 63, zi (bv (M 64) (12 * c + b)), zi c, zi b] [] M' h (fun v M' h' => v = some (zi (bv (M 64) 120)) ∧ h' = h ∧ (∀ k, k ≠ 63 → k ≠ 64 → M' k = M k) ∧ (bv (M 64) 120 = -1 → M' 64 = M 64) ∧ (bv (M 64) 120 ≠ -1 → M' 63 1 = ((bp (M 64) 120 / 12 : Nat) : Int) ∧ M' 63 2 = ((bp (M 64) 120 % 12 : Nat) : Int) ∧ ∀ i, i < 120 → M' 64 i = if i / 12 = bp (M 64) 120 / 12 ∨ i % 12 = bp (M 64) 120 % 12 then -1 else M 64 i)) := by
        intro d
        induction d with
        | zero =>
          intro b hbd M' hk hv
          refine Wp.g1 rfl ?_
          refine Wp.brt rfl (by omega) ?_
          refine Wp.gt 4 rfl ?_
          rw [w32_s (n := c) (by omega)]
          rw [show 12 * c + b = 12 * (c + 1) by omega] at hv ⊢
          exact ih (c + 1) (by omega) M' _ hk hv
        | succ d ihd =>
          intro b hbd M' hk hv
          have e1 := w32_s (n := b) (by omega)
          have ihd' := ihd (b + 1) (by omega)
          have ebv : bv (M 64) (12 * c + (b + 1)) = if bv (M 64) (12 * c + b) < M 64 (12 * c + b) then M 64 (12 * c + b) else bv (M 64) (12 * c + b) := rfl
          have ebp : bp (M 64) (12 * c + (b + 1)) = if bv (M 64) (12 * c + b) < M 64 (12 * c + b) then 12 * c + b else bp (M 64) (12 * c + b) := rfl
          rw [ebv, ebp] at ihd'
          have hg := m_gainN c b (by omega) (by omega) M' h
          rw [hk 64 (by omega)] at hg
          refine Wp.g1 rfl ?_
          refine Wp.brf rfl (by omega) ?_
          refine Wp.g1 rfl ?_
          refine Wp.calli rfl hg ?_
          refine Wp.g1 rfl ?_
          refine Wp.br rfl (fun c0 => ?_) (fun c0 => ?_)
          · rw [if_neg (by omega)] at ihd'
            refine Wp.gt 12 rfl ?_
            rw [e1]
            rw [if_neg (by omega)] at ihd'
            exact ihd' M' hk hv
          · rw [if_pos (by omega)] at ihd'
            refine Wp.g1 rfl ?_
            refine Wp.calli rfl hg ?_
            refine Wp.gt 12 rfl ?_
            rw [e1]
            rw [if_pos (by omega)] at ihd'
            refine ihd' _ (fun k hk' => by rw [upd2_ne hk', upd2_ne hk']; exact hk k hk') (fun _ => ⟨?_, ?_⟩)
            · rw [upd2_off (by omega), upd2_at]
              omega
            · rw [upd2_at]
              omega
      refine Wp.gt 12 rfl ?_
      exact inner 12 0 (by omega) M' hk hv
  refine Wp.gt 4 rfl ?_
  exact outer 10 0 (by omega) M _ (fun _ _ => rfl) (fun q => absurd rfl q)
theorem m_hasGain (c : Nat) (hc : c < 10) (M : Me) (h : Ml) : Wp zS0 tX4_hasGain none 0 [zr 63, zi c, zn] [] M h (fun v M' h' => M' = M ∧ h' = h ∧ ((v = some (zi 1) ∧ ∃ b, b < 12 ∧ M 64 (12 * c + b) ≠ -1) ∨ (v = some (zi 0) ∧ ∀ b, b < 12 → M 64 (12 * c + b) = -1))) := by
  have loop : ∀ d b : Nat, b + d = 12 → (∀ b', b' < b → M 64 (12 * c + b') = -1) → Wp zS0 tX4_hasGain none 2 [zr 63, zi c, zi b] [] M h (fun v M' h' => M' = M ∧ h' = h ∧ ((v = some (zi 1) ∧ ∃ b, b < 12 ∧ M 64 (12 * c + b) ≠ -1) ∨ (v = some (zi 0) ∧ ∀ b, b < 12 → M 64 (12 * c + b) = -1))) := by
    intro d
    induction d with
    | zero =>
      intro b hb hv
      refine Wp.g1 rfl ?_
      refine Wp.brt rfl (by omega) ?_
      refine Wp.g1 rfl ?_
      exact Wp.re rfl ⟨rfl, rfl, Or.inr ⟨rfl, fun b' h1 => hv b' (by omega)⟩⟩
    | succ d ih =>
      intro b hb hv
      refine Wp.g1 rfl ?_
      refine Wp.brf rfl (by omega) ?_
      refine Wp.g1 rfl ?_
      refine Wp.calli rfl (m_gainN c b hc (by omega) M h) ?_
      refine Wp.g1 rfl ?_
      refine Wp.br rfl (fun c0 => ?_) (fun c0 => ?_)
      · refine Wp.gt 2 rfl ?_
        rw [w32_s (n := b) (by omega)]
        exact ih (b + 1) (by omega) (fun b' h1 => by
          by_cases e : b' = b
          · subst e; exact c0
          · exact hv b' (by omega))
      · refine Wp.g1 rfl ?_
        exact Wp.re rfl ⟨rfl, rfl, Or.inl ⟨rfl, b, by omega, c0⟩⟩
  refine Wp.gt 2 rfl ?_
  exact loop 12 0 (by omega) (fun b' h1 => by omega)
end
section
/-! the class's questions -/
def CS (M : Me) (V : Nat → Int) (nb nc t : Nat) : Prop := OfRel M 1 V nb nc ∧ M 2 0 = 8 ∧ M 5 0 = 9 ∧ WF V nb nc t
theorem CS.kept {M M' : Me} {V : Nat → Int} {nb nc t : Nat} (h : CS M V nb nc t) (hk : ∀ k, k < 61 → M' k = M k) : CS M' V nb nc t := ⟨h.1.kept (fun k _ g => hk k (by omega)), by rw [hk 2 (by omega)]; exact h.2.1, by rw [hk 5 (by omega)]; exact h.2.2.1, h.2.2.2⟩
abbrev Qr (r : Int) (M : Me) (h : Ml) : Option ZV → Me → Ml → Prop := fun v M' h' => v = some (zi r) ∧ h' = h ∧ ∀ k, k < 61 ∨ k = 71 ∨ 74 ≤ k → M' k = M k
theorem Qr.of {T : CT} {sc : Sc} {pc : Nat} {L st : List ZV} {M : Me} {h : Ml} {r : Int} (k : Wp zS0 T sc pc L st M h (Ri r M h)) : Wp zS0 T sc pc L st M h (Qr r M h) := k.imp (fun _ _ _ q => ⟨q.1, q.2.2, fun k _ => by rw [q.2.1]⟩)
theorem Qr.trans {T : CT} {sc : Sc} {pc : Nat} {L st : List ZV} {M M1 : Me} {h : Ml} {r : Int} (hk : ∀ k, k < 61 ∨ k = 71 ∨ 74 ≤ k → M1 k = M k) (k : Wp zS0 T sc pc L st M1 h (Qr r M1 h)) : Wp zS0 T sc pc L st M1 h (Qr r M h) := k.imp (fun _ _ _ q => ⟨q.1, q.2.1, fun k g => (q.2.2 k g).trans (hk k g)⟩)
def zswx (T : CT) (pc : Nat) (st : List ZV) : Option (Int × Int × Int × Nat × List ZV) := match look2 T pc with
  | some (i, _, _, _, _, c, _) => (match i with
    | .tableswitch df lo hi _ => (match st with
      | .inl x :: r => some (x, lo, hi, (c + df).toNat, r)
      | _ => none)
    | _ => none)
  | none => none
theorem Wp.swo {S : Sh} {T : CT} {sc : Sc} {pc : Nat} {L st : List ZV} {M : Me} {h : Ml} {Φ : Option ZV → Me → Ml → Prop} {x lo hi : Int} {t : Nat} {r : List ZV} (ha : zswx T pc st = some (x, lo, hi, t, r)) (hx : x < lo ∨ hi < x) (kk : Wp S T sc t L r M h Φ) : Wp S T sc pc L st M h Φ := by
  unfold zswx at ha
  split at ha
  · next ii nx0 a0 b d c w he =>
    split at ha
    · split at ha
      · cases ha
        exact Wp.one he rfl (by simp only [zbr]; rw [if_pos hx]) kk
      · cases ha
    · cases ha
  · cases ha
section ASK
variable {M : Me} {h : Ml} {V : Nat → Int} {nb nc t : Nat}
theorem c_rowB (hS : CS M V nb nc t) (x : Int) : Wp zS0 tX6_rowOf none 0 [zr 2, zi x, zn] [] M h (Ri (if rkB V nb x < nb then (rkB V nb x : Int) else -1) M h) := by
  obtain ⟨hR, -, -, hW⟩ := hS
  have e : fnd (M 3) x nb = rkB V nb x := fnd_congr (fun r hr => (hR.2.2.2.1 r hr).1)
  rw [← e]
  exact m2_rowOf x nb M h hR.2.2.1.1 hW.1.2.2.1
theorem c_rowC (hS : CS M V nb nc t) (x : Int) : Wp zS0 tX6_rowOf none 0 [zr 5, zi x, zn] [] M h (Ri (if rkC V nc x < nc then (rkC V nc x : Int) else -1) M h) := by
  obtain ⟨hR, -, -, hW⟩ := hS
  have e : fnd (M 6) x nc = rkC V nc x := fnd_congr (fun r hr => (hR.2.2.2.2 r hr).1)
  rw [← e]
  exact m5_rowOf x nc M h hR.2.2.1.2.2.1 hW.1.2.2.2
/-- how many are matched -/
def rMatched (V : Nat → Int) (nc : Nat) : Int := sumI (fun r => if V (114 + 10 * r + 9) = 0 then 0 else 1) nc
def rCount (V : Nat → Int) (nb nc : Nat) (x : Int) : Int := if x = 0 then V 0 else if x = 1 then nb else if x = 2 then nc else if x = 3 then rMatched V nc else if x = 4 then V 14 else if x = 5 then V 15 else if x = 6 then V 16 else if x = 7 then V 17 else -10002
theorem c_matched (hS : CS M V nb nc t) : Wp zS0 tX6_matchedRows none 0 [zr 5, zn, zn] [] M h (Ri (rMatched V nc) M h) := by
  obtain ⟨hR, -, hw5, hW⟩ := hS
  have e : rMatched V nc = sumI (fun r => if M 7 (9 * r + 8) = -10006 then 0 else 1) nc := sumI_congr nc (fun r hr => by
    rw [(hR.2.2.2.2 r hr).2.2]
    have := pt_free hW hr
    by_cases hz : V (114 + 10 * r + 9) = 0
    · rw [if_pos hz, if_pos (this.mpr hz)]
    · rw [if_neg hz, if_neg (fun q => hz (this.mp q))])
  rw [e]
  exact m5_matchedRows nc M h hw5 hR.2.2.1.2.2.1 hW.1.2.2.2
theorem c_count (hS : CS M V nb nc t) (x : Int) : Wp zS0 tX8_count none 0 [zr 0, zi x] [] M h (Qr (rCount V nb nc x) M h) := by
  have hR := hS.1
  by_cases hx : 0 ≤ x ∧ x ≤ 7
  · refine Wp.g1 rfl ?_
    rcases (show x = 0 ∨ x = 1 ∨ x = 2 ∨ x = 3 ∨ x = 4 ∨ x = 5 ∨ x = 6 ∨ x = 7 by omega) with e | e | e | e | e | e | e | e <;> subst e <;> refine Wp.sw rfl ?_ <;> refine Wp.g1 rfl ?_
    · exact Qr.of (Wp.rei rfl hR.1.1 rfl rfl)
    · refine Wp.calli rfl (m2_rows M h) ?_
      exact Qr.of (Wp.rei rfl hR.2.2.1.1 rfl rfl)
    · refine Wp.calli rfl (m5_rows M h) ?_
      exact Qr.of (Wp.rei rfl hR.2.2.1.2.2.1 rfl rfl)
    · refine Wp.calli rfl (c_matched hS) ?_
      exact Qr.of (Wp.rei rfl rfl rfl rfl)
    · exact Qr.of (Wp.rei rfl hR.1.2.2.2.2.1 rfl rfl)
    · exact Qr.of (Wp.rei rfl hR.1.2.2.2.2.2.1 rfl rfl)
    · exact Qr.of (Wp.rei rfl hR.1.2.2.2.2.2.2.1 rfl rfl)
    · exact Qr.of (Wp.rei rfl hR.1.2.2.2.2.2.2.2 rfl rfl)
  · refine Wp.g1 rfl ?_
    refine Wp.swo rfl (by omega) ?_
    refine Wp.g1 rfl ?_
    refine Qr.of (Wp.rei rfl ?_ rfl rfl)
    unfold rCount
    repeat rw [if_neg (by omega)]
def rBag (V : Nat → Int) (nb nc : Nat) (x y : Int) : Int := if rkB V nb x < nb then (if y < 0 ∨ 7 < y then -10002 else if y = 7 then cw V nc (rkB V nb x) else V (18 + 8 * rkB V nb x + 1 + y.toNat)) else -10001
def rClaimOf (V : Nat → Int) (nc : Nat) (x y : Int) : Int := if rkC V nc x < nc then (if y < 0 ∨ 8 < y then -10002 else if y = 8 then pt V (rkC V nc x) else V (114 + 10 * rkC V nc x + 1 + y.toNat)) else -10001
theorem c_bag (hS : CS M V nb nc t) (x y : Int) : Wp zS0 tX8_bag none 0 [zr 0, zi x, zi y] [] M h (Qr (rBag V nb nc x y) M h) := by
  have hR := hS.1
  have hW := hS.2.2.2
  have hw := hS.2.1
  unfold rBag
  refine Wp.g1 rfl ?_
  refine Wp.call rfl (Ψ := Ri (if rkB V nb x < nb then (if y < 0 ∨ 7 < y then -10002 else if y = 7 then cw V nc (rkB V nb x) else V (18 + 8 * rkB V nb x + 1 + y.toNat)) else -10001) M h) ?_ (fun v M1 h1 q => by obtain ⟨rfl, rfl, rfl⟩ := q; exact Qr.of (Wp.rei rfl rfl rfl rfl))
  refine Wp.g1 rfl ?_
  refine Wp.calli rfl (c_rowB hS x) ?_
  refine Wp.g1 rfl ?_
  by_cases hk : rkB V nb x < nb
  · rw [if_pos hk, if_pos hk]
    refine Wp.brt rfl (by omega) ?_
    refine Wp.g1 rfl ?_
    refine Wp.calli rfl (m_outside _ _ _ M h) ?_
    rw [hw, show w32 (8 - 1) = 7 from by decide]
    by_cases hy : y < 0 ∨ 7 < y
    · rw [if_pos hy, if_pos hy]
      refine Wp.brf rfl (by decide) ?_
      refine Wp.g1 rfl ?_
      exact Wp.rei rfl rfl rfl rfl
    · rw [if_neg hy, if_neg hy]
      obtain ⟨j, rfl⟩ := Int.eq_ofNat_of_zero_le (show 0 ≤ y by omega)
      refine Wp.brt rfl (by decide) ?_
      refine Wp.g1 rfl ?_
      refine Wp.calli rfl (m2_get (rkB V nb x) j nb M h hw hR.2.2.1.1 hW.1.2.2.1 hk (by omega)) ?_
      refine Wp.rei rfl ?_ rfl rfl
      by_cases h7 : (j : Int) = 7
      · rw [if_pos h7]
        have : j = 7 := by omega
        subst this
        exact (hR.2.2.2.1 _ hk).2.2
      · rw [if_neg h7, Int.toNat_natCast]
        exact (hR.2.2.2.1 _ hk).2.1 j (by omega)
  · rw [if_neg hk, if_neg hk]
    refine Wp.brf rfl (by decide) ?_
    refine Wp.g1 rfl ?_
    exact Wp.rei rfl rfl rfl rfl
theorem c_claimOf (hS : CS M V nb nc t) (x y : Int) : Wp zS0 tX8_claimOf none 0 [zr 0, zi x, zi y] [] M h (Qr (rClaimOf V nc x y) M h) := by
  have hR := hS.1
  have hW := hS.2.2.2
  have hw := hS.2.2.1
  unfold rClaimOf
  refine Wp.g1 rfl ?_
  refine Wp.call rfl (Ψ := Ri (if rkC V nc x < nc then (if y < 0 ∨ 8 < y then -10002 else if y = 8 then pt V (rkC V nc x) else V (114 + 10 * rkC V nc x + 1 + y.toNat)) else -10001) M h) ?_ (fun v M1 h1 q => by obtain ⟨rfl, rfl, rfl⟩ := q; exact Qr.of (Wp.rei rfl rfl rfl rfl))
  refine Wp.g1 rfl ?_
  refine Wp.calli rfl (c_rowC hS x) ?_
  refine Wp.g1 rfl ?_
  by_cases hk : rkC V nc x < nc
  · rw [if_pos hk, if_pos hk]
    refine Wp.brt rfl (by omega) ?_
    refine Wp.g1 rfl ?_
    refine Wp.calli rfl (m_outside _ _ _ M h) ?_
    rw [hw, show w32 (9 - 1) = 8 from by decide]
    by_cases hy : y < 0 ∨ 8 < y
    · rw [if_pos hy, if_pos hy]
      refine Wp.brf rfl (by decide) ?_
      refine Wp.g1 rfl ?_
      exact Wp.rei rfl rfl rfl rfl
    · rw [if_neg hy, if_neg hy]
      obtain ⟨j, rfl⟩ := Int.eq_ofNat_of_zero_le (show 0 ≤ y by omega)
      refine Wp.brt rfl (by decide) ?_
      refine Wp.g1 rfl ?_
      refine Wp.calli rfl (m5_get (rkC V nc x) j nc M h hw hR.2.2.1.2.2.1 hW.1.2.2.2 hk (by omega)) ?_
      refine Wp.rei rfl ?_ rfl rfl
      by_cases h7 : (j : Int) = 8
      · rw [if_pos h7]
        have : j = 8 := by omega
        subst this
        exact (hR.2.2.2.2 _ hk).2.2
      · rw [if_neg h7, Int.toNat_natCast]
        exact (hR.2.2.2.2 _ hk).2.1 j (by omega)
  · rw [if_neg hk, if_neg hk]
    refine Wp.brf rfl (by decide) ?_
    refine Wp.g1 rfl ?_
    exact Wp.rei rfl rfl rfl rfl
def rScore (V : Nat → Int) (nb nc : Nat) (x y z : Int) : Int := if rkC V nc x < nc ∧ rkB V nb y < nb then (if z < 0 ∨ 6 < z then -10002 else scN V (rkC V nc x) (rkB V nb y) z.toNat) else -10001
theorem c_score (hS : CS M V nb nc t) (x y z : Int) : Wp zS0 tX8_score none 0 [zr 0, zi x, zi y, zi z, zn, zn] [] M h (Qr (rScore V nb nc x y z) M h) := by
  unfold rScore
  refine Wp.g1 rfl ?_
  refine Wp.calli rfl (c_rowC hS x) ?_
  refine Wp.g1 rfl ?_
  refine Wp.calli rfl (c_rowB hS y) ?_
  refine Wp.g1 rfl ?_
  by_cases hk : rkC V nc x < nc
  · rw [if_pos hk]
    refine Wp.brf rfl (by omega) ?_
    refine Wp.g1 rfl ?_
    by_cases hk2 : rkB V nb y < nb
    · rw [if_pos hk2, if_pos ⟨hk, hk2⟩]
      refine Wp.brt rfl (by omega) ?_
      refine Wp.g1 rfl ?_
      refine Wp.calli rfl (m_outside _ _ _ M h) ?_
      by_cases hz : z < 0 ∨ 6 < z
      · rw [if_pos hz, if_pos hz]
        refine Wp.brf rfl (by decide) ?_
        refine Wp.g1 rfl ?_
        exact Qr.of (Wp.rei rfl rfl rfl rfl)
      · rw [if_neg hz, if_neg hz]
        obtain ⟨j, rfl⟩ := Int.eq_ofNat_of_zero_le (show 0 ≤ z by omega)
        refine Wp.brt rfl (by decide) ?_
        refine Wp.g1 rfl ?_
        refine Wp.call rfl (m_part hS.1 hS.2.1 hS.2.2.1 hS.2.2.2 hk hk2 j (by omega)) (fun v M1 h1 q => ?_)
        obtain ⟨rfl, rfl, hq⟩ := q
        exact Wp.re rfl ⟨rfl, rfl, fun k g => hq k (by omega)⟩
    · rw [if_neg hk2, if_neg (fun q => hk2 q.2)]
      refine Wp.brf rfl (by decide) ?_
      refine Wp.g1 rfl ?_
      exact Qr.of (Wp.rei rfl rfl rfl rfl)
  · rw [if_neg hk, if_neg (c := rkC V nc x < nc ∧ rkB V nb y < nb) (fun q => hk q.1)]
    refine Wp.brt rfl (by decide) ?_
    refine Wp.g1 rfl ?_
    exact Qr.of (Wp.rei rfl rfl rfl rfl)
def rSame (V : Nat → Int) (nb nc : Nat) (x y : Int) : Int := if rkC V nc x < nc ∧ rkB V nb y < nb then (smk (V (114 + 10 * rkC V nc x + 1)) (V (18 + 8 * rkB V nb y + 2)) (V (18 + 8 * rkB V nb y + 3)) : Int) else -10001
theorem c_same (hS : CS M V nb nc t) (x y : Int) : Wp zS0 tX8_sameDigits none 0 [zr 0, zi x, zi y, zn, zn] [] M h (Qr (rSame V nb nc x y) M h) := by
  have hR := hS.1
  have hW := hS.2.2.2
  unfold rSame
  refine Wp.g1 rfl ?_
  refine Wp.calli rfl (c_rowC hS x) ?_
  refine Wp.g1 rfl ?_
  refine Wp.calli rfl (c_rowB hS y) ?_
  refine Wp.g1 rfl ?_
  by_cases hk : rkC V nc x < nc
  · rw [if_pos hk]
    refine Wp.brf rfl (by omega) ?_
    refine Wp.g1 rfl ?_
    by_cases hk2 : rkB V nb y < nb
    · rw [if_pos hk2, if_pos ⟨hk, hk2⟩]
      obtain ⟨-, -, b1, b2, b3, -⟩ := hW.2.2.1 _ hk2
      obtain ⟨-, -, c1, -⟩ := hW.2.2.2.1 _ hk
      obtain ⟨ill, hill⟩ := Int.eq_ofNat_of_zero_le b3.1
      refine Wp.brt rfl (by omega) ?_
      refine Wp.g1 rfl ?_
      have g0 := m5_get (rkC V nc x) 0 nc M h hS.2.2.1 hR.2.2.1.2.2.1 hW.1.2.2.2 hk (by omega)
      rw [(hR.2.2.2.2 _ hk).2.1 0 (by omega)] at g0
      refine Wp.calli rfl g0 ?_
      refine Wp.g1 rfl ?_
      have g1 := m2_get (rkB V nb y) 1 nb M h hS.2.1 hR.2.2.1.1 hW.1.2.2.1 hk2 (by omega)
      rw [(hR.2.2.2.1 _ hk2).2.1 1 (by omega)] at g1
      refine Wp.calli rfl g1 ?_
      refine Wp.g1 rfl ?_
      have g2 := m2_get (rkB V nb y) 2 nb M h hS.2.1 hR.2.2.1.1 hW.1.2.2.1 hk2 (by omega)
      rw [(hR.2.2.2.1 _ hk2).2.1 2 (by omega), show V (18 + 8 * rkB V nb y + 1 + 2) = (ill : Int) from hill] at g2
      refine Wp.calli rfl g2 ?_
      refine Wp.calli rfl (m_common _ _ ill c1 b2 (by omega) M h) ?_
      rw [hill]
      exact Qr.of (Wp.rei rfl rfl rfl rfl)
    · rw [if_neg hk2, if_neg (fun q => hk2 q.2)]
      refine Wp.brf rfl (by decide) ?_
      refine Wp.g1 rfl ?_
      exact Qr.of (Wp.rei rfl rfl rfl rfl)
  · rw [if_neg hk, if_neg (c := rkC V nc x < nc ∧ rkB V nb y < nb) (fun q => hk q.1)]
    refine Wp.brt rfl (by decide) ?_
    refine Wp.g1 rfl ?_
    exact Qr.of (Wp.rei rfl rfl rfl rfl)
def rThreshold (V : Nat → Int) (nb nc : Nat) (x y : Int) : Int := if rkC V nc x < nc ∧ rkB V nb y < nb then (if scN V (rkC V nc x) (rkB V nb y) 0 < 0 then -10006 else min (scN V (rkC V nc x) (rkB V nb y) 0) 200) else -10001
theorem c_thresholdFor (hS : CS M V nb nc t) (x y : Int) : Wp zS0 tX8_thresholdFor none 0 [zr 0, zi x, zi y, zn, zn, zn] [] M h (Qr (rThreshold V nb nc x y) M h) := by
  unfold rThreshold
  refine Wp.g1 rfl ?_
  refine Wp.calli rfl (c_rowC hS x) ?_
  refine Wp.g1 rfl ?_
  refine Wp.calli rfl (c_rowB hS y) ?_
  refine Wp.g1 rfl ?_
  by_cases hk : rkC V nc x < nc
  · rw [if_pos hk]
    refine Wp.brf rfl (by omega) ?_
    refine Wp.g1 rfl ?_
    by_cases hk2 : rkB V nb y < nb
    · rw [if_pos hk2, if_pos ⟨hk, hk2⟩]
      refine Wp.brt rfl (by omega) ?_
      refine Wp.g1 rfl ?_
      refine Wp.call rfl (m_part hS.1 hS.2.1 hS.2.2.1 hS.2.2.2 hk hk2 0 (by omega)) (fun v M1 h1 q => ?_)
      obtain ⟨rfl, rfl, hq⟩ := q
      refine Wp.g1 rfl ?_
      refine Wp.br rfl (fun c0 => ?_) (fun c0 => ?_)
      · refine Wp.g1 rfl ?_
        exact Wp.re rfl ⟨by rw [if_neg (by omega)], rfl, fun k g => hq k (by omega)⟩
      · refine Wp.g1 rfl ?_
        exact Wp.re rfl ⟨by rw [if_pos (by omega)], rfl, fun k g => hq k (by omega)⟩
    · rw [if_neg hk2, if_neg (fun q => hk2 q.2)]
      refine Wp.brf rfl (by decide) ?_
      refine Wp.g1 rfl ?_
      exact Qr.of (Wp.rei rfl rfl rfl rfl)
  · rw [if_neg hk, if_neg (c := rkC V nc x < nc ∧ rkB V nb y < nb) (fun q => hk q.1)]
    refine Wp.brt rfl (by decide) ?_
    refine Wp.g1 rfl ?_
    exact Qr.of (Wp.rei rfl rfl rfl rfl)
/-- what a delivery pays on a day, what giving up pays -/
def pDel (V : Nat → Int) (c : Nat) (d : Int) : Int := min (V 2 * min (d - V (114 + 10 * c + 8)) 10) (V (114 + 10 * c + 6))
def pGiv (V : Nat → Int) (c : Nat) : Int := min (V (114 + 10 * c + 6) * max (10 - V (114 + 10 * c + 7)) 2 / 10) (V 3)
theorem c_payD (hS : CS M V nb nc t) (c : Nat) (d : Int) (hc : c < nc) (hd : 0 ≤ d ∧ d ≤ 10399) : Wp zS0 tX3_payForDelivery none 0 [zr 1, zi c, zi d, zn] [] M h (Ri (pDel V c d) M h) := by
  have hR := hS.1
  have hW := hS.2.2.2
  obtain ⟨-, -, c1, c2, c3, c4, c5, c6, c7, c8, c9⟩ := hW.2.2.2.1 _ hc
  obtain ⟨-, -, v2, v3, -⟩ := hW.2.1
  have g7 := m5_get c 7 nc M h hS.2.2.1 hR.2.2.1.2.2.1 hW.1.2.2.2 hc (by omega)
  rw [(hR.2.2.2.2 _ hc).2.1 7 (by omega), show V (114 + 10 * c + 1 + 7) = V (114 + 10 * c + 8) from rfl] at g7
  have g5 := m5_get c 5 nc M h hS.2.2.1 hR.2.2.1.2.2.1 hW.1.2.2.2 hc (by omega)
  rw [(hR.2.2.2.2 _ hc).2.1 5 (by omega), show V (114 + 10 * c + 1 + 5) = V (114 + 10 * c + 6) from rfl] at g5
  have e1 : w32 (d - V (114 + 10 * c + 8)) = d - V (114 + 10 * c + 8) := w32_id ⟨by omega, by omega⟩
  have hb : -5000000 ≤ V 2 * min (d - V (114 + 10 * c + 8)) 10 ∧ V 2 * min (d - V (114 + 10 * c + 8)) 10 ≤ 5000 := by
    have m1 : -9999 ≤ min (d - V (114 + 10 * c + 8)) 10 ∧ min (d - V (114 + 10 * c + 8)) 10 ≤ 10 := by omega
    generalize min (d - V (114 + 10 * c + 8)) 10 = m at m1
    have a1 := mulbd (a := V 2) (b := m + 9999) (A := 500) (B := 10009) v2 (by omega)
    rw [Int.mul_add] at a1
    have a2 := mulbd (a := V 2) (b := 10 - m) (A := 500) (B := 10009) v2 (by omega)
    rw [Int.mul_sub] at a2
    omega
  refine Wp.g1 rfl ?_
  refine Wp.calli rfl g7 ?_
  refine Wp.g1 rfl ?_
  refine Wp.calli rfl g5 ?_
  refine Wp.g1 rfl ?_
  rw [e1, hR.1.2.2.1, w32_id (x := V 2 * min (d - V (114 + 10 * c + 8)) 10) ⟨by omega, by omega⟩]
  exact Wp.rei rfl rfl rfl rfl
theorem c_payG (hS : CS M V nb nc t) (c : Nat) (hc : c < nc) : Wp zS0 tX3_payForGivingUp none 0 [zr 1, zi c, zn] [] M h (Ri (pGiv V c) M h) := by
  have hR := hS.1
  have hW := hS.2.2.2
  obtain ⟨-, -, c1, c2, c3, c4, c5, c6, c7, c8, c9⟩ := hW.2.2.2.1 _ hc
  have g6 := m5_get c 6 nc M h hS.2.2.1 hR.2.2.1.2.2.1 hW.1.2.2.2 hc (by omega)
  rw [(hR.2.2.2.2 _ hc).2.1 6 (by omega), show V (114 + 10 * c + 1 + 6) = V (114 + 10 * c + 7) from rfl] at g6
  have g5 := m5_get c 5 nc M h hS.2.2.1 hR.2.2.1.2.2.1 hW.1.2.2.2 hc (by omega)
  rw [(hR.2.2.2.2 _ hc).2.1 5 (by omega), show V (114 + 10 * c + 1 + 5) = V (114 + 10 * c + 6) from rfl] at g5
  have e1 : w32 (10 - V (114 + 10 * c + 7)) = 10 - V (114 + 10 * c + 7) := w32_id ⟨by omega, by omega⟩
  have hb := mulbd (a := V (114 + 10 * c + 6)) (b := max (10 - V (114 + 10 * c + 7)) 2) (A := 99999) (B := 10) (by omega) (by omega)
  refine Wp.g1 rfl ?_
  refine Wp.calli rfl g6 ?_
  refine Wp.g1 rfl ?_
  refine Wp.calli rfl g5 ?_
  refine Wp.g1 rfl ?_
  rw [e1, w32_id (x := V (114 + 10 * c + 6) * max (10 - V (114 + 10 * c + 7)) 2) ⟨by omega, by omega⟩]
  refine Wp.div rfl hb.1 (by decide) ?_
  refine Wp.g1 rfl ?_
  exact Wp.rei rfl (by rw [hR.1.2.2.2.1]; rfl) rfl rfl
def rIfEnded (V : Nat → Int) (nc : Nat) (x d w : Int) : Int := if rkC V nc x < nc then (if (d < 0 ∨ 400 < d) ∨ (w < 0 ∨ 1 < w) then -10002 else if w = 0 then pDel V (rkC V nc x) (V 0 + d) else pGiv V (rkC V nc x)) else -10001
theorem c_ifEnded (hS : CS M V nb nc t) (x d w : Int) : Wp zS0 tX8_ifEnded none 0 [zr 0, zi x, zi d, zi w, zn] [] M h (Qr (rIfEnded V nc x d w) M h) := by
  have hR := hS.1
  have hW := hS.2.2.2
  obtain ⟨v0, -⟩ := hW.2.1
  refine Qr.of ?_
  unfold rIfEnded
  refine Wp.g1 rfl ?_
  refine Wp.calli rfl (c_rowC hS x) ?_
  refine Wp.g1 rfl ?_
  by_cases hk : rkC V nc x < nc
  · rw [if_pos hk, if_pos hk]
    refine Wp.brt rfl (by omega) ?_
    refine Wp.g1 rfl ?_
    refine Wp.calli rfl (m_outside _ _ _ M h) ?_
    by_cases hd : d < 0 ∨ 400 < d
    · rw [if_pos hd, if_pos (Or.inl hd)]
      refine Wp.brt rfl (by decide) ?_
      refine Wp.g1 rfl ?_
      exact Wp.rei rfl rfl rfl rfl
    · rw [if_neg hd]
      refine Wp.brf rfl (by decide) ?_
      refine Wp.g1 rfl ?_
      refine Wp.calli rfl (m_outside _ _ _ M h) ?_
      by_cases hw : w < 0 ∨ 1 < w
      · rw [if_pos hw, if_pos (Or.inr hw)]
        refine Wp.brf rfl (by decide) ?_
        refine Wp.g1 rfl ?_
        exact Wp.rei rfl rfl rfl rfl
      · rw [if_neg hw, if_neg (fun q => q.elim hd hw)]
        refine Wp.brt rfl (by decide) ?_
        refine Wp.g1 rfl ?_
        by_cases hw0 : w = 0
        · rw [if_pos hw0]
          refine Wp.brf rfl (by omega) ?_
          refine Wp.g1 rfl ?_
          rw [hR.1.1, w32_id (x := V 0 + d) ⟨by omega, by omega⟩]
          refine Wp.calli rfl (c_payD hS _ _ hk (by omega)) ?_
          exact Wp.rei rfl rfl rfl rfl
        · rw [if_neg hw0]
          refine Wp.brt rfl (by omega) ?_
          refine Wp.g1 rfl ?_
          refine Wp.calli rfl (c_payG hS _ hk) ?_
          exact Wp.rei rfl rfl rfl rfl
  · rw [if_neg hk, if_neg hk]
    refine Wp.brf rfl (by decide) ?_
    refine Wp.g1 rfl ?_
    exact Wp.rei rfl rfl rfl rfl
end ASK
end
section
/-- how many bags stand ahead of b, by numbers l -/
def bet (l : Nat → Int) (b n : Nat) : Int := sumI (fun o => if 0 < l o - l b ∨ (l o - l b = 0 ∧ o < b) then 1 else 0) n
theorem m_betterBags (b : Nat) (hb : b < 12) (M : Me) (h : Ml) (l : Nat → Int) (hl : ∀ o, o < 12 → M 73 o = l o) (hbd : ∀ o, -1 ≤ l o ∧ l o ≤ 9600) :
    Wp zS0 tX8_betterBags none 0 [zr 0, zi b, zn, zn, zn, zn] [] M h (Ri (bet l b 12) M h) := by
  have loop : ∀ d o : Nat, o + d = 12 → ∀ (x y : ZV), Wp zS0 tX8_betterBags none 4 [zr 0, zi b, zi (bet l b o), zi o, x, y] [] M h (Ri (bet l b 12) M h) := by
    intro d
    induction d with
    | zero =>
      intro o ho x y
      refine Wp.g1 rfl ?_
      refine Wp.brt rfl (by omega) ?_
      refine Wp.g1 rfl ?_
      have e : o = 12 := by omega
      subst e
      exact Wp.rei rfl rfl rfl rfl
    | succ d ih =>
      intro o ho x y
      have b1 := sumI_bd (f := fun o => if 0 < l o - l b ∨ (l o - l b = 0 ∧ o < b) then 1 else 0) o (fun j _ => by split <;> omega)
      have b1 : 0 ≤ bet l b o ∧ bet l b o ≤ o := b1
      have h1 := hbd o
      have h2 := hbd b
      have e1 := w32_s (n := o) (by omega)
      have e2 : w32 (l o - l b) = l o - l b := w32_id ⟨by omega, by omega⟩
      have e3 : w32 (bet l b o + 1) = bet l b o + 1 := w32_id ⟨by omega, by omega⟩
      have ih' := ih (o + 1) (by omega)
      have e4 : bet l b (o + 1) = bet l b o + (if 0 < l o - l b ∨ (l o - l b = 0 ∧ o < b) then 1 else 0) := rfl
      rw [e4] at ih'
      have main : ∀ f : Int, f = (if (o : Int) < b then 1 else 0) → Wp zS0 tX8_betterBags none 20 [zr 0, zi b, zi (bet l b o), zi o, x, y] [zi f] M h (Ri (bet l b 12) M h) := by
        intro f hf
        refine Wp.g1 rfl ?_
        refine Wp.ld rfl rfl o rfl (by omega) ?_
        refine Wp.g1 rfl ?_
        refine Wp.ld rfl rfl b rfl (by omega) ?_
        refine Wp.g1 rfl ?_
        rw [hl o (by omega), hl b hb, e2]
        refine Wp.br rfl (fun c0 => ?_) (fun c0 => ?_)
        · refine Wp.gt 4 rfl ?_
          rw [e1, e3]
          rw [if_pos (Or.inl c0)] at ih'
          exact ih' _ _
        · refine Wp.g1 rfl ?_
          refine Wp.br rfl (fun c1 => ?_) (fun c1 => ?_)
          · refine Wp.gt 4 rfl ?_
            rw [e1]
            rw [if_neg (fun q => q.elim c0 (fun q => c1 q.1)), Int.add_zero] at ih'
            exact ih' _ _
          · have c1 : l o - l b = 0 := Decidable.not_not.mp c1
            refine Wp.g1 rfl ?_
            by_cases hob : o < b
            · rw [if_pos (by omega)] at hf
              subst hf
              refine Wp.brf rfl (by decide) ?_
              refine Wp.gt 4 rfl ?_
              rw [e1, e3]
              rw [if_pos (Or.inr ⟨c1, hob⟩)] at ih'
              exact ih' _ _
            · rw [if_neg (by omega)] at hf
              subst hf
              refine Wp.brt rfl (by decide) ?_
              refine Wp.gt 4 rfl ?_
              rw [e1]
              rw [if_neg (fun q => q.elim c0 (fun q => hob q.2)), Int.add_zero] at ih'
              exact ih' _ _
      refine Wp.g1 rfl ?_
      refine Wp.brf rfl (by omega) ?_
      refine Wp.g1 rfl ?_
      refine Wp.br rfl (fun c0 => ?_) (fun c0 => ?_)
      · refine Wp.gt 20 rfl ?_
        exact main 0 (by rw [if_neg (by omega)])
      · refine Wp.gt 20 rfl ?_
        exact main 1 (by rw [if_pos (by omega)])
  refine Wp.gt 4 rfl ?_
  exact loop 12 0 (by omega) _ _
theorem lkG_bd {V : Nat → Int} {nb nc t c : Nat} (hW : WF V nb nc t) (hc : c < nc) (b : Nat) : -1 ≤ lkG V nb nc c b ∧ lkG V nb nc c b ≤ 9600 := by
  unfold lkG
  split
  · next q =>
    have := scI_bd hW hc q.1 q.2.2.1 0
    have := hW.2.1.2.1
    omega
  · omega
/-- the first bag below n whose number of those ahead is x -/
def sgF (l : Nat → Int) (x : Int) : Nat → Nat := fnd (fun b => if l b ≠ -1 ∧ bet l b 12 = x then 1 else 0) 1
def rSuggest (V : Nat → Int) (nb nc : Nat) (x y : Int) : Int := if rkC V nc x < nc then (if sgF (lkG V nb nc (rkC V nc x)) y 12 < 12 then V (18 + 8 * sgF (lkG V nb nc (rkC V nc x)) y 12) else -10001) else -10001
theorem c_suggest {M : Me} {h : Ml} {V : Nat → Int} {nb nc t : Nat} (hS : CS M V nb nc t) (x y : Int) : Wp zS0 tX8_suggest none 0 [zr 0, zi x, zi y, zn, zn] [] M h (Qr (rSuggest V nb nc x y) M h) := by
  have hW := hS.2.2.2
  unfold rSuggest
  refine Wp.g1 rfl ?_
  refine Wp.calli rfl (c_rowC hS x) ?_
  refine Wp.g1 rfl ?_
  by_cases hk : rkC V nc x < nc
  · rw [if_pos hk, if_pos hk]
    refine Wp.brt rfl (by omega) ?_
    generalize hc : rkC V nc x = c at hk ⊢
    have hbd := lkG_bd hW hk (nb := nb)
    have loop2 : ∀ d b : Nat, b + d = 12 → ∀ (M' : Me), (∀ k, k ≠ 62 → k ≠ 73 → M' k = M k) → (∀ o, o < 12 → M' 73 o = lkG V nb nc c o) → (∀ j, j < b → (if lkG V nb nc c j ≠ -1 ∧ bet (lkG V nb nc c) j 12 = y then (1 : Int) else 0) ≠ 1) →
        Wp zS0 tX8_suggest none 60 [zr 0, zi x, zi y, zi c, zi b] [] M' h (Qr (if sgF (lkG V nb nc c) y 12 < 12 then V (18 + 8 * sgF (lkG V nb nc c) y 12) else -10001) M h) := by
      intro d
      induction d with
      | zero =>
        intro b hbd2 M' hk' hv hj
        refine Wp.g1 rfl ?_
        refine Wp.brt rfl (by omega) ?_
        refine Wp.g1 rfl ?_
        have e : sgF (lkG V nb nc c) y 12 = 12 := fnd_none (fun j h1 => hj j (by omega))
        exact Wp.re rfl ⟨by rw [e, if_neg (by omega)], rfl, fun k g => hk' k (by omega) (by omega)⟩
      | succ d ih =>
        intro b hbd2 M' hk' hv hj
        have nxt : ((if lkG V nb nc c b ≠ -1 ∧ bet (lkG V nb nc c) b 12 = y then (1 : Int) else 0) ≠ 1) → Wp zS0 tX8_suggest none 101 [zr 0, zi x, zi y, zi c, zi b] [] M' h (Qr (if sgF (lkG V nb nc c) y 12 < 12 then V (18 + 8 * sgF (lkG V nb nc c) y 12) else -10001) M h) := by
          intro hq
          refine Wp.gt 60 rfl ?_
          rw [w32_s (n := b) (by omega)]
          exact ih (b + 1) (by omega) M' hk' hv (fun j h1 => by
            by_cases e : j = b
            · subst e; exact hq
            · exact hj j (by omega))
        refine Wp.g1 rfl ?_
        refine Wp.brf rfl (by omega) ?_
        refine Wp.g1 rfl ?_
        refine Wp.ld rfl rfl b rfl (by omega) ?_
        refine Wp.g1 rfl ?_
        rw [hv b (by omega)]
        refine Wp.br rfl (fun c0 => ?_) (fun c0 => ?_)
        · exact nxt (by rw [if_neg (fun q => q.1 c0)]; decide)
        · refine Wp.g1 rfl ?_
          refine Wp.calli rfl (m_betterBags b (by omega) M' h _ hv hbd) ?_
          refine Wp.g1 rfl ?_
          refine Wp.br rfl (fun c1 => ?_) (fun c1 => ?_)
          · exact nxt (by rw [if_neg (fun q => c1 q.2)]; decide)
          · have c1 : bet (lkG V nb nc c) b 12 = y := Decidable.not_not.mp c1
            have hnb : b < nb := by
              by_cases e : b < nb
              · exact e
              · exfalso
                apply c0
                unfold lkG
                rw [if_neg (fun q => e q.1)]
            have hS' : CS M' V nb nc t := hS.kept (fun k g => hk' k (by omega) (by omega))
            refine Wp.g1 rfl ?_
            have g := m2_numberOf b nb M' h hS'.1.2.2.1.1 hW.1.2.2.1 hnb
            rw [(hS'.1.2.2.2.1 b hnb).1] at g
            refine Wp.calli rfl g ?_
            have e : sgF (lkG V nb nc c) y 12 = b := fnd_some (by omega) (by show (if lkG V nb nc c b ≠ -1 ∧ bet (lkG V nb nc c) b 12 = y then (1 : Int) else 0) = 1; rw [if_pos ⟨c0, c1⟩]) (fun j h1 => hj j h1)
            exact Wp.re rfl ⟨by rw [e, if_pos (by omega)], rfl, fun k g => hk' k (by omega) (by omega)⟩
    have loop1 : ∀ d b : Nat, b + d = 12 → ∀ (M' : Me), (∀ k, k ≠ 62 → k ≠ 73 → M' k = M k) → (∀ o, o < b → M' 73 o = lkG V nb nc c o) →
        Wp zS0 tX8_suggest none 23 [zr 0, zi x, zi y, zi c, zi b] [] M' h (Qr (if sgF (lkG V nb nc c) y 12 < 12 then V (18 + 8 * sgF (lkG V nb nc c) y 12) else -10001) M h) := by
      intro d
      induction d with
      | zero =>
        intro b hbd2 M' hk' hv
        refine Wp.g1 rfl ?_
        refine Wp.brt rfl (by omega) ?_
        refine Wp.gt 60 rfl ?_
        exact loop2 12 0 (by omega) M' hk' (fun o ho => hv o (by omega)) (fun j h1 => by omega)
      | succ d ih =>
        intro b hbd2 M' hk' hv
        have hS' : CS M' V nb nc t := hS.kept (fun k g => hk' k (by omega) (by omega))
        refine Wp.g1 rfl ?_
        refine Wp.brf rfl (by omega) ?_
        refine Wp.g1 rfl ?_
        refine Wp.call rfl (m_likely (b := b) hS'.1 hS'.2.1 hS'.2.2.1 hW hk) (fun v M1 h1 q => ?_)
        obtain ⟨rfl, rfl, hq⟩ := q
        refine Wp.sto rfl rfl b rfl (by omega) ?_
        refine Wp.gt 23 rfl ?_
        rw [w32_s (n := b) (by omega)]
        refine ih (b + 1) (by omega) _ (fun k g1 g2 => by rw [upd2_ne g2, hq k g1]; exact hk' k g1 g2) (fun o ho => ?_)
        by_cases e : o = b
        · subst e; rw [upd2_at]
        · rw [upd2_off e, hq 73 (by omega)]
          exact hv o (by omega)
    refine Wp.gt 23 rfl ?_
    exact loop1 12 0 (by omega) M (fun _ _ _ => rfl) (fun o ho => by omega)
  · rw [if_neg hk, if_neg hk]
    refine Wp.brf rfl (by decide) ?_
    refine Wp.g1 rfl ?_
    exact Qr.of (Wp.rei rfl rfl rfl rfl)
/-- a matrix with the greatest's row and column struck out; the sum of the greatest, one after the other -/
def stk (f : Nat → Int) : Nat → Int := fun i => if i / 12 = bp f 120 / 12 ∨ i % 12 = bp f 120 % 12 then -1 else f i
def tot (f : Nat → Int) : Nat → Int
  | 0 => 0
  | n + 1 => if bv f 120 = -1 then 0 else bv f 120 + tot (stk f) n
theorem bv_congr {f g : Nat → Int} : ∀ n, (∀ i, i < n → f i = g i) → bv f n = bv g n ∧ bp f n = bp g n := by
  intro n
  induction n with
  | zero => intro _; exact ⟨rfl, rfl⟩
  | succ n ih =>
    intro h
    obtain ⟨h1, h2⟩ := ih (fun i hi => h i (by omega))
    unfold bv bp
    rw [h1, h2, h n (by omega)]
    exact ⟨rfl, rfl⟩
theorem stk_congr {f g : Nat → Int} (h : ∀ i, i < 120 → f i = g i) : ∀ i, i < 120 → stk f i = stk g i := by
  intro i hi
  unfold stk
  rw [(bv_congr 120 h).2, h i hi]
theorem tot_congr : ∀ (n : Nat) {f g : Nat → Int}, (∀ i, i < 120 → f i = g i) → tot f n = tot g n := by
  intro n
  induction n with
  | zero => intro f g _; rfl
  | succ n ih =>
    intro f g h
    unfold tot
    rw [(bv_congr 120 h).1, ih (stk_congr h)]
theorem bv_le {f : Nat → Int} {B : Int} (hB : -1 ≤ B) : ∀ n, (∀ i, i < n → f i ≤ B) → bv f n ≤ B := by
  intro n
  induction n with
  | zero => intro _; exact hB
  | succ n ih =>
    intro h
    have h1 := ih (fun i hi => h i (by omega))
    have h2 := h n (by omega)
    unfold bv
    split <;> assumption
theorem stk_le {f : Nat → Int} {B : Int} (hB : -1 ≤ B) (h : ∀ i, i < 120 → f i ≤ B) : ∀ i, i < 120 → stk f i ≤ B := by
  intro i hi
  unfold stk
  split
  · exact hB
  · exact h i hi
/-- the matrix of the class, as a row of 120 -/
def gM (V : Nat → Int) (nb nc : Nat) : Nat → Int := fun i => gF V nb nc (i / 12) (i % 12)
theorem gM_bd {V : Nat → Int} {nb nc t : Nat} (hW : WF V nb nc t) (i : Nat) : gM V nb nc i ≤ 9600 := by
  unfold gM gF
  split
  · next q => exact (lkG_bd hW q.1 _).2
  · omega
def rTotal (V : Nat → Int) (nb nc : Nat) : Int := tot (gM V nb nc) 10
theorem c_totalOfAll {M : Me} {h : Ml} {V : Nat → Int} {nb nc t : Nat} (hS : CS M V nb nc t) : Wp zS0 tX8_totalOfAll none 0 [zr 0, zn, zn, zn] [] M h (Qr (rTotal V nb nc) M h) := by
  have hW := hS.2.2.2
  have loop : ∀ d n : Nat, n + d = 10 → ∀ (M' : Me) (a : Int) (y : ZV), (∀ k, k ≠ 62 → k ≠ 63 → k ≠ 64 → M' k = M k) → (∀ i, i < 120 → M' 64 i ≤ 9600) → 0 ≤ a → a ≤ 9600 * n → a + tot (M' 64) d = rTotal V nb nc →
      Wp zS0 tX8_totalOfAll none 19 [zr 0, zi a, zi n, y] [] M' h (Qr (rTotal V nb nc) M h) := by
    intro d
    induction d with
    | zero =>
      intro n hn M' a y hk hb ha ha2 ht
      refine Wp.g1 rfl ?_
      refine Wp.brt rfl (by omega) ?_
      refine Wp.g1 rfl ?_
      refine Wp.re rfl ⟨?_, rfl, fun k g => hk k (by omega) (by omega) (by omega)⟩
      rw [← ht, show tot (M' 64) 0 = 0 from rfl, Int.add_zero]
    | succ d ih =>
      intro n hn M' a y hk hb ha ha2 ht
      have hle := bv_le (B := 9600) (by decide) 120 hb
      have hge := bv_ge (M' 64) 120
      have et : tot (M' 64) (d + 1) = if bv (M' 64) 120 = -1 then 0 else bv (M' 64) 120 + tot (stk (M' 64)) d := rfl
      rw [et] at ht
      refine Wp.g1 rfl ?_
      refine Wp.brf rfl (by omega) ?_
      refine Wp.g1 rfl ?_
      refine Wp.call rfl (m_takeGreatest M' h) (fun v M1 h1 q => ?_)
      obtain ⟨rfl, rfl, q1, q2, q3⟩ := q
      refine Wp.g1 rfl ?_
      refine Wp.br rfl (fun c0 => ?_) (fun c0 => ?_)
      · obtain ⟨-, -, q4⟩ := q3 c0
        refine Wp.gt 19 rfl ?_
        rw [w32_s (n := n) (by omega), w32_id (x := a + bv (M' 64) 120) ⟨by omega, by omega⟩]
        rw [if_neg c0] at ht
        refine ih (n + 1) (by omega) M1 _ _ (fun k g1 g2 g3 => (q1 k g2 g3).trans (hk k g1 g2 g3)) (fun i hi => ?_) (by omega) (by omega) ?_
        · rw [q4 i hi]
          exact stk_le (by decide) hb i hi
        · have e5 : tot (M1 64) d = tot (stk (M' 64)) d := tot_congr d (fun i hi => q4 i hi)
          rw [e5]
          omega
      · have c0 : bv (M' 64) 120 = -1 := Decidable.not_not.mp c0
        rw [if_pos c0] at ht
        refine Wp.g1 rfl ?_
        refine Wp.re rfl ⟨?_, rfl, fun k g => (q1 k (by omega) (by omega)).trans (hk k (by omega) (by omega) (by omega))⟩
        rw [← ht, Int.add_zero]
  refine Wp.g1 rfl ?_
  refine Wp.call rfl (m_fill hS.1 hS.2.1 hS.2.2.1 hW) (fun v M1 h1 q => ?_)
  obtain ⟨rfl, rfl, q1, q2⟩ := q
  refine Wp.gt 19 rfl ?_
  have e : ∀ i, i < 120 → M1 64 i = gM V nb nc i := fun i hi => by
    have := q2 (i / 12) (i % 12) (by omega) (by omega)
    rw [show 12 * (i / 12) + i % 12 = i by omega] at this
    exact this
  refine loop 10 0 (by omega) M1 0 _ (fun k g1 _ g3 => q1 k g1 g3) (fun i hi => by rw [e i hi]; exact gM_bd hW i) (by decide) (by decide) ?_
  rw [Int.zero_add]
  exact tot_congr 10 e
end
section
theorem m_cpT_12_2 (M : Me) (h : Ml) : Wp zS0 tX6_copyFrom none 0 [zr 12, zr 2] [] M h (fun v M' h' => v = none ∧ h' = h ∧ (∀ k, k ≠ 12 → k ≠ 13 → k ≠ 14 → M' k = M k) ∧ M' 12 0 = M 12 0 ∧ M' 12 3 = min (M 2 3) 12 ∧ M' 12 4 = M 2 4 ∧ (∀ r, r < 12 → M' 13 r = M 3 r) ∧ ∀ i, i < 96 → M' 14 i = M 4 i) := by
  refine Wp.g1 rfl ?_
  refine Wp.acp rfl rfl rfl 0 0 96 rfl rfl (by decide) (by decide) (by decide) ?_
  refine Wp.g1 rfl ?_
  refine Wp.acp rfl rfl rfl 0 0 12 rfl rfl (by decide) (by decide) (by decide) ?_
  refine Wp.g1 rfl ?_
  refine Wp.re rfl ⟨rfl, rfl, fun k g1 g2 g3 => ?_, ?_, ?_, ?_, fun r hr => ?_, fun i hi => ?_⟩
  · funext j
    simp [upd2, cpy2, g1, g2, g3]
  · simp [upd2, cpy2]
  · simp [upd2, cpy2]
  · simp [upd2, cpy2]
  · simp [upd2, cpy2, hr]
  · simp [upd2, cpy2, hi]

theorem m_cpT_15_5 (M : Me) (h : Ml) : Wp zS0 tX6_copyFrom none 0 [zr 15, zr 5] [] M h (fun v M' h' => v = none ∧ h' = h ∧ (∀ k, k ≠ 15 → k ≠ 16 → k ≠ 17 → M' k = M k) ∧ M' 15 0 = M 15 0 ∧ M' 15 3 = min (M 5 3) 10 ∧ M' 15 4 = M 5 4 ∧ (∀ r, r < 10 → M' 16 r = M 6 r) ∧ ∀ i, i < 90 → M' 17 i = M 7 i) := by
  refine Wp.g1 rfl ?_
  refine Wp.acp rfl rfl rfl 0 0 90 rfl rfl (by decide) (by decide) (by decide) ?_
  refine Wp.g1 rfl ?_
  refine Wp.acp rfl rfl rfl 0 0 10 rfl rfl (by decide) (by decide) (by decide) ?_
  refine Wp.g1 rfl ?_
  refine Wp.re rfl ⟨rfl, rfl, fun k g1 g2 g3 => ?_, ?_, ?_, ?_, fun r hr => ?_, fun i hi => ?_⟩
  · funext j
    simp [upd2, cpy2, g1, g2, g3]
  · simp [upd2, cpy2]
  · simp [upd2, cpy2]
  · simp [upd2, cpy2]
  · simp [upd2, cpy2, hr]
  · simp [upd2, cpy2, hi]

theorem m_cpO_11_1 {V : Nat → Int} {nb nc : Nat} (M : Me) (h : Ml) (hR : OfRel M 1 V nb nc) (hb : nb ≤ 12) (hc : nc ≤ 10) : Wp zS0 tX3_copyFrom none 0 [zr 11, zr 1] [] M h (fun v M' h' => v = none ∧ h' = h ∧ (∀ k, k < 11 ∨ 19 ≤ k → M' k = M k) ∧ M' 12 0 = M 12 0 ∧ M' 15 0 = M 15 0 ∧ OfRel M' 11 V nb nc) := by
  obtain ⟨⟨r0, r1, r2, r3, r4, r5, r6, r7⟩, rw6, ⟨t1, t2, t3, t4⟩, rB, rC⟩ := hR
  refine Wp.g1 rfl ?_
  refine Wp.call rfl (m_cpT_12_2 M h) (fun v M1 h1 q => ?_)
  obtain ⟨rfl, rfl, q1, q2, q3, q4, q5, q6⟩ := q
  refine Wp.g1 rfl ?_
  refine Wp.call rfl (m_cpT_15_5 M1 h1) (fun v M2 h2 q => ?_)
  obtain ⟨rfl, rfl, p1, p2, p3, p4, p5, p6⟩ := q
  refine Wp.g1 rfl ?_
  refine Wp.acp rfl rfl rfl 0 0 6 rfl rfl (by decide) (by decide) (by decide) ?_
  refine Wp.g1 rfl ?_
  have eb : ∀ j, M2 1 j = M 1 j := fun j => by rw [p1 1 (by decide) (by decide) (by decide), q1 1 (by decide) (by decide) (by decide)]
  have e7 : ∀ j, M2 8 j = M 8 j := fun j => by rw [p1 8 (by decide) (by decide) (by decide), q1 8 (by decide) (by decide) (by decide)]
  refine Wp.re rfl ⟨rfl, rfl, fun k g => ?_, ?_, ?_, ⟨⟨?_, ?_, ?_, ?_, ?_, ?_, ?_, ?_⟩, fun i hi => ?_, ⟨?_, ?_, ?_, ?_⟩, fun r hr => ⟨?_, fun c hc' => ?_, ?_⟩, fun r hr => ⟨?_, fun c hc' => ?_, ?_⟩⟩⟩
  · have n0 : k ≠ 11 := by omega
    have n7 : k ≠ 18 := by omega
    have : M2 k = M k := (p1 k (by omega) (by omega) (by omega)).trans (q1 k (by omega) (by omega) (by omega))
    rw [← this]
    funext j
    simp [upd2, cpy2, n0, n7]
  · simp [upd2, cpy2]
    rw [p1 12 (by decide) (by decide) (by decide)]; exact q2
  · simp [upd2, cpy2]
    rw [p2, q1 15 (by decide) (by decide) (by decide)]
  · simp [upd2, cpy2, eb]; exact r0
  · simp [upd2, cpy2, eb]; exact r1
  · simp [upd2, cpy2, eb]; exact r2
  · simp [upd2, cpy2, eb]; exact r3
  · simp [upd2, cpy2, eb]; exact r4
  · simp [upd2, cpy2, eb]; exact r5
  · simp [upd2, cpy2, eb]; exact r6
  · simp [upd2, cpy2, eb]; exact r7
  · simp [upd2, cpy2, e7, hi]; exact rw6 i hi
  · simp [upd2, cpy2]
    rw [p1 12 (by decide) (by decide) (by decide), q3]
    have t1' : M 2 3 = (nb : Int) := t1
    rw [t1']; omega
  · simp [upd2, cpy2]
    rw [p1 12 (by decide) (by decide) (by decide), q4]; exact t2
  · simp [upd2, cpy2]
    rw [p3, q1 5 (by decide) (by decide) (by decide)]
    have t3' : M 5 3 = (nc : Int) := t3
    rw [t3']; omega
  · simp [upd2, cpy2]
    rw [p4, q1 5 (by decide) (by decide) (by decide)]; exact t4
  · simp [upd2, cpy2]
    rw [p1 13 (by decide) (by decide) (by decide), q5 r (by omega)]; exact (rB r hr).1
  · simp [upd2, cpy2]
    rw [p1 14 (by decide) (by decide) (by decide), q6 _ (by omega)]; exact (rB r hr).2.1 c hc'
  · simp [upd2, cpy2]
    rw [p1 14 (by decide) (by decide) (by decide), q6 _ (by omega)]; exact (rB r hr).2.2
  · simp [upd2, cpy2]
    rw [p5 r (by omega), q1 6 (by decide) (by decide) (by decide)]; exact (rC r hr).1
  · simp [upd2, cpy2]
    rw [p6 _ (by omega), q1 7 (by decide) (by decide) (by decide)]; exact (rC r hr).2.1 c hc'
  · simp [upd2, cpy2]
    rw [p6 _ (by omega), q1 7 (by decide) (by decide) (by decide)]; exact (rC r hr).2.2

theorem m_cpT_2_12 (M : Me) (h : Ml) : Wp zS0 tX6_copyFrom none 0 [zr 2, zr 12] [] M h (fun v M' h' => v = none ∧ h' = h ∧ (∀ k, k ≠ 2 → k ≠ 3 → k ≠ 4 → M' k = M k) ∧ M' 2 0 = M 2 0 ∧ M' 2 3 = min (M 12 3) 12 ∧ M' 2 4 = M 12 4 ∧ (∀ r, r < 12 → M' 3 r = M 13 r) ∧ ∀ i, i < 96 → M' 4 i = M 14 i) := by
  refine Wp.g1 rfl ?_
  refine Wp.acp rfl rfl rfl 0 0 96 rfl rfl (by decide) (by decide) (by decide) ?_
  refine Wp.g1 rfl ?_
  refine Wp.acp rfl rfl rfl 0 0 12 rfl rfl (by decide) (by decide) (by decide) ?_
  refine Wp.g1 rfl ?_
  refine Wp.re rfl ⟨rfl, rfl, fun k g1 g2 g3 => ?_, ?_, ?_, ?_, fun r hr => ?_, fun i hi => ?_⟩
  · funext j
    simp [upd2, cpy2, g1, g2, g3]
  · simp [upd2, cpy2]
  · simp [upd2, cpy2]
  · simp [upd2, cpy2]
  · simp [upd2, cpy2, hr]
  · simp [upd2, cpy2, hi]

theorem m_cpT_5_15 (M : Me) (h : Ml) : Wp zS0 tX6_copyFrom none 0 [zr 5, zr 15] [] M h (fun v M' h' => v = none ∧ h' = h ∧ (∀ k, k ≠ 5 → k ≠ 6 → k ≠ 7 → M' k = M k) ∧ M' 5 0 = M 5 0 ∧ M' 5 3 = min (M 15 3) 10 ∧ M' 5 4 = M 15 4 ∧ (∀ r, r < 10 → M' 6 r = M 16 r) ∧ ∀ i, i < 90 → M' 7 i = M 17 i) := by
  refine Wp.g1 rfl ?_
  refine Wp.acp rfl rfl rfl 0 0 90 rfl rfl (by decide) (by decide) (by decide) ?_
  refine Wp.g1 rfl ?_
  refine Wp.acp rfl rfl rfl 0 0 10 rfl rfl (by decide) (by decide) (by decide) ?_
  refine Wp.g1 rfl ?_
  refine Wp.re rfl ⟨rfl, rfl, fun k g1 g2 g3 => ?_, ?_, ?_, ?_, fun r hr => ?_, fun i hi => ?_⟩
  · funext j
    simp [upd2, cpy2, g1, g2, g3]
  · simp [upd2, cpy2]
  · simp [upd2, cpy2]
  · simp [upd2, cpy2]
  · simp [upd2, cpy2, hr]
  · simp [upd2, cpy2, hi]

theorem m_cpO_1_11 {V : Nat → Int} {nb nc : Nat} (M : Me) (h : Ml) (hR : OfRel M 11 V nb nc) (hb : nb ≤ 12) (hc : nc ≤ 10) : Wp zS0 tX3_copyFrom none 0 [zr 1, zr 11] [] M h (fun v M' h' => v = none ∧ h' = h ∧ (∀ k, k < 1 ∨ 9 ≤ k → M' k = M k) ∧ M' 2 0 = M 2 0 ∧ M' 5 0 = M 5 0 ∧ OfRel M' 1 V nb nc) := by
  obtain ⟨⟨r0, r1, r2, r3, r4, r5, r6, r7⟩, rw6, ⟨t1, t2, t3, t4⟩, rB, rC⟩ := hR
  refine Wp.g1 rfl ?_
  refine Wp.call rfl (m_cpT_2_12 M h) (fun v M1 h1 q => ?_)
  obtain ⟨rfl, rfl, q1, q2, q3, q4, q5, q6⟩ := q
  refine Wp.g1 rfl ?_
  refine Wp.call rfl (m_cpT_5_15 M1 h1) (fun v M2 h2 q => ?_)
  obtain ⟨rfl, rfl, p1, p2, p3, p4, p5, p6⟩ := q
  refine Wp.g1 rfl ?_
  refine Wp.acp rfl rfl rfl 0 0 6 rfl rfl (by decide) (by decide) (by decide) ?_
  refine Wp.g1 rfl ?_
  have eb : ∀ j, M2 11 j = M 11 j := fun j => by rw [p1 11 (by decide) (by decide) (by decide), q1 11 (by decide) (by decide) (by decide)]
  have e7 : ∀ j, M2 18 j = M 18 j := fun j => by rw [p1 18 (by decide) (by decide) (by decide), q1 18 (by decide) (by decide) (by decide)]
  refine Wp.re rfl ⟨rfl, rfl, fun k g => ?_, ?_, ?_, ⟨⟨?_, ?_, ?_, ?_, ?_, ?_, ?_, ?_⟩, fun i hi => ?_, ⟨?_, ?_, ?_, ?_⟩, fun r hr => ⟨?_, fun c hc' => ?_, ?_⟩, fun r hr => ⟨?_, fun c hc' => ?_, ?_⟩⟩⟩
  · have n0 : k ≠ 1 := by omega
    have n7 : k ≠ 8 := by omega
    have : M2 k = M k := (p1 k (by omega) (by omega) (by omega)).trans (q1 k (by omega) (by omega) (by omega))
    rw [← this]
    funext j
    simp [upd2, cpy2, n0, n7]
  · simp [upd2, cpy2]
    rw [p1 2 (by decide) (by decide) (by decide)]; exact q2
  · simp [upd2, cpy2]
    rw [p2, q1 5 (by decide) (by decide) (by decide)]
  · simp [upd2, cpy2, eb]; exact r0
  · simp [upd2, cpy2, eb]; exact r1
  · simp [upd2, cpy2, eb]; exact r2
  · simp [upd2, cpy2, eb]; exact r3
  · simp [upd2, cpy2, eb]; exact r4
  · simp [upd2, cpy2, eb]; exact r5
  · simp [upd2, cpy2, eb]; exact r6
  · simp [upd2, cpy2, eb]; exact r7
  · simp [upd2, cpy2, e7, hi]; exact rw6 i hi
  · simp [upd2, cpy2]
    rw [p1 2 (by decide) (by decide) (by decide), q3]
    have t1' : M 12 3 = (nb : Int) := t1
    rw [t1']; omega
  · simp [upd2, cpy2]
    rw [p1 2 (by decide) (by decide) (by decide), q4]; exact t2
  · simp [upd2, cpy2]
    rw [p3, q1 15 (by decide) (by decide) (by decide)]
    have t3' : M 15 3 = (nc : Int) := t3
    rw [t3']; omega
  · simp [upd2, cpy2]
    rw [p4, q1 15 (by decide) (by decide) (by decide)]; exact t4
  · simp [upd2, cpy2]
    rw [p1 3 (by decide) (by decide) (by decide), q5 r (by omega)]; exact (rB r hr).1
  · simp [upd2, cpy2]
    rw [p1 4 (by decide) (by decide) (by decide), q6 _ (by omega)]; exact (rB r hr).2.1 c hc'
  · simp [upd2, cpy2]
    rw [p1 4 (by decide) (by decide) (by decide), q6 _ (by omega)]; exact (rB r hr).2.2
  · simp [upd2, cpy2]
    rw [p5 r (by omega), q1 16 (by decide) (by decide) (by decide)]; exact (rC r hr).1
  · simp [upd2, cpy2]
    rw [p6 _ (by omega), q1 17 (by decide) (by decide) (by decide)]; exact (rC r hr).2.1 c hc'
  · simp [upd2, cpy2]
    rw [p6 _ (by omega), q1 17 (by decide) (by decide) (by decide)]; exact (rC r hr).2.2

theorem m_cpT_20_2 (M : Me) (h : Ml) : Wp zS0 tX6_copyFrom none 0 [zr 20, zr 2] [] M h (fun v M' h' => v = none ∧ h' = h ∧ (∀ k, k ≠ 20 → k ≠ 21 → k ≠ 22 → M' k = M k) ∧ M' 20 0 = M 20 0 ∧ M' 20 3 = min (M 2 3) 12 ∧ M' 20 4 = M 2 4 ∧ (∀ r, r < 12 → M' 21 r = M 3 r) ∧ ∀ i, i < 96 → M' 22 i = M 4 i) := by
  refine Wp.g1 rfl ?_
  refine Wp.acp rfl rfl rfl 0 0 96 rfl rfl (by decide) (by decide) (by decide) ?_
  refine Wp.g1 rfl ?_
  refine Wp.acp rfl rfl rfl 0 0 12 rfl rfl (by decide) (by decide) (by decide) ?_
  refine Wp.g1 rfl ?_
  refine Wp.re rfl ⟨rfl, rfl, fun k g1 g2 g3 => ?_, ?_, ?_, ?_, fun r hr => ?_, fun i hi => ?_⟩
  · funext j
    simp [upd2, cpy2, g1, g2, g3]
  · simp [upd2, cpy2]
  · simp [upd2, cpy2]
  · simp [upd2, cpy2]
  · simp [upd2, cpy2, hr]
  · simp [upd2, cpy2, hi]

theorem m_cpT_23_5 (M : Me) (h : Ml) : Wp zS0 tX6_copyFrom none 0 [zr 23, zr 5] [] M h (fun v M' h' => v = none ∧ h' = h ∧ (∀ k, k ≠ 23 → k ≠ 24 → k ≠ 25 → M' k = M k) ∧ M' 23 0 = M 23 0 ∧ M' 23 3 = min (M 5 3) 10 ∧ M' 23 4 = M 5 4 ∧ (∀ r, r < 10 → M' 24 r = M 6 r) ∧ ∀ i, i < 90 → M' 25 i = M 7 i) := by
  refine Wp.g1 rfl ?_
  refine Wp.acp rfl rfl rfl 0 0 90 rfl rfl (by decide) (by decide) (by decide) ?_
  refine Wp.g1 rfl ?_
  refine Wp.acp rfl rfl rfl 0 0 10 rfl rfl (by decide) (by decide) (by decide) ?_
  refine Wp.g1 rfl ?_
  refine Wp.re rfl ⟨rfl, rfl, fun k g1 g2 g3 => ?_, ?_, ?_, ?_, fun r hr => ?_, fun i hi => ?_⟩
  · funext j
    simp [upd2, cpy2, g1, g2, g3]
  · simp [upd2, cpy2]
  · simp [upd2, cpy2]
  · simp [upd2, cpy2]
  · simp [upd2, cpy2, hr]
  · simp [upd2, cpy2, hi]

theorem m_cpO_19_1 {V : Nat → Int} {nb nc : Nat} (M : Me) (h : Ml) (hR : OfRel M 1 V nb nc) (hb : nb ≤ 12) (hc : nc ≤ 10) : Wp zS0 tX3_copyFrom none 0 [zr 19, zr 1] [] M h (fun v M' h' => v = none ∧ h' = h ∧ (∀ k, k < 19 ∨ 27 ≤ k → M' k = M k) ∧ M' 20 0 = M 20 0 ∧ M' 23 0 = M 23 0 ∧ OfRel M' 19 V nb nc) := by
  obtain ⟨⟨r0, r1, r2, r3, r4, r5, r6, r7⟩, rw6, ⟨t1, t2, t3, t4⟩, rB, rC⟩ := hR
  refine Wp.g1 rfl ?_
  refine Wp.call rfl (m_cpT_20_2 M h) (fun v M1 h1 q => ?_)
  obtain ⟨rfl, rfl, q1, q2, q3, q4, q5, q6⟩ := q
  refine Wp.g1 rfl ?_
  refine Wp.call rfl (m_cpT_23_5 M1 h1) (fun v M2 h2 q => ?_)
  obtain ⟨rfl, rfl, p1, p2, p3, p4, p5, p6⟩ := q
  refine Wp.g1 rfl ?_
  refine Wp.acp rfl rfl rfl 0 0 6 rfl rfl (by decide) (by decide) (by decide) ?_
  refine Wp.g1 rfl ?_
  have eb : ∀ j, M2 1 j = M 1 j := fun j => by rw [p1 1 (by decide) (by decide) (by decide), q1 1 (by decide) (by decide) (by decide)]
  have e7 : ∀ j, M2 8 j = M 8 j := fun j => by rw [p1 8 (by decide) (by decide) (by decide), q1 8 (by decide) (by decide) (by decide)]
  refine Wp.re rfl ⟨rfl, rfl, fun k g => ?_, ?_, ?_, ⟨⟨?_, ?_, ?_, ?_, ?_, ?_, ?_, ?_⟩, fun i hi => ?_, ⟨?_, ?_, ?_, ?_⟩, fun r hr => ⟨?_, fun c hc' => ?_, ?_⟩, fun r hr => ⟨?_, fun c hc' => ?_, ?_⟩⟩⟩
  · have n0 : k ≠ 19 := by omega
    have n7 : k ≠ 26 := by omega
    have : M2 k = M k := (p1 k (by omega) (by omega) (by omega)).trans (q1 k (by omega) (by omega) (by omega))
    rw [← this]
    funext j
    simp [upd2, cpy2, n0, n7]
  · simp [upd2, cpy2]
    rw [p1 20 (by decide) (by decide) (by decide)]; exact q2
  · simp [upd2, cpy2]
    rw [p2, q1 23 (by decide) (by decide) (by decide)]
  · simp [upd2, cpy2, eb]; exact r0
  · simp [upd2, cpy2, eb]; exact r1
  · simp [upd2, cpy2, eb]; exact r2
  · simp [upd2, cpy2, eb]; exact r3
  · simp [upd2, cpy2, eb]; exact r4
  · simp [upd2, cpy2, eb]; exact r5
  · simp [upd2, cpy2, eb]; exact r6
  · simp [upd2, cpy2, eb]; exact r7
  · simp [upd2, cpy2, e7, hi]; exact rw6 i hi
  · simp [upd2, cpy2]
    rw [p1 20 (by decide) (by decide) (by decide), q3]
    have t1' : M 2 3 = (nb : Int) := t1
    rw [t1']; omega
  · simp [upd2, cpy2]
    rw [p1 20 (by decide) (by decide) (by decide), q4]; exact t2
  · simp [upd2, cpy2]
    rw [p3, q1 5 (by decide) (by decide) (by decide)]
    have t3' : M 5 3 = (nc : Int) := t3
    rw [t3']; omega
  · simp [upd2, cpy2]
    rw [p4, q1 5 (by decide) (by decide) (by decide)]; exact t4
  · simp [upd2, cpy2]
    rw [p1 21 (by decide) (by decide) (by decide), q5 r (by omega)]; exact (rB r hr).1
  · simp [upd2, cpy2]
    rw [p1 22 (by decide) (by decide) (by decide), q6 _ (by omega)]; exact (rB r hr).2.1 c hc'
  · simp [upd2, cpy2]
    rw [p1 22 (by decide) (by decide) (by decide), q6 _ (by omega)]; exact (rB r hr).2.2
  · simp [upd2, cpy2]
    rw [p5 r (by omega), q1 6 (by decide) (by decide) (by decide)]; exact (rC r hr).1
  · simp [upd2, cpy2]
    rw [p6 _ (by omega), q1 7 (by decide) (by decide) (by decide)]; exact (rC r hr).2.1 c hc'
  · simp [upd2, cpy2]
    rw [p6 _ (by omega), q1 7 (by decide) (by decide) (by decide)]; exact (rC r hr).2.2

theorem m_cpT_2_20 (M : Me) (h : Ml) : Wp zS0 tX6_copyFrom none 0 [zr 2, zr 20] [] M h (fun v M' h' => v = none ∧ h' = h ∧ (∀ k, k ≠ 2 → k ≠ 3 → k ≠ 4 → M' k = M k) ∧ M' 2 0 = M 2 0 ∧ M' 2 3 = min (M 20 3) 12 ∧ M' 2 4 = M 20 4 ∧ (∀ r, r < 12 → M' 3 r = M 21 r) ∧ ∀ i, i < 96 → M' 4 i = M 22 i) := by
  refine Wp.g1 rfl ?_
  refine Wp.acp rfl rfl rfl 0 0 96 rfl rfl (by decide) (by decide) (by decide) ?_
  refine Wp.g1 rfl ?_
  refine Wp.acp rfl rfl rfl 0 0 12 rfl rfl (by decide) (by decide) (by decide) ?_
  refine Wp.g1 rfl ?_
  refine Wp.re rfl ⟨rfl, rfl, fun k g1 g2 g3 => ?_, ?_, ?_, ?_, fun r hr => ?_, fun i hi => ?_⟩
  · funext j
    simp [upd2, cpy2, g1, g2, g3]
  · simp [upd2, cpy2]
  · simp [upd2, cpy2]
  · simp [upd2, cpy2]
  · simp [upd2, cpy2, hr]
  · simp [upd2, cpy2, hi]

theorem m_cpT_5_23 (M : Me) (h : Ml) : Wp zS0 tX6_copyFrom none 0 [zr 5, zr 23] [] M h (fun v M' h' => v = none ∧ h' = h ∧ (∀ k, k ≠ 5 → k ≠ 6 → k ≠ 7 → M' k = M k) ∧ M' 5 0 = M 5 0 ∧ M' 5 3 = min (M 23 3) 10 ∧ M' 5 4 = M 23 4 ∧ (∀ r, r < 10 → M' 6 r = M 24 r) ∧ ∀ i, i < 90 → M' 7 i = M 25 i) := by
  refine Wp.g1 rfl ?_
  refine Wp.acp rfl rfl rfl 0 0 90 rfl rfl (by decide) (by decide) (by decide) ?_
  refine Wp.g1 rfl ?_
  refine Wp.acp rfl rfl rfl 0 0 10 rfl rfl (by decide) (by decide) (by decide) ?_
  refine Wp.g1 rfl ?_
  refine Wp.re rfl ⟨rfl, rfl, fun k g1 g2 g3 => ?_, ?_, ?_, ?_, fun r hr => ?_, fun i hi => ?_⟩
  · funext j
    simp [upd2, cpy2, g1, g2, g3]
  · simp [upd2, cpy2]
  · simp [upd2, cpy2]
  · simp [upd2, cpy2]
  · simp [upd2, cpy2, hr]
  · simp [upd2, cpy2, hi]

theorem m_cpO_1_19 {V : Nat → Int} {nb nc : Nat} (M : Me) (h : Ml) (hR : OfRel M 19 V nb nc) (hb : nb ≤ 12) (hc : nc ≤ 10) : Wp zS0 tX3_copyFrom none 0 [zr 1, zr 19] [] M h (fun v M' h' => v = none ∧ h' = h ∧ (∀ k, k < 1 ∨ 9 ≤ k → M' k = M k) ∧ M' 2 0 = M 2 0 ∧ M' 5 0 = M 5 0 ∧ OfRel M' 1 V nb nc) := by
  obtain ⟨⟨r0, r1, r2, r3, r4, r5, r6, r7⟩, rw6, ⟨t1, t2, t3, t4⟩, rB, rC⟩ := hR
  refine Wp.g1 rfl ?_
  refine Wp.call rfl (m_cpT_2_20 M h) (fun v M1 h1 q => ?_)
  obtain ⟨rfl, rfl, q1, q2, q3, q4, q5, q6⟩ := q
  refine Wp.g1 rfl ?_
  refine Wp.call rfl (m_cpT_5_23 M1 h1) (fun v M2 h2 q => ?_)
  obtain ⟨rfl, rfl, p1, p2, p3, p4, p5, p6⟩ := q
  refine Wp.g1 rfl ?_
  refine Wp.acp rfl rfl rfl 0 0 6 rfl rfl (by decide) (by decide) (by decide) ?_
  refine Wp.g1 rfl ?_
  have eb : ∀ j, M2 19 j = M 19 j := fun j => by rw [p1 19 (by decide) (by decide) (by decide), q1 19 (by decide) (by decide) (by decide)]
  have e7 : ∀ j, M2 26 j = M 26 j := fun j => by rw [p1 26 (by decide) (by decide) (by decide), q1 26 (by decide) (by decide) (by decide)]
  refine Wp.re rfl ⟨rfl, rfl, fun k g => ?_, ?_, ?_, ⟨⟨?_, ?_, ?_, ?_, ?_, ?_, ?_, ?_⟩, fun i hi => ?_, ⟨?_, ?_, ?_, ?_⟩, fun r hr => ⟨?_, fun c hc' => ?_, ?_⟩, fun r hr => ⟨?_, fun c hc' => ?_, ?_⟩⟩⟩
  · have n0 : k ≠ 1 := by omega
    have n7 : k ≠ 8 := by omega
    have : M2 k = M k := (p1 k (by omega) (by omega) (by omega)).trans (q1 k (by omega) (by omega) (by omega))
    rw [← this]
    funext j
    simp [upd2, cpy2, n0, n7]
  · simp [upd2, cpy2]
    rw [p1 2 (by decide) (by decide) (by decide)]; exact q2
  · simp [upd2, cpy2]
    rw [p2, q1 5 (by decide) (by decide) (by decide)]
  · simp [upd2, cpy2, eb]; exact r0
  · simp [upd2, cpy2, eb]; exact r1
  · simp [upd2, cpy2, eb]; exact r2
  · simp [upd2, cpy2, eb]; exact r3
  · simp [upd2, cpy2, eb]; exact r4
  · simp [upd2, cpy2, eb]; exact r5
  · simp [upd2, cpy2, eb]; exact r6
  · simp [upd2, cpy2, eb]; exact r7
  · simp [upd2, cpy2, e7, hi]; exact rw6 i hi
  · simp [upd2, cpy2]
    rw [p1 2 (by decide) (by decide) (by decide), q3]
    have t1' : M 20 3 = (nb : Int) := t1
    rw [t1']; omega
  · simp [upd2, cpy2]
    rw [p1 2 (by decide) (by decide) (by decide), q4]; exact t2
  · simp [upd2, cpy2]
    rw [p3, q1 23 (by decide) (by decide) (by decide)]
    have t3' : M 23 3 = (nc : Int) := t3
    rw [t3']; omega
  · simp [upd2, cpy2]
    rw [p4, q1 23 (by decide) (by decide) (by decide)]; exact t4
  · simp [upd2, cpy2]
    rw [p1 3 (by decide) (by decide) (by decide), q5 r (by omega)]; exact (rB r hr).1
  · simp [upd2, cpy2]
    rw [p1 4 (by decide) (by decide) (by decide), q6 _ (by omega)]; exact (rB r hr).2.1 c hc'
  · simp [upd2, cpy2]
    rw [p1 4 (by decide) (by decide) (by decide), q6 _ (by omega)]; exact (rB r hr).2.2
  · simp [upd2, cpy2]
    rw [p5 r (by omega), q1 24 (by decide) (by decide) (by decide)]; exact (rC r hr).1
  · simp [upd2, cpy2]
    rw [p6 _ (by omega), q1 25 (by decide) (by decide) (by decide)]; exact (rC r hr).2.1 c hc'
  · simp [upd2, cpy2]
    rw [p6 _ (by omega), q1 25 (by decide) (by decide) (by decide)]; exact (rC r hr).2.2

theorem m_cpT_28_2 (M : Me) (h : Ml) : Wp zS0 tX6_copyFrom none 0 [zr 28, zr 2] [] M h (fun v M' h' => v = none ∧ h' = h ∧ (∀ k, k ≠ 28 → k ≠ 29 → k ≠ 30 → M' k = M k) ∧ M' 28 0 = M 28 0 ∧ M' 28 3 = min (M 2 3) 12 ∧ M' 28 4 = M 2 4 ∧ (∀ r, r < 12 → M' 29 r = M 3 r) ∧ ∀ i, i < 96 → M' 30 i = M 4 i) := by
  refine Wp.g1 rfl ?_
  refine Wp.acp rfl rfl rfl 0 0 96 rfl rfl (by decide) (by decide) (by decide) ?_
  refine Wp.g1 rfl ?_
  refine Wp.acp rfl rfl rfl 0 0 12 rfl rfl (by decide) (by decide) (by decide) ?_
  refine Wp.g1 rfl ?_
  refine Wp.re rfl ⟨rfl, rfl, fun k g1 g2 g3 => ?_, ?_, ?_, ?_, fun r hr => ?_, fun i hi => ?_⟩
  · funext j
    simp [upd2, cpy2, g1, g2, g3]
  · simp [upd2, cpy2]
  · simp [upd2, cpy2]
  · simp [upd2, cpy2]
  · simp [upd2, cpy2, hr]
  · simp [upd2, cpy2, hi]

theorem m_cpT_31_5 (M : Me) (h : Ml) : Wp zS0 tX6_copyFrom none 0 [zr 31, zr 5] [] M h (fun v M' h' => v = none ∧ h' = h ∧ (∀ k, k ≠ 31 → k ≠ 32 → k ≠ 33 → M' k = M k) ∧ M' 31 0 = M 31 0 ∧ M' 31 3 = min (M 5 3) 10 ∧ M' 31 4 = M 5 4 ∧ (∀ r, r < 10 → M' 32 r = M 6 r) ∧ ∀ i, i < 90 → M' 33 i = M 7 i) := by
  refine Wp.g1 rfl ?_
  refine Wp.acp rfl rfl rfl 0 0 90 rfl rfl (by decide) (by decide) (by decide) ?_
  refine Wp.g1 rfl ?_
  refine Wp.acp rfl rfl rfl 0 0 10 rfl rfl (by decide) (by decide) (by decide) ?_
  refine Wp.g1 rfl ?_
  refine Wp.re rfl ⟨rfl, rfl, fun k g1 g2 g3 => ?_, ?_, ?_, ?_, fun r hr => ?_, fun i hi => ?_⟩
  · funext j
    simp [upd2, cpy2, g1, g2, g3]
  · simp [upd2, cpy2]
  · simp [upd2, cpy2]
  · simp [upd2, cpy2]
  · simp [upd2, cpy2, hr]
  · simp [upd2, cpy2, hi]

theorem m_cpO_27_1 {V : Nat → Int} {nb nc : Nat} (M : Me) (h : Ml) (hR : OfRel M 1 V nb nc) (hb : nb ≤ 12) (hc : nc ≤ 10) : Wp zS0 tX3_copyFrom none 0 [zr 27, zr 1] [] M h (fun v M' h' => v = none ∧ h' = h ∧ (∀ k, k < 27 ∨ 35 ≤ k → M' k = M k) ∧ M' 28 0 = M 28 0 ∧ M' 31 0 = M 31 0 ∧ OfRel M' 27 V nb nc) := by
  obtain ⟨⟨r0, r1, r2, r3, r4, r5, r6, r7⟩, rw6, ⟨t1, t2, t3, t4⟩, rB, rC⟩ := hR
  refine Wp.g1 rfl ?_
  refine Wp.call rfl (m_cpT_28_2 M h) (fun v M1 h1 q => ?_)
  obtain ⟨rfl, rfl, q1, q2, q3, q4, q5, q6⟩ := q
  refine Wp.g1 rfl ?_
  refine Wp.call rfl (m_cpT_31_5 M1 h1) (fun v M2 h2 q => ?_)
  obtain ⟨rfl, rfl, p1, p2, p3, p4, p5, p6⟩ := q
  refine Wp.g1 rfl ?_
  refine Wp.acp rfl rfl rfl 0 0 6 rfl rfl (by decide) (by decide) (by decide) ?_
  refine Wp.g1 rfl ?_
  have eb : ∀ j, M2 1 j = M 1 j := fun j => by rw [p1 1 (by decide) (by decide) (by decide), q1 1 (by decide) (by decide) (by decide)]
  have e7 : ∀ j, M2 8 j = M 8 j := fun j => by rw [p1 8 (by decide) (by decide) (by decide), q1 8 (by decide) (by decide) (by decide)]
  refine Wp.re rfl ⟨rfl, rfl, fun k g => ?_, ?_, ?_, ⟨⟨?_, ?_, ?_, ?_, ?_, ?_, ?_, ?_⟩, fun i hi => ?_, ⟨?_, ?_, ?_, ?_⟩, fun r hr => ⟨?_, fun c hc' => ?_, ?_⟩, fun r hr => ⟨?_, fun c hc' => ?_, ?_⟩⟩⟩
  · have n0 : k ≠ 27 := by omega
    have n7 : k ≠ 34 := by omega
    have : M2 k = M k := (p1 k (by omega) (by omega) (by omega)).trans (q1 k (by omega) (by omega) (by omega))
    rw [← this]
    funext j
    simp [upd2, cpy2, n0, n7]
  · simp [upd2, cpy2]
    rw [p1 28 (by decide) (by decide) (by decide)]; exact q2
  · simp [upd2, cpy2]
    rw [p2, q1 31 (by decide) (by decide) (by decide)]
  · simp [upd2, cpy2, eb]; exact r0
  · simp [upd2, cpy2, eb]; exact r1
  · simp [upd2, cpy2, eb]; exact r2
  · simp [upd2, cpy2, eb]; exact r3
  · simp [upd2, cpy2, eb]; exact r4
  · simp [upd2, cpy2, eb]; exact r5
  · simp [upd2, cpy2, eb]; exact r6
  · simp [upd2, cpy2, eb]; exact r7
  · simp [upd2, cpy2, e7, hi]; exact rw6 i hi
  · simp [upd2, cpy2]
    rw [p1 28 (by decide) (by decide) (by decide), q3]
    have t1' : M 2 3 = (nb : Int) := t1
    rw [t1']; omega
  · simp [upd2, cpy2]
    rw [p1 28 (by decide) (by decide) (by decide), q4]; exact t2
  · simp [upd2, cpy2]
    rw [p3, q1 5 (by decide) (by decide) (by decide)]
    have t3' : M 5 3 = (nc : Int) := t3
    rw [t3']; omega
  · simp [upd2, cpy2]
    rw [p4, q1 5 (by decide) (by decide) (by decide)]; exact t4
  · simp [upd2, cpy2]
    rw [p1 29 (by decide) (by decide) (by decide), q5 r (by omega)]; exact (rB r hr).1
  · simp [upd2, cpy2]
    rw [p1 30 (by decide) (by decide) (by decide), q6 _ (by omega)]; exact (rB r hr).2.1 c hc'
  · simp [upd2, cpy2]
    rw [p1 30 (by decide) (by decide) (by decide), q6 _ (by omega)]; exact (rB r hr).2.2
  · simp [upd2, cpy2]
    rw [p5 r (by omega), q1 6 (by decide) (by decide) (by decide)]; exact (rC r hr).1
  · simp [upd2, cpy2]
    rw [p6 _ (by omega), q1 7 (by decide) (by decide) (by decide)]; exact (rC r hr).2.1 c hc'
  · simp [upd2, cpy2]
    rw [p6 _ (by omega), q1 7 (by decide) (by decide) (by decide)]; exact (rC r hr).2.2

theorem m_cpT_2_28 (M : Me) (h : Ml) : Wp zS0 tX6_copyFrom none 0 [zr 2, zr 28] [] M h (fun v M' h' => v = none ∧ h' = h ∧ (∀ k, k ≠ 2 → k ≠ 3 → k ≠ 4 → M' k = M k) ∧ M' 2 0 = M 2 0 ∧ M' 2 3 = min (M 28 3) 12 ∧ M' 2 4 = M 28 4 ∧ (∀ r, r < 12 → M' 3 r = M 29 r) ∧ ∀ i, i < 96 → M' 4 i = M 30 i) := by
  refine Wp.g1 rfl ?_
  refine Wp.acp rfl rfl rfl 0 0 96 rfl rfl (by decide) (by decide) (by decide) ?_
  refine Wp.g1 rfl ?_
  refine Wp.acp rfl rfl rfl 0 0 12 rfl rfl (by decide) (by decide) (by decide) ?_
  refine Wp.g1 rfl ?_
  refine Wp.re rfl ⟨rfl, rfl, fun k g1 g2 g3 => ?_, ?_, ?_, ?_, fun r hr => ?_, fun i hi => ?_⟩
  · funext j
    simp [upd2, cpy2, g1, g2, g3]
  · simp [upd2, cpy2]
  · simp [upd2, cpy2]
  · simp [upd2, cpy2]
  · simp [upd2, cpy2, hr]
  · simp [upd2, cpy2, hi]

theorem m_cpT_5_31 (M : Me) (h : Ml) : Wp zS0 tX6_copyFrom none 0 [zr 5, zr 31] [] M h (fun v M' h' => v = none ∧ h' = h ∧ (∀ k, k ≠ 5 → k ≠ 6 → k ≠ 7 → M' k = M k) ∧ M' 5 0 = M 5 0 ∧ M' 5 3 = min (M 31 3) 10 ∧ M' 5 4 = M 31 4 ∧ (∀ r, r < 10 → M' 6 r = M 32 r) ∧ ∀ i, i < 90 → M' 7 i = M 33 i) := by
  refine Wp.g1 rfl ?_
  refine Wp.acp rfl rfl rfl 0 0 90 rfl rfl (by decide) (by decide) (by decide) ?_
  refine Wp.g1 rfl ?_
  refine Wp.acp rfl rfl rfl 0 0 10 rfl rfl (by decide) (by decide) (by decide) ?_
  refine Wp.g1 rfl ?_
  refine Wp.re rfl ⟨rfl, rfl, fun k g1 g2 g3 => ?_, ?_, ?_, ?_, fun r hr => ?_, fun i hi => ?_⟩
  · funext j
    simp [upd2, cpy2, g1, g2, g3]
  · simp [upd2, cpy2]
  · simp [upd2, cpy2]
  · simp [upd2, cpy2]
  · simp [upd2, cpy2, hr]
  · simp [upd2, cpy2, hi]

theorem m_cpO_1_27 {V : Nat → Int} {nb nc : Nat} (M : Me) (h : Ml) (hR : OfRel M 27 V nb nc) (hb : nb ≤ 12) (hc : nc ≤ 10) : Wp zS0 tX3_copyFrom none 0 [zr 1, zr 27] [] M h (fun v M' h' => v = none ∧ h' = h ∧ (∀ k, k < 1 ∨ 9 ≤ k → M' k = M k) ∧ M' 2 0 = M 2 0 ∧ M' 5 0 = M 5 0 ∧ OfRel M' 1 V nb nc) := by
  obtain ⟨⟨r0, r1, r2, r3, r4, r5, r6, r7⟩, rw6, ⟨t1, t2, t3, t4⟩, rB, rC⟩ := hR
  refine Wp.g1 rfl ?_
  refine Wp.call rfl (m_cpT_2_28 M h) (fun v M1 h1 q => ?_)
  obtain ⟨rfl, rfl, q1, q2, q3, q4, q5, q6⟩ := q
  refine Wp.g1 rfl ?_
  refine Wp.call rfl (m_cpT_5_31 M1 h1) (fun v M2 h2 q => ?_)
  obtain ⟨rfl, rfl, p1, p2, p3, p4, p5, p6⟩ := q
  refine Wp.g1 rfl ?_
  refine Wp.acp rfl rfl rfl 0 0 6 rfl rfl (by decide) (by decide) (by decide) ?_
  refine Wp.g1 rfl ?_
  have eb : ∀ j, M2 27 j = M 27 j := fun j => by rw [p1 27 (by decide) (by decide) (by decide), q1 27 (by decide) (by decide) (by decide)]
  have e7 : ∀ j, M2 34 j = M 34 j := fun j => by rw [p1 34 (by decide) (by decide) (by decide), q1 34 (by decide) (by decide) (by decide)]
  refine Wp.re rfl ⟨rfl, rfl, fun k g => ?_, ?_, ?_, ⟨⟨?_, ?_, ?_, ?_, ?_, ?_, ?_, ?_⟩, fun i hi => ?_, ⟨?_, ?_, ?_, ?_⟩, fun r hr => ⟨?_, fun c hc' => ?_, ?_⟩, fun r hr => ⟨?_, fun c hc' => ?_, ?_⟩⟩⟩
  · have n0 : k ≠ 1 := by omega
    have n7 : k ≠ 8 := by omega
    have : M2 k = M k := (p1 k (by omega) (by omega) (by omega)).trans (q1 k (by omega) (by omega) (by omega))
    rw [← this]
    funext j
    simp [upd2, cpy2, n0, n7]
  · simp [upd2, cpy2]
    rw [p1 2 (by decide) (by decide) (by decide)]; exact q2
  · simp [upd2, cpy2]
    rw [p2, q1 5 (by decide) (by decide) (by decide)]
  · simp [upd2, cpy2, eb]; exact r0
  · simp [upd2, cpy2, eb]; exact r1
  · simp [upd2, cpy2, eb]; exact r2
  · simp [upd2, cpy2, eb]; exact r3
  · simp [upd2, cpy2, eb]; exact r4
  · simp [upd2, cpy2, eb]; exact r5
  · simp [upd2, cpy2, eb]; exact r6
  · simp [upd2, cpy2, eb]; exact r7
  · simp [upd2, cpy2, e7, hi]; exact rw6 i hi
  · simp [upd2, cpy2]
    rw [p1 2 (by decide) (by decide) (by decide), q3]
    have t1' : M 28 3 = (nb : Int) := t1
    rw [t1']; omega
  · simp [upd2, cpy2]
    rw [p1 2 (by decide) (by decide) (by decide), q4]; exact t2
  · simp [upd2, cpy2]
    rw [p3, q1 31 (by decide) (by decide) (by decide)]
    have t3' : M 31 3 = (nc : Int) := t3
    rw [t3']; omega
  · simp [upd2, cpy2]
    rw [p4, q1 31 (by decide) (by decide) (by decide)]; exact t4
  · simp [upd2, cpy2]
    rw [p1 3 (by decide) (by decide) (by decide), q5 r (by omega)]; exact (rB r hr).1
  · simp [upd2, cpy2]
    rw [p1 4 (by decide) (by decide) (by decide), q6 _ (by omega)]; exact (rB r hr).2.1 c hc'
  · simp [upd2, cpy2]
    rw [p1 4 (by decide) (by decide) (by decide), q6 _ (by omega)]; exact (rB r hr).2.2
  · simp [upd2, cpy2]
    rw [p5 r (by omega), q1 32 (by decide) (by decide) (by decide)]; exact (rC r hr).1
  · simp [upd2, cpy2]
    rw [p6 _ (by omega), q1 33 (by decide) (by decide) (by decide)]; exact (rC r hr).2.1 c hc'
  · simp [upd2, cpy2]
    rw [p6 _ (by omega), q1 33 (by decide) (by decide) (by decide)]; exact (rC r hr).2.2

theorem m_cpT_36_2 (M : Me) (h : Ml) : Wp zS0 tX6_copyFrom none 0 [zr 36, zr 2] [] M h (fun v M' h' => v = none ∧ h' = h ∧ (∀ k, k ≠ 36 → k ≠ 37 → k ≠ 38 → M' k = M k) ∧ M' 36 0 = M 36 0 ∧ M' 36 3 = min (M 2 3) 12 ∧ M' 36 4 = M 2 4 ∧ (∀ r, r < 12 → M' 37 r = M 3 r) ∧ ∀ i, i < 96 → M' 38 i = M 4 i) := by
  refine Wp.g1 rfl ?_
  refine Wp.acp rfl rfl rfl 0 0 96 rfl rfl (by decide) (by decide) (by decide) ?_
  refine Wp.g1 rfl ?_
  refine Wp.acp rfl rfl rfl 0 0 12 rfl rfl (by decide) (by decide) (by decide) ?_
  refine Wp.g1 rfl ?_
  refine Wp.re rfl ⟨rfl, rfl, fun k g1 g2 g3 => ?_, ?_, ?_, ?_, fun r hr => ?_, fun i hi => ?_⟩
  · funext j
    simp [upd2, cpy2, g1, g2, g3]
  · simp [upd2, cpy2]
  · simp [upd2, cpy2]
  · simp [upd2, cpy2]
  · simp [upd2, cpy2, hr]
  · simp [upd2, cpy2, hi]

theorem m_cpT_39_5 (M : Me) (h : Ml) : Wp zS0 tX6_copyFrom none 0 [zr 39, zr 5] [] M h (fun v M' h' => v = none ∧ h' = h ∧ (∀ k, k ≠ 39 → k ≠ 40 → k ≠ 41 → M' k = M k) ∧ M' 39 0 = M 39 0 ∧ M' 39 3 = min (M 5 3) 10 ∧ M' 39 4 = M 5 4 ∧ (∀ r, r < 10 → M' 40 r = M 6 r) ∧ ∀ i, i < 90 → M' 41 i = M 7 i) := by
  refine Wp.g1 rfl ?_
  refine Wp.acp rfl rfl rfl 0 0 90 rfl rfl (by decide) (by decide) (by decide) ?_
  refine Wp.g1 rfl ?_
  refine Wp.acp rfl rfl rfl 0 0 10 rfl rfl (by decide) (by decide) (by decide) ?_
  refine Wp.g1 rfl ?_
  refine Wp.re rfl ⟨rfl, rfl, fun k g1 g2 g3 => ?_, ?_, ?_, ?_, fun r hr => ?_, fun i hi => ?_⟩
  · funext j
    simp [upd2, cpy2, g1, g2, g3]
  · simp [upd2, cpy2]
  · simp [upd2, cpy2]
  · simp [upd2, cpy2]
  · simp [upd2, cpy2, hr]
  · simp [upd2, cpy2, hi]

theorem m_cpO_35_1 {V : Nat → Int} {nb nc : Nat} (M : Me) (h : Ml) (hR : OfRel M 1 V nb nc) (hb : nb ≤ 12) (hc : nc ≤ 10) : Wp zS0 tX3_copyFrom none 0 [zr 35, zr 1] [] M h (fun v M' h' => v = none ∧ h' = h ∧ (∀ k, k < 35 ∨ 43 ≤ k → M' k = M k) ∧ M' 36 0 = M 36 0 ∧ M' 39 0 = M 39 0 ∧ OfRel M' 35 V nb nc) := by
  obtain ⟨⟨r0, r1, r2, r3, r4, r5, r6, r7⟩, rw6, ⟨t1, t2, t3, t4⟩, rB, rC⟩ := hR
  refine Wp.g1 rfl ?_
  refine Wp.call rfl (m_cpT_36_2 M h) (fun v M1 h1 q => ?_)
  obtain ⟨rfl, rfl, q1, q2, q3, q4, q5, q6⟩ := q
  refine Wp.g1 rfl ?_
  refine Wp.call rfl (m_cpT_39_5 M1 h1) (fun v M2 h2 q => ?_)
  obtain ⟨rfl, rfl, p1, p2, p3, p4, p5, p6⟩ := q
  refine Wp.g1 rfl ?_
  refine Wp.acp rfl rfl rfl 0 0 6 rfl rfl (by decide) (by decide) (by decide) ?_
  refine Wp.g1 rfl ?_
  have eb : ∀ j, M2 1 j = M 1 j := fun j => by rw [p1 1 (by decide) (by decide) (by decide), q1 1 (by decide) (by decide) (by decide)]
  have e7 : ∀ j, M2 8 j = M 8 j := fun j => by rw [p1 8 (by decide) (by decide) (by decide), q1 8 (by decide) (by decide) (by decide)]
  refine Wp.re rfl ⟨rfl, rfl, fun k g => ?_, ?_, ?_, ⟨⟨?_, ?_, ?_, ?_, ?_, ?_, ?_, ?_⟩, fun i hi => ?_, ⟨?_, ?_, ?_, ?_⟩, fun r hr => ⟨?_, fun c hc' => ?_, ?_⟩, fun r hr => ⟨?_, fun c hc' => ?_, ?_⟩⟩⟩
  · have n0 : k ≠ 35 := by omega
    have n7 : k ≠ 42 := by omega
    have : M2 k = M k := (p1 k (by omega) (by omega) (by omega)).trans (q1 k (by omega) (by omega) (by omega))
    rw [← this]
    funext j
    simp [upd2, cpy2, n0, n7]
  · simp [upd2, cpy2]
    rw [p1 36 (by decide) (by decide) (by decide)]; exact q2
  · simp [upd2, cpy2]
    rw [p2, q1 39 (by decide) (by decide) (by decide)]
  · simp [upd2, cpy2, eb]; exact r0
  · simp [upd2, cpy2, eb]; exact r1
  · simp [upd2, cpy2, eb]; exact r2
  · simp [upd2, cpy2, eb]; exact r3
  · simp [upd2, cpy2, eb]; exact r4
  · simp [upd2, cpy2, eb]; exact r5
  · simp [upd2, cpy2, eb]; exact r6
  · simp [upd2, cpy2, eb]; exact r7
  · simp [upd2, cpy2, e7, hi]; exact rw6 i hi
  · simp [upd2, cpy2]
    rw [p1 36 (by decide) (by decide) (by decide), q3]
    have t1' : M 2 3 = (nb : Int) := t1
    rw [t1']; omega
  · simp [upd2, cpy2]
    rw [p1 36 (by decide) (by decide) (by decide), q4]; exact t2
  · simp [upd2, cpy2]
    rw [p3, q1 5 (by decide) (by decide) (by decide)]
    have t3' : M 5 3 = (nc : Int) := t3
    rw [t3']; omega
  · simp [upd2, cpy2]
    rw [p4, q1 5 (by decide) (by decide) (by decide)]; exact t4
  · simp [upd2, cpy2]
    rw [p1 37 (by decide) (by decide) (by decide), q5 r (by omega)]; exact (rB r hr).1
  · simp [upd2, cpy2]
    rw [p1 38 (by decide) (by decide) (by decide), q6 _ (by omega)]; exact (rB r hr).2.1 c hc'
  · simp [upd2, cpy2]
    rw [p1 38 (by decide) (by decide) (by decide), q6 _ (by omega)]; exact (rB r hr).2.2
  · simp [upd2, cpy2]
    rw [p5 r (by omega), q1 6 (by decide) (by decide) (by decide)]; exact (rC r hr).1
  · simp [upd2, cpy2]
    rw [p6 _ (by omega), q1 7 (by decide) (by decide) (by decide)]; exact (rC r hr).2.1 c hc'
  · simp [upd2, cpy2]
    rw [p6 _ (by omega), q1 7 (by decide) (by decide) (by decide)]; exact (rC r hr).2.2

theorem m_cpT_2_36 (M : Me) (h : Ml) : Wp zS0 tX6_copyFrom none 0 [zr 2, zr 36] [] M h (fun v M' h' => v = none ∧ h' = h ∧ (∀ k, k ≠ 2 → k ≠ 3 → k ≠ 4 → M' k = M k) ∧ M' 2 0 = M 2 0 ∧ M' 2 3 = min (M 36 3) 12 ∧ M' 2 4 = M 36 4 ∧ (∀ r, r < 12 → M' 3 r = M 37 r) ∧ ∀ i, i < 96 → M' 4 i = M 38 i) := by
  refine Wp.g1 rfl ?_
  refine Wp.acp rfl rfl rfl 0 0 96 rfl rfl (by decide) (by decide) (by decide) ?_
  refine Wp.g1 rfl ?_
  refine Wp.acp rfl rfl rfl 0 0 12 rfl rfl (by decide) (by decide) (by decide) ?_
  refine Wp.g1 rfl ?_
  refine Wp.re rfl ⟨rfl, rfl, fun k g1 g2 g3 => ?_, ?_, ?_, ?_, fun r hr => ?_, fun i hi => ?_⟩
  · funext j
    simp [upd2, cpy2, g1, g2, g3]
  · simp [upd2, cpy2]
  · simp [upd2, cpy2]
  · simp [upd2, cpy2]
  · simp [upd2, cpy2, hr]
  · simp [upd2, cpy2, hi]

theorem m_cpT_5_39 (M : Me) (h : Ml) : Wp zS0 tX6_copyFrom none 0 [zr 5, zr 39] [] M h (fun v M' h' => v = none ∧ h' = h ∧ (∀ k, k ≠ 5 → k ≠ 6 → k ≠ 7 → M' k = M k) ∧ M' 5 0 = M 5 0 ∧ M' 5 3 = min (M 39 3) 10 ∧ M' 5 4 = M 39 4 ∧ (∀ r, r < 10 → M' 6 r = M 40 r) ∧ ∀ i, i < 90 → M' 7 i = M 41 i) := by
  refine Wp.g1 rfl ?_
  refine Wp.acp rfl rfl rfl 0 0 90 rfl rfl (by decide) (by decide) (by decide) ?_
  refine Wp.g1 rfl ?_
  refine Wp.acp rfl rfl rfl 0 0 10 rfl rfl (by decide) (by decide) (by decide) ?_
  refine Wp.g1 rfl ?_
  refine Wp.re rfl ⟨rfl, rfl, fun k g1 g2 g3 => ?_, ?_, ?_, ?_, fun r hr => ?_, fun i hi => ?_⟩
  · funext j
    simp [upd2, cpy2, g1, g2, g3]
  · simp [upd2, cpy2]
  · simp [upd2, cpy2]
  · simp [upd2, cpy2]
  · simp [upd2, cpy2, hr]
  · simp [upd2, cpy2, hi]

theorem m_cpO_1_35 {V : Nat → Int} {nb nc : Nat} (M : Me) (h : Ml) (hR : OfRel M 35 V nb nc) (hb : nb ≤ 12) (hc : nc ≤ 10) : Wp zS0 tX3_copyFrom none 0 [zr 1, zr 35] [] M h (fun v M' h' => v = none ∧ h' = h ∧ (∀ k, k < 1 ∨ 9 ≤ k → M' k = M k) ∧ M' 2 0 = M 2 0 ∧ M' 5 0 = M 5 0 ∧ OfRel M' 1 V nb nc) := by
  obtain ⟨⟨r0, r1, r2, r3, r4, r5, r6, r7⟩, rw6, ⟨t1, t2, t3, t4⟩, rB, rC⟩ := hR
  refine Wp.g1 rfl ?_
  refine Wp.call rfl (m_cpT_2_36 M h) (fun v M1 h1 q => ?_)
  obtain ⟨rfl, rfl, q1, q2, q3, q4, q5, q6⟩ := q
  refine Wp.g1 rfl ?_
  refine Wp.call rfl (m_cpT_5_39 M1 h1) (fun v M2 h2 q => ?_)
  obtain ⟨rfl, rfl, p1, p2, p3, p4, p5, p6⟩ := q
  refine Wp.g1 rfl ?_
  refine Wp.acp rfl rfl rfl 0 0 6 rfl rfl (by decide) (by decide) (by decide) ?_
  refine Wp.g1 rfl ?_
  have eb : ∀ j, M2 35 j = M 35 j := fun j => by rw [p1 35 (by decide) (by decide) (by decide), q1 35 (by decide) (by decide) (by decide)]
  have e7 : ∀ j, M2 42 j = M 42 j := fun j => by rw [p1 42 (by decide) (by decide) (by decide), q1 42 (by decide) (by decide) (by decide)]
  refine Wp.re rfl ⟨rfl, rfl, fun k g => ?_, ?_, ?_, ⟨⟨?_, ?_, ?_, ?_, ?_, ?_, ?_, ?_⟩, fun i hi => ?_, ⟨?_, ?_, ?_, ?_⟩, fun r hr => ⟨?_, fun c hc' => ?_, ?_⟩, fun r hr => ⟨?_, fun c hc' => ?_, ?_⟩⟩⟩
  · have n0 : k ≠ 1 := by omega
    have n7 : k ≠ 8 := by omega
    have : M2 k = M k := (p1 k (by omega) (by omega) (by omega)).trans (q1 k (by omega) (by omega) (by omega))
    rw [← this]
    funext j
    simp [upd2, cpy2, n0, n7]
  · simp [upd2, cpy2]
    rw [p1 2 (by decide) (by decide) (by decide)]; exact q2
  · simp [upd2, cpy2]
    rw [p2, q1 5 (by decide) (by decide) (by decide)]
  · simp [upd2, cpy2, eb]; exact r0
  · simp [upd2, cpy2, eb]; exact r1
  · simp [upd2, cpy2, eb]; exact r2
  · simp [upd2, cpy2, eb]; exact r3
  · simp [upd2, cpy2, eb]; exact r4
  · simp [upd2, cpy2, eb]; exact r5
  · simp [upd2, cpy2, eb]; exact r6
  · simp [upd2, cpy2, eb]; exact r7
  · simp [upd2, cpy2, e7, hi]; exact rw6 i hi
  · simp [upd2, cpy2]
    rw [p1 2 (by decide) (by decide) (by decide), q3]
    have t1' : M 36 3 = (nb : Int) := t1
    rw [t1']; omega
  · simp [upd2, cpy2]
    rw [p1 2 (by decide) (by decide) (by decide), q4]; exact t2
  · simp [upd2, cpy2]
    rw [p3, q1 39 (by decide) (by decide) (by decide)]
    have t3' : M 39 3 = (nc : Int) := t3
    rw [t3']; omega
  · simp [upd2, cpy2]
    rw [p4, q1 39 (by decide) (by decide) (by decide)]; exact t4
  · simp [upd2, cpy2]
    rw [p1 3 (by decide) (by decide) (by decide), q5 r (by omega)]; exact (rB r hr).1
  · simp [upd2, cpy2]
    rw [p1 4 (by decide) (by decide) (by decide), q6 _ (by omega)]; exact (rB r hr).2.1 c hc'
  · simp [upd2, cpy2]
    rw [p1 4 (by decide) (by decide) (by decide), q6 _ (by omega)]; exact (rB r hr).2.2
  · simp [upd2, cpy2]
    rw [p5 r (by omega), q1 40 (by decide) (by decide) (by decide)]; exact (rC r hr).1
  · simp [upd2, cpy2]
    rw [p6 _ (by omega), q1 41 (by decide) (by decide) (by decide)]; exact (rC r hr).2.1 c hc'
  · simp [upd2, cpy2]
    rw [p6 _ (by omega), q1 41 (by decide) (by decide) (by decide)]; exact (rC r hr).2.2

theorem m_cpT_44_2 (M : Me) (h : Ml) : Wp zS0 tX6_copyFrom none 0 [zr 44, zr 2] [] M h (fun v M' h' => v = none ∧ h' = h ∧ (∀ k, k ≠ 44 → k ≠ 45 → k ≠ 46 → M' k = M k) ∧ M' 44 0 = M 44 0 ∧ M' 44 3 = min (M 2 3) 12 ∧ M' 44 4 = M 2 4 ∧ (∀ r, r < 12 → M' 45 r = M 3 r) ∧ ∀ i, i < 96 → M' 46 i = M 4 i) := by
  refine Wp.g1 rfl ?_
  refine Wp.acp rfl rfl rfl 0 0 96 rfl rfl (by decide) (by decide) (by decide) ?_
  refine Wp.g1 rfl ?_
  refine Wp.acp rfl rfl rfl 0 0 12 rfl rfl (by decide) (by decide) (by decide) ?_
  refine Wp.g1 rfl ?_
  refine Wp.re rfl ⟨rfl, rfl, fun k g1 g2 g3 => ?_, ?_, ?_, ?_, fun r hr => ?_, fun i hi => ?_⟩
  · funext j
    simp [upd2, cpy2, g1, g2, g3]
  · simp [upd2, cpy2]
  · simp [upd2, cpy2]
  · simp [upd2, cpy2]
  · simp [upd2, cpy2, hr]
  · simp [upd2, cpy2, hi]

theorem m_cpT_47_5 (M : Me) (h : Ml) : Wp zS0 tX6_copyFrom none 0 [zr 47, zr 5] [] M h (fun v M' h' => v = none ∧ h' = h ∧ (∀ k, k ≠ 47 → k ≠ 48 → k ≠ 49 → M' k = M k) ∧ M' 47 0 = M 47 0 ∧ M' 47 3 = min (M 5 3) 10 ∧ M' 47 4 = M 5 4 ∧ (∀ r, r < 10 → M' 48 r = M 6 r) ∧ ∀ i, i < 90 → M' 49 i = M 7 i) := by
  refine Wp.g1 rfl ?_
  refine Wp.acp rfl rfl rfl 0 0 90 rfl rfl (by decide) (by decide) (by decide) ?_
  refine Wp.g1 rfl ?_
  refine Wp.acp rfl rfl rfl 0 0 10 rfl rfl (by decide) (by decide) (by decide) ?_
  refine Wp.g1 rfl ?_
  refine Wp.re rfl ⟨rfl, rfl, fun k g1 g2 g3 => ?_, ?_, ?_, ?_, fun r hr => ?_, fun i hi => ?_⟩
  · funext j
    simp [upd2, cpy2, g1, g2, g3]
  · simp [upd2, cpy2]
  · simp [upd2, cpy2]
  · simp [upd2, cpy2]
  · simp [upd2, cpy2, hr]
  · simp [upd2, cpy2, hi]

theorem m_cpO_43_1 {V : Nat → Int} {nb nc : Nat} (M : Me) (h : Ml) (hR : OfRel M 1 V nb nc) (hb : nb ≤ 12) (hc : nc ≤ 10) : Wp zS0 tX3_copyFrom none 0 [zr 43, zr 1] [] M h (fun v M' h' => v = none ∧ h' = h ∧ (∀ k, k < 43 ∨ 51 ≤ k → M' k = M k) ∧ M' 44 0 = M 44 0 ∧ M' 47 0 = M 47 0 ∧ OfRel M' 43 V nb nc) := by
  obtain ⟨⟨r0, r1, r2, r3, r4, r5, r6, r7⟩, rw6, ⟨t1, t2, t3, t4⟩, rB, rC⟩ := hR
  refine Wp.g1 rfl ?_
  refine Wp.call rfl (m_cpT_44_2 M h) (fun v M1 h1 q => ?_)
  obtain ⟨rfl, rfl, q1, q2, q3, q4, q5, q6⟩ := q
  refine Wp.g1 rfl ?_
  refine Wp.call rfl (m_cpT_47_5 M1 h1) (fun v M2 h2 q => ?_)
  obtain ⟨rfl, rfl, p1, p2, p3, p4, p5, p6⟩ := q
  refine Wp.g1 rfl ?_
  refine Wp.acp rfl rfl rfl 0 0 6 rfl rfl (by decide) (by decide) (by decide) ?_
  refine Wp.g1 rfl ?_
  have eb : ∀ j, M2 1 j = M 1 j := fun j => by rw [p1 1 (by decide) (by decide) (by decide), q1 1 (by decide) (by decide) (by decide)]
  have e7 : ∀ j, M2 8 j = M 8 j := fun j => by rw [p1 8 (by decide) (by decide) (by decide), q1 8 (by decide) (by decide) (by decide)]
  refine Wp.re rfl ⟨rfl, rfl, fun k g => ?_, ?_, ?_, ⟨⟨?_, ?_, ?_, ?_, ?_, ?_, ?_, ?_⟩, fun i hi => ?_, ⟨?_, ?_, ?_, ?_⟩, fun r hr => ⟨?_, fun c hc' => ?_, ?_⟩, fun r hr => ⟨?_, fun c hc' => ?_, ?_⟩⟩⟩
  · have n0 : k ≠ 43 := by omega
    have n7 : k ≠ 50 := by omega
    have : M2 k = M k := (p1 k (by omega) (by omega) (by omega)).trans (q1 k (by omega) (by omega) (by omega))
    rw [← this]
    funext j
    simp [upd2, cpy2, n0, n7]
  · simp [upd2, cpy2]
    rw [p1 44 (by decide) (by decide) (by decide)]; exact q2
  · simp [upd2, cpy2]
    rw [p2, q1 47 (by decide) (by decide) (by decide)]
  · simp [upd2, cpy2, eb]; exact r0
  · simp [upd2, cpy2, eb]; exact r1
  · simp [upd2, cpy2, eb]; exact r2
  · simp [upd2, cpy2, eb]; exact r3
  · simp [upd2, cpy2, eb]; exact r4
  · simp [upd2, cpy2, eb]; exact r5
  · simp [upd2, cpy2, eb]; exact r6
  · simp [upd2, cpy2, eb]; exact r7
  · simp [upd2, cpy2, e7, hi]; exact rw6 i hi
  · simp [upd2, cpy2]
    rw [p1 44 (by decide) (by decide) (by decide), q3]
    have t1' : M 2 3 = (nb : Int) := t1
    rw [t1']; omega
  · simp [upd2, cpy2]
    rw [p1 44 (by decide) (by decide) (by decide), q4]; exact t2
  · simp [upd2, cpy2]
    rw [p3, q1 5 (by decide) (by decide) (by decide)]
    have t3' : M 5 3 = (nc : Int) := t3
    rw [t3']; omega
  · simp [upd2, cpy2]
    rw [p4, q1 5 (by decide) (by decide) (by decide)]; exact t4
  · simp [upd2, cpy2]
    rw [p1 45 (by decide) (by decide) (by decide), q5 r (by omega)]; exact (rB r hr).1
  · simp [upd2, cpy2]
    rw [p1 46 (by decide) (by decide) (by decide), q6 _ (by omega)]; exact (rB r hr).2.1 c hc'
  · simp [upd2, cpy2]
    rw [p1 46 (by decide) (by decide) (by decide), q6 _ (by omega)]; exact (rB r hr).2.2
  · simp [upd2, cpy2]
    rw [p5 r (by omega), q1 6 (by decide) (by decide) (by decide)]; exact (rC r hr).1
  · simp [upd2, cpy2]
    rw [p6 _ (by omega), q1 7 (by decide) (by decide) (by decide)]; exact (rC r hr).2.1 c hc'
  · simp [upd2, cpy2]
    rw [p6 _ (by omega), q1 7 (by decide) (by decide) (by decide)]; exact (rC r hr).2.2

theorem m_cpT_2_44 (M : Me) (h : Ml) : Wp zS0 tX6_copyFrom none 0 [zr 2, zr 44] [] M h (fun v M' h' => v = none ∧ h' = h ∧ (∀ k, k ≠ 2 → k ≠ 3 → k ≠ 4 → M' k = M k) ∧ M' 2 0 = M 2 0 ∧ M' 2 3 = min (M 44 3) 12 ∧ M' 2 4 = M 44 4 ∧ (∀ r, r < 12 → M' 3 r = M 45 r) ∧ ∀ i, i < 96 → M' 4 i = M 46 i) := by
  refine Wp.g1 rfl ?_
  refine Wp.acp rfl rfl rfl 0 0 96 rfl rfl (by decide) (by decide) (by decide) ?_
  refine Wp.g1 rfl ?_
  refine Wp.acp rfl rfl rfl 0 0 12 rfl rfl (by decide) (by decide) (by decide) ?_
  refine Wp.g1 rfl ?_
  refine Wp.re rfl ⟨rfl, rfl, fun k g1 g2 g3 => ?_, ?_, ?_, ?_, fun r hr => ?_, fun i hi => ?_⟩
  · funext j
    simp [upd2, cpy2, g1, g2, g3]
  · simp [upd2, cpy2]
  · simp [upd2, cpy2]
  · simp [upd2, cpy2]
  · simp [upd2, cpy2, hr]
  · simp [upd2, cpy2, hi]

theorem m_cpT_5_47 (M : Me) (h : Ml) : Wp zS0 tX6_copyFrom none 0 [zr 5, zr 47] [] M h (fun v M' h' => v = none ∧ h' = h ∧ (∀ k, k ≠ 5 → k ≠ 6 → k ≠ 7 → M' k = M k) ∧ M' 5 0 = M 5 0 ∧ M' 5 3 = min (M 47 3) 10 ∧ M' 5 4 = M 47 4 ∧ (∀ r, r < 10 → M' 6 r = M 48 r) ∧ ∀ i, i < 90 → M' 7 i = M 49 i) := by
  refine Wp.g1 rfl ?_
  refine Wp.acp rfl rfl rfl 0 0 90 rfl rfl (by decide) (by decide) (by decide) ?_
  refine Wp.g1 rfl ?_
  refine Wp.acp rfl rfl rfl 0 0 10 rfl rfl (by decide) (by decide) (by decide) ?_
  refine Wp.g1 rfl ?_
  refine Wp.re rfl ⟨rfl, rfl, fun k g1 g2 g3 => ?_, ?_, ?_, ?_, fun r hr => ?_, fun i hi => ?_⟩
  · funext j
    simp [upd2, cpy2, g1, g2, g3]
  · simp [upd2, cpy2]
  · simp [upd2, cpy2]
  · simp [upd2, cpy2]
  · simp [upd2, cpy2, hr]
  · simp [upd2, cpy2, hi]

theorem m_cpO_1_43 {V : Nat → Int} {nb nc : Nat} (M : Me) (h : Ml) (hR : OfRel M 43 V nb nc) (hb : nb ≤ 12) (hc : nc ≤ 10) : Wp zS0 tX3_copyFrom none 0 [zr 1, zr 43] [] M h (fun v M' h' => v = none ∧ h' = h ∧ (∀ k, k < 1 ∨ 9 ≤ k → M' k = M k) ∧ M' 2 0 = M 2 0 ∧ M' 5 0 = M 5 0 ∧ OfRel M' 1 V nb nc) := by
  obtain ⟨⟨r0, r1, r2, r3, r4, r5, r6, r7⟩, rw6, ⟨t1, t2, t3, t4⟩, rB, rC⟩ := hR
  refine Wp.g1 rfl ?_
  refine Wp.call rfl (m_cpT_2_44 M h) (fun v M1 h1 q => ?_)
  obtain ⟨rfl, rfl, q1, q2, q3, q4, q5, q6⟩ := q
  refine Wp.g1 rfl ?_
  refine Wp.call rfl (m_cpT_5_47 M1 h1) (fun v M2 h2 q => ?_)
  obtain ⟨rfl, rfl, p1, p2, p3, p4, p5, p6⟩ := q
  refine Wp.g1 rfl ?_
  refine Wp.acp rfl rfl rfl 0 0 6 rfl rfl (by decide) (by decide) (by decide) ?_
  refine Wp.g1 rfl ?_
  have eb : ∀ j, M2 43 j = M 43 j := fun j => by rw [p1 43 (by decide) (by decide) (by decide), q1 43 (by decide) (by decide) (by decide)]
  have e7 : ∀ j, M2 50 j = M 50 j := fun j => by rw [p1 50 (by decide) (by decide) (by decide), q1 50 (by decide) (by decide) (by decide)]
  refine Wp.re rfl ⟨rfl, rfl, fun k g => ?_, ?_, ?_, ⟨⟨?_, ?_, ?_, ?_, ?_, ?_, ?_, ?_⟩, fun i hi => ?_, ⟨?_, ?_, ?_, ?_⟩, fun r hr => ⟨?_, fun c hc' => ?_, ?_⟩, fun r hr => ⟨?_, fun c hc' => ?_, ?_⟩⟩⟩
  · have n0 : k ≠ 1 := by omega
    have n7 : k ≠ 8 := by omega
    have : M2 k = M k := (p1 k (by omega) (by omega) (by omega)).trans (q1 k (by omega) (by omega) (by omega))
    rw [← this]
    funext j
    simp [upd2, cpy2, n0, n7]
  · simp [upd2, cpy2]
    rw [p1 2 (by decide) (by decide) (by decide)]; exact q2
  · simp [upd2, cpy2]
    rw [p2, q1 5 (by decide) (by decide) (by decide)]
  · simp [upd2, cpy2, eb]; exact r0
  · simp [upd2, cpy2, eb]; exact r1
  · simp [upd2, cpy2, eb]; exact r2
  · simp [upd2, cpy2, eb]; exact r3
  · simp [upd2, cpy2, eb]; exact r4
  · simp [upd2, cpy2, eb]; exact r5
  · simp [upd2, cpy2, eb]; exact r6
  · simp [upd2, cpy2, eb]; exact r7
  · simp [upd2, cpy2, e7, hi]; exact rw6 i hi
  · simp [upd2, cpy2]
    rw [p1 2 (by decide) (by decide) (by decide), q3]
    have t1' : M 44 3 = (nb : Int) := t1
    rw [t1']; omega
  · simp [upd2, cpy2]
    rw [p1 2 (by decide) (by decide) (by decide), q4]; exact t2
  · simp [upd2, cpy2]
    rw [p3, q1 47 (by decide) (by decide) (by decide)]
    have t3' : M 47 3 = (nc : Int) := t3
    rw [t3']; omega
  · simp [upd2, cpy2]
    rw [p4, q1 47 (by decide) (by decide) (by decide)]; exact t4
  · simp [upd2, cpy2]
    rw [p1 3 (by decide) (by decide) (by decide), q5 r (by omega)]; exact (rB r hr).1
  · simp [upd2, cpy2]
    rw [p1 4 (by decide) (by decide) (by decide), q6 _ (by omega)]; exact (rB r hr).2.1 c hc'
  · simp [upd2, cpy2]
    rw [p1 4 (by decide) (by decide) (by decide), q6 _ (by omega)]; exact (rB r hr).2.2
  · simp [upd2, cpy2]
    rw [p5 r (by omega), q1 48 (by decide) (by decide) (by decide)]; exact (rC r hr).1
  · simp [upd2, cpy2]
    rw [p6 _ (by omega), q1 49 (by decide) (by decide) (by decide)]; exact (rC r hr).2.1 c hc'
  · simp [upd2, cpy2]
    rw [p6 _ (by omega), q1 49 (by decide) (by decide) (by decide)]; exact (rC r hr).2.2

theorem m_cpT_52_2 (M : Me) (h : Ml) : Wp zS0 tX6_copyFrom none 0 [zr 52, zr 2] [] M h (fun v M' h' => v = none ∧ h' = h ∧ (∀ k, k ≠ 52 → k ≠ 53 → k ≠ 54 → M' k = M k) ∧ M' 52 0 = M 52 0 ∧ M' 52 3 = min (M 2 3) 12 ∧ M' 52 4 = M 2 4 ∧ (∀ r, r < 12 → M' 53 r = M 3 r) ∧ ∀ i, i < 96 → M' 54 i = M 4 i) := by
  refine Wp.g1 rfl ?_
  refine Wp.acp rfl rfl rfl 0 0 96 rfl rfl (by decide) (by decide) (by decide) ?_
  refine Wp.g1 rfl ?_
  refine Wp.acp rfl rfl rfl 0 0 12 rfl rfl (by decide) (by decide) (by decide) ?_
  refine Wp.g1 rfl ?_
  refine Wp.re rfl ⟨rfl, rfl, fun k g1 g2 g3 => ?_, ?_, ?_, ?_, fun r hr => ?_, fun i hi => ?_⟩
  · funext j
    simp [upd2, cpy2, g1, g2, g3]
  · simp [upd2, cpy2]
  · simp [upd2, cpy2]
  · simp [upd2, cpy2]
  · simp [upd2, cpy2, hr]
  · simp [upd2, cpy2, hi]

theorem m_cpT_55_5 (M : Me) (h : Ml) : Wp zS0 tX6_copyFrom none 0 [zr 55, zr 5] [] M h (fun v M' h' => v = none ∧ h' = h ∧ (∀ k, k ≠ 55 → k ≠ 56 → k ≠ 57 → M' k = M k) ∧ M' 55 0 = M 55 0 ∧ M' 55 3 = min (M 5 3) 10 ∧ M' 55 4 = M 5 4 ∧ (∀ r, r < 10 → M' 56 r = M 6 r) ∧ ∀ i, i < 90 → M' 57 i = M 7 i) := by
  refine Wp.g1 rfl ?_
  refine Wp.acp rfl rfl rfl 0 0 90 rfl rfl (by decide) (by decide) (by decide) ?_
  refine Wp.g1 rfl ?_
  refine Wp.acp rfl rfl rfl 0 0 10 rfl rfl (by decide) (by decide) (by decide) ?_
  refine Wp.g1 rfl ?_
  refine Wp.re rfl ⟨rfl, rfl, fun k g1 g2 g3 => ?_, ?_, ?_, ?_, fun r hr => ?_, fun i hi => ?_⟩
  · funext j
    simp [upd2, cpy2, g1, g2, g3]
  · simp [upd2, cpy2]
  · simp [upd2, cpy2]
  · simp [upd2, cpy2]
  · simp [upd2, cpy2, hr]
  · simp [upd2, cpy2, hi]

theorem m_cpO_51_1 {V : Nat → Int} {nb nc : Nat} (M : Me) (h : Ml) (hR : OfRel M 1 V nb nc) (hb : nb ≤ 12) (hc : nc ≤ 10) : Wp zS0 tX3_copyFrom none 0 [zr 51, zr 1] [] M h (fun v M' h' => v = none ∧ h' = h ∧ (∀ k, k < 51 ∨ 59 ≤ k → M' k = M k) ∧ M' 52 0 = M 52 0 ∧ M' 55 0 = M 55 0 ∧ OfRel M' 51 V nb nc) := by
  obtain ⟨⟨r0, r1, r2, r3, r4, r5, r6, r7⟩, rw6, ⟨t1, t2, t3, t4⟩, rB, rC⟩ := hR
  refine Wp.g1 rfl ?_
  refine Wp.call rfl (m_cpT_52_2 M h) (fun v M1 h1 q => ?_)
  obtain ⟨rfl, rfl, q1, q2, q3, q4, q5, q6⟩ := q
  refine Wp.g1 rfl ?_
  refine Wp.call rfl (m_cpT_55_5 M1 h1) (fun v M2 h2 q => ?_)
  obtain ⟨rfl, rfl, p1, p2, p3, p4, p5, p6⟩ := q
  refine Wp.g1 rfl ?_
  refine Wp.acp rfl rfl rfl 0 0 6 rfl rfl (by decide) (by decide) (by decide) ?_
  refine Wp.g1 rfl ?_
  have eb : ∀ j, M2 1 j = M 1 j := fun j => by rw [p1 1 (by decide) (by decide) (by decide), q1 1 (by decide) (by decide) (by decide)]
  have e7 : ∀ j, M2 8 j = M 8 j := fun j => by rw [p1 8 (by decide) (by decide) (by decide), q1 8 (by decide) (by decide) (by decide)]
  refine Wp.re rfl ⟨rfl, rfl, fun k g => ?_, ?_, ?_, ⟨⟨?_, ?_, ?_, ?_, ?_, ?_, ?_, ?_⟩, fun i hi => ?_, ⟨?_, ?_, ?_, ?_⟩, fun r hr => ⟨?_, fun c hc' => ?_, ?_⟩, fun r hr => ⟨?_, fun c hc' => ?_, ?_⟩⟩⟩
  · have n0 : k ≠ 51 := by omega
    have n7 : k ≠ 58 := by omega
    have : M2 k = M k := (p1 k (by omega) (by omega) (by omega)).trans (q1 k (by omega) (by omega) (by omega))
    rw [← this]
    funext j
    simp [upd2, cpy2, n0, n7]
  · simp [upd2, cpy2]
    rw [p1 52 (by decide) (by decide) (by decide)]; exact q2
  · simp [upd2, cpy2]
    rw [p2, q1 55 (by decide) (by decide) (by decide)]
  · simp [upd2, cpy2, eb]; exact r0
  · simp [upd2, cpy2, eb]; exact r1
  · simp [upd2, cpy2, eb]; exact r2
  · simp [upd2, cpy2, eb]; exact r3
  · simp [upd2, cpy2, eb]; exact r4
  · simp [upd2, cpy2, eb]; exact r5
  · simp [upd2, cpy2, eb]; exact r6
  · simp [upd2, cpy2, eb]; exact r7
  · simp [upd2, cpy2, e7, hi]; exact rw6 i hi
  · simp [upd2, cpy2]
    rw [p1 52 (by decide) (by decide) (by decide), q3]
    have t1' : M 2 3 = (nb : Int) := t1
    rw [t1']; omega
  · simp [upd2, cpy2]
    rw [p1 52 (by decide) (by decide) (by decide), q4]; exact t2
  · simp [upd2, cpy2]
    rw [p3, q1 5 (by decide) (by decide) (by decide)]
    have t3' : M 5 3 = (nc : Int) := t3
    rw [t3']; omega
  · simp [upd2, cpy2]
    rw [p4, q1 5 (by decide) (by decide) (by decide)]; exact t4
  · simp [upd2, cpy2]
    rw [p1 53 (by decide) (by decide) (by decide), q5 r (by omega)]; exact (rB r hr).1
  · simp [upd2, cpy2]
    rw [p1 54 (by decide) (by decide) (by decide), q6 _ (by omega)]; exact (rB r hr).2.1 c hc'
  · simp [upd2, cpy2]
    rw [p1 54 (by decide) (by decide) (by decide), q6 _ (by omega)]; exact (rB r hr).2.2
  · simp [upd2, cpy2]
    rw [p5 r (by omega), q1 6 (by decide) (by decide) (by decide)]; exact (rC r hr).1
  · simp [upd2, cpy2]
    rw [p6 _ (by omega), q1 7 (by decide) (by decide) (by decide)]; exact (rC r hr).2.1 c hc'
  · simp [upd2, cpy2]
    rw [p6 _ (by omega), q1 7 (by decide) (by decide) (by decide)]; exact (rC r hr).2.2

theorem m_cpT_2_52 (M : Me) (h : Ml) : Wp zS0 tX6_copyFrom none 0 [zr 2, zr 52] [] M h (fun v M' h' => v = none ∧ h' = h ∧ (∀ k, k ≠ 2 → k ≠ 3 → k ≠ 4 → M' k = M k) ∧ M' 2 0 = M 2 0 ∧ M' 2 3 = min (M 52 3) 12 ∧ M' 2 4 = M 52 4 ∧ (∀ r, r < 12 → M' 3 r = M 53 r) ∧ ∀ i, i < 96 → M' 4 i = M 54 i) := by
  refine Wp.g1 rfl ?_
  refine Wp.acp rfl rfl rfl 0 0 96 rfl rfl (by decide) (by decide) (by decide) ?_
  refine Wp.g1 rfl ?_
  refine Wp.acp rfl rfl rfl 0 0 12 rfl rfl (by decide) (by decide) (by decide) ?_
  refine Wp.g1 rfl ?_
  refine Wp.re rfl ⟨rfl, rfl, fun k g1 g2 g3 => ?_, ?_, ?_, ?_, fun r hr => ?_, fun i hi => ?_⟩
  · funext j
    simp [upd2, cpy2, g1, g2, g3]
  · simp [upd2, cpy2]
  · simp [upd2, cpy2]
  · simp [upd2, cpy2]
  · simp [upd2, cpy2, hr]
  · simp [upd2, cpy2, hi]

theorem m_cpT_5_55 (M : Me) (h : Ml) : Wp zS0 tX6_copyFrom none 0 [zr 5, zr 55] [] M h (fun v M' h' => v = none ∧ h' = h ∧ (∀ k, k ≠ 5 → k ≠ 6 → k ≠ 7 → M' k = M k) ∧ M' 5 0 = M 5 0 ∧ M' 5 3 = min (M 55 3) 10 ∧ M' 5 4 = M 55 4 ∧ (∀ r, r < 10 → M' 6 r = M 56 r) ∧ ∀ i, i < 90 → M' 7 i = M 57 i) := by
  refine Wp.g1 rfl ?_
  refine Wp.acp rfl rfl rfl 0 0 90 rfl rfl (by decide) (by decide) (by decide) ?_
  refine Wp.g1 rfl ?_
  refine Wp.acp rfl rfl rfl 0 0 10 rfl rfl (by decide) (by decide) (by decide) ?_
  refine Wp.g1 rfl ?_
  refine Wp.re rfl ⟨rfl, rfl, fun k g1 g2 g3 => ?_, ?_, ?_, ?_, fun r hr => ?_, fun i hi => ?_⟩
  · funext j
    simp [upd2, cpy2, g1, g2, g3]
  · simp [upd2, cpy2]
  · simp [upd2, cpy2]
  · simp [upd2, cpy2]
  · simp [upd2, cpy2, hr]
  · simp [upd2, cpy2, hi]

theorem m_cpO_1_51 {V : Nat → Int} {nb nc : Nat} (M : Me) (h : Ml) (hR : OfRel M 51 V nb nc) (hb : nb ≤ 12) (hc : nc ≤ 10) : Wp zS0 tX3_copyFrom none 0 [zr 1, zr 51] [] M h (fun v M' h' => v = none ∧ h' = h ∧ (∀ k, k < 1 ∨ 9 ≤ k → M' k = M k) ∧ M' 2 0 = M 2 0 ∧ M' 5 0 = M 5 0 ∧ OfRel M' 1 V nb nc) := by
  obtain ⟨⟨r0, r1, r2, r3, r4, r5, r6, r7⟩, rw6, ⟨t1, t2, t3, t4⟩, rB, rC⟩ := hR
  refine Wp.g1 rfl ?_
  refine Wp.call rfl (m_cpT_2_52 M h) (fun v M1 h1 q => ?_)
  obtain ⟨rfl, rfl, q1, q2, q3, q4, q5, q6⟩ := q
  refine Wp.g1 rfl ?_
  refine Wp.call rfl (m_cpT_5_55 M1 h1) (fun v M2 h2 q => ?_)
  obtain ⟨rfl, rfl, p1, p2, p3, p4, p5, p6⟩ := q
  refine Wp.g1 rfl ?_
  refine Wp.acp rfl rfl rfl 0 0 6 rfl rfl (by decide) (by decide) (by decide) ?_
  refine Wp.g1 rfl ?_
  have eb : ∀ j, M2 51 j = M 51 j := fun j => by rw [p1 51 (by decide) (by decide) (by decide), q1 51 (by decide) (by decide) (by decide)]
  have e7 : ∀ j, M2 58 j = M 58 j := fun j => by rw [p1 58 (by decide) (by decide) (by decide), q1 58 (by decide) (by decide) (by decide)]
  refine Wp.re rfl ⟨rfl, rfl, fun k g => ?_, ?_, ?_, ⟨⟨?_, ?_, ?_, ?_, ?_, ?_, ?_, ?_⟩, fun i hi => ?_, ⟨?_, ?_, ?_, ?_⟩, fun r hr => ⟨?_, fun c hc' => ?_, ?_⟩, fun r hr => ⟨?_, fun c hc' => ?_, ?_⟩⟩⟩
  · have n0 : k ≠ 1 := by omega
    have n7 : k ≠ 8 := by omega
    have : M2 k = M k := (p1 k (by omega) (by omega) (by omega)).trans (q1 k (by omega) (by omega) (by omega))
    rw [← this]
    funext j
    simp [upd2, cpy2, n0, n7]
  · simp [upd2, cpy2]
    rw [p1 2 (by decide) (by decide) (by decide)]; exact q2
  · simp [upd2, cpy2]
    rw [p2, q1 5 (by decide) (by decide) (by decide)]
  · simp [upd2, cpy2, eb]; exact r0
  · simp [upd2, cpy2, eb]; exact r1
  · simp [upd2, cpy2, eb]; exact r2
  · simp [upd2, cpy2, eb]; exact r3
  · simp [upd2, cpy2, eb]; exact r4
  · simp [upd2, cpy2, eb]; exact r5
  · simp [upd2, cpy2, eb]; exact r6
  · simp [upd2, cpy2, eb]; exact r7
  · simp [upd2, cpy2, e7, hi]; exact rw6 i hi
  · simp [upd2, cpy2]
    rw [p1 2 (by decide) (by decide) (by decide), q3]
    have t1' : M 52 3 = (nb : Int) := t1
    rw [t1']; omega
  · simp [upd2, cpy2]
    rw [p1 2 (by decide) (by decide) (by decide), q4]; exact t2
  · simp [upd2, cpy2]
    rw [p3, q1 55 (by decide) (by decide) (by decide)]
    have t3' : M 55 3 = (nc : Int) := t3
    rw [t3']; omega
  · simp [upd2, cpy2]
    rw [p4, q1 55 (by decide) (by decide) (by decide)]; exact t4
  · simp [upd2, cpy2]
    rw [p1 3 (by decide) (by decide) (by decide), q5 r (by omega)]; exact (rB r hr).1
  · simp [upd2, cpy2]
    rw [p1 4 (by decide) (by decide) (by decide), q6 _ (by omega)]; exact (rB r hr).2.1 c hc'
  · simp [upd2, cpy2]
    rw [p1 4 (by decide) (by decide) (by decide), q6 _ (by omega)]; exact (rB r hr).2.2
  · simp [upd2, cpy2]
    rw [p5 r (by omega), q1 56 (by decide) (by decide) (by decide)]; exact (rC r hr).1
  · simp [upd2, cpy2]
    rw [p6 _ (by omega), q1 57 (by decide) (by decide) (by decide)]; exact (rC r hr).2.1 c hc'
  · simp [upd2, cpy2]
    rw [p6 _ (by omega), q1 57 (by decide) (by decide) (by decide)]; exact (rC r hr).2.2
end
section
theorem HiRel.of {M M' : Me} {kn kn' nx nx' : Nat} {P P' : Nat → Nat → Int} (h5 : ∀ c, c < kn → ∃ nb nc : Nat, P c 10 = (nb : Int) ∧ P c 12 = (nc : Int) ∧ OfRel M (11 + 8 * ((nx + 6 - kn + c) % 6)) (P c) nb nc) (g1 : nx' < 6) (g2 : M' 9 1 = (nx' : Int)) (g3 : M' 9 2 = (kn' : Int)) (g4 : kn' ≤ 6)
    (g5 : ∀ c, c < kn' → (∃ c', c' < kn ∧ P' c = P c' ∧ (nx' + 6 - kn' + c) % 6 = (nx + 6 - kn + c') % 6 ∧ ∀ k, 11 + 8 * ((nx' + 6 - kn' + c) % 6) ≤ k → k < 11 + 8 * ((nx' + 6 - kn' + c) % 6) + 8 → M' k = M k) ∨ (∃ nb nc : Nat, P' c 10 = (nb : Int) ∧ P' c 12 = (nc : Int) ∧ OfRel M' (11 + 8 * ((nx' + 6 - kn' + c) % 6)) (P' c) nb nc)) : HiRel M' kn' P' := by
  refine ⟨nx', g1, g2, g3, g4, fun c hc => ?_⟩
  rcases g5 c hc with ⟨c', e1, e2, e3, e4⟩ | e
  · obtain ⟨nb, nc, f1, f2, f3⟩ := h5 c' e1
    rw [e2]
    refine ⟨nb, nc, f1, f2, ?_⟩
    rw [← e3] at f3
    exact f3.kept e4
  · exact e
theorem m_save_0 {V : Nat → Int} {nb nc kn : Nat} {P : Nat → Nat → Int} (M : Me) (h : Ml) (hR : OfRel M 1 V nb nc) (hb : nb ≤ 12) (hc : nc ≤ 10) (e10 : V 10 = (nb : Int)) (e12 : V 12 = (nc : Int)) (h1 : M 9 1 = 0) (h2 : M 9 2 = (kn : Int)) (h3 : kn ≤ 6) (h5 : ∀ c, c < kn → ∃ nb nc : Nat, P c 10 = (nb : Int) ∧ P c 12 = (nc : Int) ∧ OfRel M (11 + 8 * ((0 + 6 - kn + c) % 6)) (P c) nb nc) :
    Wp zS0 tX2_save none 0 [zr 9, zr 1] [] M h (fun v M' h' => v = none ∧ h' = h ∧ (∀ k, k < 9 ∨ 59 ≤ k → M' k = M k) ∧ HiRel M' (svK kn) (svP kn V P)) := by
  refine Wp.g1 rfl ?_
  rw [h1]
  refine Wp.brf rfl (by decide) ?_
  refine Wp.g1 rfl ?_
  rw [h1]
  refine Wp.brf rfl (by decide) ?_
  refine Wp.g1 rfl ?_
  refine Wp.ald rfl rfl 0 h1 (by decide) rfl ?_
  refine Wp.g1 rfl ?_
  refine Wp.ald rfl rfl 0 h1 (by decide) rfl ?_
  refine Wp.g1 rfl ?_
  refine Wp.call rfl (m_cpO_11_1 M h hR hb hc) (fun v M1 h1' q => ?_)
  obtain ⟨rfl, rfl, q1, -, -, q4⟩ := q
  have e9 : ∀ j, M1 9 j = M 9 j := fun j => by rw [q1 9 (by decide)]
  refine Wp.g1 rfl ?_
  rw [e9 1, h1]
  refine Wp.brt rfl (by decide) ?_
  refine Wp.g1 rfl ?_
  have e2 : min (w32 (upd2 M1 9 1 1 9 2 + 1)) 6 = ((svK kn : Nat) : Int) := by
    rw [upd2_off (by decide), e9 2, h2, w32_s (by omega)]
    unfold svK
    split <;> omega
  refine Wp.re rfl ⟨rfl, rfl, fun k g => ?_, ?_⟩
  · rw [upd2_ne (by omega), upd2_ne (by omega)]
    exact q1 k (by omega)
  · have kp : ∀ M2 : Me, (∀ k, k ≠ 9 → M2 k = M1 k) → M2 9 1 = ((1 : Nat) : Int) → M2 9 2 = ((svK kn : Nat) : Int) → HiRel M2 (svK kn) (svP kn V P) := by
      intro M2 hM2 hm1 hm2
      refine HiRel.of (nx' := 1) h5 (by decide) hm1 hm2 (by unfold svK; split <;> omega) (fun c hc' => ?_)
      by_cases e6 : kn = 6
      · have ek : svK kn = 6 := by unfold svK; rw [if_pos e6]
        rw [ek] at hc' ⊢
        by_cases e5 : c < 5
        · refine Or.inl ⟨c + 1, by omega, by unfold svP; rw [if_pos e6, if_pos e5], by omega, fun k g1 g2 => ?_⟩
          rw [hM2 k (by omega)]
          exact q1 k (by omega)
        · have ec : c = 5 := by omega
          subst ec
          have ep : svP kn V P 5 = V := by unfold svP; rw [if_pos e6, if_neg e5]
          rw [ep]
          exact Or.inr ⟨nb, nc, e10, e12, q4.kept (fun k g1 g2 => hM2 k (by omega))⟩
      · have ek : svK kn = kn + 1 := by unfold svK; rw [if_neg e6]
        rw [ek] at hc' ⊢
        by_cases e5 : c < kn
        · refine Or.inl ⟨c, by omega, by unfold svP; rw [if_neg e6, if_pos e5], by omega, fun k g1 g2 => ?_⟩
          rw [hM2 k (by omega)]
          exact q1 k (by omega)
        · have ec : c = kn := by omega
          subst ec
          have ep : svP c V P c = V := by unfold svP; rw [if_neg e6, if_neg e5]
          rw [ep]
          refine Or.inr ⟨nb, nc, e10, e12, ?_⟩
          rw [show 11 + 8 * ((1 + 6 - (c + 1) + c) % 6) = 11 by omega]
          exact q4.kept (fun k g1 g2 => hM2 k (by omega))
    refine kp _ (fun k g => by rw [upd2_ne g, upd2_ne g]) ?_ ?_
    · rw [upd2_off (by decide), upd2_at]; first | rfl | (rw [e9 1, h1]; decide)
    · rw [upd2_at]; exact e2

theorem m_save_1 {V : Nat → Int} {nb nc kn : Nat} {P : Nat → Nat → Int} (M : Me) (h : Ml) (hR : OfRel M 1 V nb nc) (hb : nb ≤ 12) (hc : nc ≤ 10) (e10 : V 10 = (nb : Int)) (e12 : V 12 = (nc : Int)) (h1 : M 9 1 = 1) (h2 : M 9 2 = (kn : Int)) (h3 : kn ≤ 6) (h5 : ∀ c, c < kn → ∃ nb nc : Nat, P c 10 = (nb : Int) ∧ P c 12 = (nc : Int) ∧ OfRel M (11 + 8 * ((1 + 6 - kn + c) % 6)) (P c) nb nc) :
    Wp zS0 tX2_save none 0 [zr 9, zr 1] [] M h (fun v M' h' => v = none ∧ h' = h ∧ (∀ k, k < 9 ∨ 59 ≤ k → M' k = M k) ∧ HiRel M' (svK kn) (svP kn V P)) := by
  refine Wp.g1 rfl ?_
  rw [h1]
  refine Wp.brf rfl (by decide) ?_
  refine Wp.g1 rfl ?_
  rw [h1]
  refine Wp.brf rfl (by decide) ?_
  refine Wp.g1 rfl ?_
  refine Wp.ald rfl rfl 1 h1 (by decide) rfl ?_
  refine Wp.g1 rfl ?_
  refine Wp.ald rfl rfl 1 h1 (by decide) rfl ?_
  refine Wp.g1 rfl ?_
  refine Wp.call rfl (m_cpO_19_1 M h hR hb hc) (fun v M1 h1' q => ?_)
  obtain ⟨rfl, rfl, q1, -, -, q4⟩ := q
  have e9 : ∀ j, M1 9 j = M 9 j := fun j => by rw [q1 9 (by decide)]
  refine Wp.g1 rfl ?_
  rw [e9 1, h1]
  refine Wp.brt rfl (by decide) ?_
  refine Wp.g1 rfl ?_
  have e2 : min (w32 (upd2 M1 9 1 2 9 2 + 1)) 6 = ((svK kn : Nat) : Int) := by
    rw [upd2_off (by decide), e9 2, h2, w32_s (by omega)]
    unfold svK
    split <;> omega
  refine Wp.re rfl ⟨rfl, rfl, fun k g => ?_, ?_⟩
  · rw [upd2_ne (by omega), upd2_ne (by omega)]
    exact q1 k (by omega)
  · have kp : ∀ M2 : Me, (∀ k, k ≠ 9 → M2 k = M1 k) → M2 9 1 = ((2 : Nat) : Int) → M2 9 2 = ((svK kn : Nat) : Int) → HiRel M2 (svK kn) (svP kn V P) := by
      intro M2 hM2 hm1 hm2
      refine HiRel.of (nx' := 2) h5 (by decide) hm1 hm2 (by unfold svK; split <;> omega) (fun c hc' => ?_)
      by_cases e6 : kn = 6
      · have ek : svK kn = 6 := by unfold svK; rw [if_pos e6]
        rw [ek] at hc' ⊢
        by_cases e5 : c < 5
        · refine Or.inl ⟨c + 1, by omega, by unfold svP; rw [if_pos e6, if_pos e5], by omega, fun k g1 g2 => ?_⟩
          rw [hM2 k (by omega)]
          exact q1 k (by omega)
        · have ec : c = 5 := by omega
          subst ec
          have ep : svP kn V P 5 = V := by unfold svP; rw [if_pos e6, if_neg e5]
          rw [ep]
          exact Or.inr ⟨nb, nc, e10, e12, q4.kept (fun k g1 g2 => hM2 k (by omega))⟩
      · have ek : svK kn = kn + 1 := by unfold svK; rw [if_neg e6]
        rw [ek] at hc' ⊢
        by_cases e5 : c < kn
        · refine Or.inl ⟨c, by omega, by unfold svP; rw [if_neg e6, if_pos e5], by omega, fun k g1 g2 => ?_⟩
          rw [hM2 k (by omega)]
          exact q1 k (by omega)
        · have ec : c = kn := by omega
          subst ec
          have ep : svP c V P c = V := by unfold svP; rw [if_neg e6, if_neg e5]
          rw [ep]
          refine Or.inr ⟨nb, nc, e10, e12, ?_⟩
          rw [show 11 + 8 * ((2 + 6 - (c + 1) + c) % 6) = 19 by omega]
          exact q4.kept (fun k g1 g2 => hM2 k (by omega))
    refine kp _ (fun k g => by rw [upd2_ne g, upd2_ne g]) ?_ ?_
    · rw [upd2_off (by decide), upd2_at]; first | rfl | (rw [e9 1, h1]; decide)
    · rw [upd2_at]; exact e2

theorem m_save_2 {V : Nat → Int} {nb nc kn : Nat} {P : Nat → Nat → Int} (M : Me) (h : Ml) (hR : OfRel M 1 V nb nc) (hb : nb ≤ 12) (hc : nc ≤ 10) (e10 : V 10 = (nb : Int)) (e12 : V 12 = (nc : Int)) (h1 : M 9 1 = 2) (h2 : M 9 2 = (kn : Int)) (h3 : kn ≤ 6) (h5 : ∀ c, c < kn → ∃ nb nc : Nat, P c 10 = (nb : Int) ∧ P c 12 = (nc : Int) ∧ OfRel M (11 + 8 * ((2 + 6 - kn + c) % 6)) (P c) nb nc) :
    Wp zS0 tX2_save none 0 [zr 9, zr 1] [] M h (fun v M' h' => v = none ∧ h' = h ∧ (∀ k, k < 9 ∨ 59 ≤ k → M' k = M k) ∧ HiRel M' (svK kn) (svP kn V P)) := by
  refine Wp.g1 rfl ?_
  rw [h1]
  refine Wp.brf rfl (by decide) ?_
  refine Wp.g1 rfl ?_
  rw [h1]
  refine Wp.brf rfl (by decide) ?_
  refine Wp.g1 rfl ?_
  refine Wp.ald rfl rfl 2 h1 (by decide) rfl ?_
  refine Wp.g1 rfl ?_
  refine Wp.ald rfl rfl 2 h1 (by decide) rfl ?_
  refine Wp.g1 rfl ?_
  refine Wp.call rfl (m_cpO_27_1 M h hR hb hc) (fun v M1 h1' q => ?_)
  obtain ⟨rfl, rfl, q1, -, -, q4⟩ := q
  have e9 : ∀ j, M1 9 j = M 9 j := fun j => by rw [q1 9 (by decide)]
  refine Wp.g1 rfl ?_
  rw [e9 1, h1]
  refine Wp.brt rfl (by decide) ?_
  refine Wp.g1 rfl ?_
  have e2 : min (w32 (upd2 M1 9 1 3 9 2 + 1)) 6 = ((svK kn : Nat) : Int) := by
    rw [upd2_off (by decide), e9 2, h2, w32_s (by omega)]
    unfold svK
    split <;> omega
  refine Wp.re rfl ⟨rfl, rfl, fun k g => ?_, ?_⟩
  · rw [upd2_ne (by omega), upd2_ne (by omega)]
    exact q1 k (by omega)
  · have kp : ∀ M2 : Me, (∀ k, k ≠ 9 → M2 k = M1 k) → M2 9 1 = ((3 : Nat) : Int) → M2 9 2 = ((svK kn : Nat) : Int) → HiRel M2 (svK kn) (svP kn V P) := by
      intro M2 hM2 hm1 hm2
      refine HiRel.of (nx' := 3) h5 (by decide) hm1 hm2 (by unfold svK; split <;> omega) (fun c hc' => ?_)
      by_cases e6 : kn = 6
      · have ek : svK kn = 6 := by unfold svK; rw [if_pos e6]
        rw [ek] at hc' ⊢
        by_cases e5 : c < 5
        · refine Or.inl ⟨c + 1, by omega, by unfold svP; rw [if_pos e6, if_pos e5], by omega, fun k g1 g2 => ?_⟩
          rw [hM2 k (by omega)]
          exact q1 k (by omega)
        · have ec : c = 5 := by omega
          subst ec
          have ep : svP kn V P 5 = V := by unfold svP; rw [if_pos e6, if_neg e5]
          rw [ep]
          exact Or.inr ⟨nb, nc, e10, e12, q4.kept (fun k g1 g2 => hM2 k (by omega))⟩
      · have ek : svK kn = kn + 1 := by unfold svK; rw [if_neg e6]
        rw [ek] at hc' ⊢
        by_cases e5 : c < kn
        · refine Or.inl ⟨c, by omega, by unfold svP; rw [if_neg e6, if_pos e5], by omega, fun k g1 g2 => ?_⟩
          rw [hM2 k (by omega)]
          exact q1 k (by omega)
        · have ec : c = kn := by omega
          subst ec
          have ep : svP c V P c = V := by unfold svP; rw [if_neg e6, if_neg e5]
          rw [ep]
          refine Or.inr ⟨nb, nc, e10, e12, ?_⟩
          rw [show 11 + 8 * ((3 + 6 - (c + 1) + c) % 6) = 27 by omega]
          exact q4.kept (fun k g1 g2 => hM2 k (by omega))
    refine kp _ (fun k g => by rw [upd2_ne g, upd2_ne g]) ?_ ?_
    · rw [upd2_off (by decide), upd2_at]; first | rfl | (rw [e9 1, h1]; decide)
    · rw [upd2_at]; exact e2

theorem m_save_3 {V : Nat → Int} {nb nc kn : Nat} {P : Nat → Nat → Int} (M : Me) (h : Ml) (hR : OfRel M 1 V nb nc) (hb : nb ≤ 12) (hc : nc ≤ 10) (e10 : V 10 = (nb : Int)) (e12 : V 12 = (nc : Int)) (h1 : M 9 1 = 3) (h2 : M 9 2 = (kn : Int)) (h3 : kn ≤ 6) (h5 : ∀ c, c < kn → ∃ nb nc : Nat, P c 10 = (nb : Int) ∧ P c 12 = (nc : Int) ∧ OfRel M (11 + 8 * ((3 + 6 - kn + c) % 6)) (P c) nb nc) :
    Wp zS0 tX2_save none 0 [zr 9, zr 1] [] M h (fun v M' h' => v = none ∧ h' = h ∧ (∀ k, k < 9 ∨ 59 ≤ k → M' k = M k) ∧ HiRel M' (svK kn) (svP kn V P)) := by
  refine Wp.g1 rfl ?_
  rw [h1]
  refine Wp.brf rfl (by decide) ?_
  refine Wp.g1 rfl ?_
  rw [h1]
  refine Wp.brf rfl (by decide) ?_
  refine Wp.g1 rfl ?_
  refine Wp.ald rfl rfl 3 h1 (by decide) rfl ?_
  refine Wp.g1 rfl ?_
  refine Wp.ald rfl rfl 3 h1 (by decide) rfl ?_
  refine Wp.g1 rfl ?_
  refine Wp.call rfl (m_cpO_35_1 M h hR hb hc) (fun v M1 h1' q => ?_)
  obtain ⟨rfl, rfl, q1, -, -, q4⟩ := q
  have e9 : ∀ j, M1 9 j = M 9 j := fun j => by rw [q1 9 (by decide)]
  refine Wp.g1 rfl ?_
  rw [e9 1, h1]
  refine Wp.brt rfl (by decide) ?_
  refine Wp.g1 rfl ?_
  have e2 : min (w32 (upd2 M1 9 1 4 9 2 + 1)) 6 = ((svK kn : Nat) : Int) := by
    rw [upd2_off (by decide), e9 2, h2, w32_s (by omega)]
    unfold svK
    split <;> omega
  refine Wp.re rfl ⟨rfl, rfl, fun k g => ?_, ?_⟩
  · rw [upd2_ne (by omega), upd2_ne (by omega)]
    exact q1 k (by omega)
  · have kp : ∀ M2 : Me, (∀ k, k ≠ 9 → M2 k = M1 k) → M2 9 1 = ((4 : Nat) : Int) → M2 9 2 = ((svK kn : Nat) : Int) → HiRel M2 (svK kn) (svP kn V P) := by
      intro M2 hM2 hm1 hm2
      refine HiRel.of (nx' := 4) h5 (by decide) hm1 hm2 (by unfold svK; split <;> omega) (fun c hc' => ?_)
      by_cases e6 : kn = 6
      · have ek : svK kn = 6 := by unfold svK; rw [if_pos e6]
        rw [ek] at hc' ⊢
        by_cases e5 : c < 5
        · refine Or.inl ⟨c + 1, by omega, by unfold svP; rw [if_pos e6, if_pos e5], by omega, fun k g1 g2 => ?_⟩
          rw [hM2 k (by omega)]
          exact q1 k (by omega)
        · have ec : c = 5 := by omega
          subst ec
          have ep : svP kn V P 5 = V := by unfold svP; rw [if_pos e6, if_neg e5]
          rw [ep]
          exact Or.inr ⟨nb, nc, e10, e12, q4.kept (fun k g1 g2 => hM2 k (by omega))⟩
      · have ek : svK kn = kn + 1 := by unfold svK; rw [if_neg e6]
        rw [ek] at hc' ⊢
        by_cases e5 : c < kn
        · refine Or.inl ⟨c, by omega, by unfold svP; rw [if_neg e6, if_pos e5], by omega, fun k g1 g2 => ?_⟩
          rw [hM2 k (by omega)]
          exact q1 k (by omega)
        · have ec : c = kn := by omega
          subst ec
          have ep : svP c V P c = V := by unfold svP; rw [if_neg e6, if_neg e5]
          rw [ep]
          refine Or.inr ⟨nb, nc, e10, e12, ?_⟩
          rw [show 11 + 8 * ((4 + 6 - (c + 1) + c) % 6) = 35 by omega]
          exact q4.kept (fun k g1 g2 => hM2 k (by omega))
    refine kp _ (fun k g => by rw [upd2_ne g, upd2_ne g]) ?_ ?_
    · rw [upd2_off (by decide), upd2_at]; first | rfl | (rw [e9 1, h1]; decide)
    · rw [upd2_at]; exact e2

theorem m_save_4 {V : Nat → Int} {nb nc kn : Nat} {P : Nat → Nat → Int} (M : Me) (h : Ml) (hR : OfRel M 1 V nb nc) (hb : nb ≤ 12) (hc : nc ≤ 10) (e10 : V 10 = (nb : Int)) (e12 : V 12 = (nc : Int)) (h1 : M 9 1 = 4) (h2 : M 9 2 = (kn : Int)) (h3 : kn ≤ 6) (h5 : ∀ c, c < kn → ∃ nb nc : Nat, P c 10 = (nb : Int) ∧ P c 12 = (nc : Int) ∧ OfRel M (11 + 8 * ((4 + 6 - kn + c) % 6)) (P c) nb nc) :
    Wp zS0 tX2_save none 0 [zr 9, zr 1] [] M h (fun v M' h' => v = none ∧ h' = h ∧ (∀ k, k < 9 ∨ 59 ≤ k → M' k = M k) ∧ HiRel M' (svK kn) (svP kn V P)) := by
  refine Wp.g1 rfl ?_
  rw [h1]
  refine Wp.brf rfl (by decide) ?_
  refine Wp.g1 rfl ?_
  rw [h1]
  refine Wp.brf rfl (by decide) ?_
  refine Wp.g1 rfl ?_
  refine Wp.ald rfl rfl 4 h1 (by decide) rfl ?_
  refine Wp.g1 rfl ?_
  refine Wp.ald rfl rfl 4 h1 (by decide) rfl ?_
  refine Wp.g1 rfl ?_
  refine Wp.call rfl (m_cpO_43_1 M h hR hb hc) (fun v M1 h1' q => ?_)
  obtain ⟨rfl, rfl, q1, -, -, q4⟩ := q
  have e9 : ∀ j, M1 9 j = M 9 j := fun j => by rw [q1 9 (by decide)]
  refine Wp.g1 rfl ?_
  rw [e9 1, h1]
  refine Wp.brt rfl (by decide) ?_
  refine Wp.g1 rfl ?_
  have e2 : min (w32 (upd2 M1 9 1 5 9 2 + 1)) 6 = ((svK kn : Nat) : Int) := by
    rw [upd2_off (by decide), e9 2, h2, w32_s (by omega)]
    unfold svK
    split <;> omega
  refine Wp.re rfl ⟨rfl, rfl, fun k g => ?_, ?_⟩
  · rw [upd2_ne (by omega), upd2_ne (by omega)]
    exact q1 k (by omega)
  · have kp : ∀ M2 : Me, (∀ k, k ≠ 9 → M2 k = M1 k) → M2 9 1 = ((5 : Nat) : Int) → M2 9 2 = ((svK kn : Nat) : Int) → HiRel M2 (svK kn) (svP kn V P) := by
      intro M2 hM2 hm1 hm2
      refine HiRel.of (nx' := 5) h5 (by decide) hm1 hm2 (by unfold svK; split <;> omega) (fun c hc' => ?_)
      by_cases e6 : kn = 6
      · have ek : svK kn = 6 := by unfold svK; rw [if_pos e6]
        rw [ek] at hc' ⊢
        by_cases e5 : c < 5
        · refine Or.inl ⟨c + 1, by omega, by unfold svP; rw [if_pos e6, if_pos e5], by omega, fun k g1 g2 => ?_⟩
          rw [hM2 k (by omega)]
          exact q1 k (by omega)
        · have ec : c = 5 := by omega
          subst ec
          have ep : svP kn V P 5 = V := by unfold svP; rw [if_pos e6, if_neg e5]
          rw [ep]
          exact Or.inr ⟨nb, nc, e10, e12, q4.kept (fun k g1 g2 => hM2 k (by omega))⟩
      · have ek : svK kn = kn + 1 := by unfold svK; rw [if_neg e6]
        rw [ek] at hc' ⊢
        by_cases e5 : c < kn
        · refine Or.inl ⟨c, by omega, by unfold svP; rw [if_neg e6, if_pos e5], by omega, fun k g1 g2 => ?_⟩
          rw [hM2 k (by omega)]
          exact q1 k (by omega)
        · have ec : c = kn := by omega
          subst ec
          have ep : svP c V P c = V := by unfold svP; rw [if_neg e6, if_neg e5]
          rw [ep]
          refine Or.inr ⟨nb, nc, e10, e12, ?_⟩
          rw [show 11 + 8 * ((5 + 6 - (c + 1) + c) % 6) = 43 by omega]
          exact q4.kept (fun k g1 g2 => hM2 k (by omega))
    refine kp _ (fun k g => by rw [upd2_ne g, upd2_ne g]) ?_ ?_
    · rw [upd2_off (by decide), upd2_at]; first | rfl | (rw [e9 1, h1]; decide)
    · rw [upd2_at]; exact e2

theorem m_save_5 {V : Nat → Int} {nb nc kn : Nat} {P : Nat → Nat → Int} (M : Me) (h : Ml) (hR : OfRel M 1 V nb nc) (hb : nb ≤ 12) (hc : nc ≤ 10) (e10 : V 10 = (nb : Int)) (e12 : V 12 = (nc : Int)) (h1 : M 9 1 = 5) (h2 : M 9 2 = (kn : Int)) (h3 : kn ≤ 6) (h5 : ∀ c, c < kn → ∃ nb nc : Nat, P c 10 = (nb : Int) ∧ P c 12 = (nc : Int) ∧ OfRel M (11 + 8 * ((5 + 6 - kn + c) % 6)) (P c) nb nc) :
    Wp zS0 tX2_save none 0 [zr 9, zr 1] [] M h (fun v M' h' => v = none ∧ h' = h ∧ (∀ k, k < 9 ∨ 59 ≤ k → M' k = M k) ∧ HiRel M' (svK kn) (svP kn V P)) := by
  refine Wp.g1 rfl ?_
  rw [h1]
  refine Wp.brf rfl (by decide) ?_
  refine Wp.g1 rfl ?_
  rw [h1]
  refine Wp.brf rfl (by decide) ?_
  refine Wp.g1 rfl ?_
  refine Wp.ald rfl rfl 5 h1 (by decide) rfl ?_
  refine Wp.g1 rfl ?_
  refine Wp.ald rfl rfl 5 h1 (by decide) rfl ?_
  refine Wp.g1 rfl ?_
  refine Wp.call rfl (m_cpO_51_1 M h hR hb hc) (fun v M1 h1' q => ?_)
  obtain ⟨rfl, rfl, q1, -, -, q4⟩ := q
  have e9 : ∀ j, M1 9 j = M 9 j := fun j => by rw [q1 9 (by decide)]
  refine Wp.g1 rfl ?_
  rw [e9 1, h1]
  refine Wp.brf rfl (by decide) ?_
  refine Wp.g1 rfl ?_
  have e2 : min (w32 (upd2 M1 9 1 0 9 2 + 1)) 6 = ((svK kn : Nat) : Int) := by
    rw [upd2_off (by decide), e9 2, h2, w32_s (by omega)]
    unfold svK
    split <;> omega
  refine Wp.re rfl ⟨rfl, rfl, fun k g => ?_, ?_⟩
  · rw [upd2_ne (by omega), upd2_ne (by omega)]
    exact q1 k (by omega)
  · have kp : ∀ M2 : Me, (∀ k, k ≠ 9 → M2 k = M1 k) → M2 9 1 = ((0 : Nat) : Int) → M2 9 2 = ((svK kn : Nat) : Int) → HiRel M2 (svK kn) (svP kn V P) := by
      intro M2 hM2 hm1 hm2
      refine HiRel.of (nx' := 0) h5 (by decide) hm1 hm2 (by unfold svK; split <;> omega) (fun c hc' => ?_)
      by_cases e6 : kn = 6
      · have ek : svK kn = 6 := by unfold svK; rw [if_pos e6]
        rw [ek] at hc' ⊢
        by_cases e5 : c < 5
        · refine Or.inl ⟨c + 1, by omega, by unfold svP; rw [if_pos e6, if_pos e5], by omega, fun k g1 g2 => ?_⟩
          rw [hM2 k (by omega)]
          exact q1 k (by omega)
        · have ec : c = 5 := by omega
          subst ec
          have ep : svP kn V P 5 = V := by unfold svP; rw [if_pos e6, if_neg e5]
          rw [ep]
          exact Or.inr ⟨nb, nc, e10, e12, q4.kept (fun k g1 g2 => hM2 k (by omega))⟩
      · have ek : svK kn = kn + 1 := by unfold svK; rw [if_neg e6]
        rw [ek] at hc' ⊢
        by_cases e5 : c < kn
        · refine Or.inl ⟨c, by omega, by unfold svP; rw [if_neg e6, if_pos e5], by omega, fun k g1 g2 => ?_⟩
          rw [hM2 k (by omega)]
          exact q1 k (by omega)
        · have ec : c = kn := by omega
          subst ec
          have ep : svP c V P c = V := by unfold svP; rw [if_neg e6, if_neg e5]
          rw [ep]
          refine Or.inr ⟨nb, nc, e10, e12, ?_⟩
          rw [show 11 + 8 * ((0 + 6 - (c + 1) + c) % 6) = 51 by omega]
          exact q4.kept (fun k g1 g2 => hM2 k (by omega))
    refine kp _ (fun k g => by rw [upd2_ne g, upd2_ne g]) ?_ ?_
    · rw [upd2_off (by decide), upd2_at]; first | rfl | (rw [e9 1, h1]; decide)
    · rw [upd2_at]; exact e2

theorem m_restore_0 {kn : Nat} {P : Nat → Nat → Int} (M : Me) (h : Ml) (h1 : M 9 1 = 0) (h2 : M 9 2 = (kn : Int)) (h3 : kn ≤ 6) (h0 : 0 < kn) (h5 : ∀ c, c < kn → ∃ nb nc : Nat, P c 10 = (nb : Int) ∧ P c 12 = (nc : Int) ∧ OfRel M (11 + 8 * ((0 + 6 - kn + c) % 6)) (P c) nb nc) (nb nc : Nat) (e10 : P (kn - 1) 10 = (nb : Int)) (e12 : P (kn - 1) 12 = (nc : Int)) (hb : nb ≤ 12) (hc : nc ≤ 10) :
    Wp zS0 tX2_restore none 0 [zr 9, zr 1, zn] [] M h (fun v M' h' => v = none ∧ h' = h ∧ (∀ k, 59 ≤ k → M' k = M k) ∧ M' 2 0 = M 2 0 ∧ M' 5 0 = M 5 0 ∧ OfRel M' 1 (P (kn - 1)) nb nc ∧ HiRel M' (kn - 1) P) := by
  have hR : OfRel M 51 (P (kn - 1)) nb nc := by
    obtain ⟨nb', nc', f1, f2, f3⟩ := h5 (kn - 1) (by omega)
    rw [show 11 + 8 * ((0 + 6 - kn + (kn - 1)) % 6) = 51 by omega] at f3
    have a1 : nb' = nb := by omega
    have a2 : nc' = nc := by omega
    rw [a1, a2] at f3
    exact f3
  refine Wp.g1 rfl ?_
  rw [h1]
  refine Wp.brf rfl (by decide) ?_
  refine Wp.g1 rfl ?_
  rw [h2]
  refine Wp.brf rfl (by omega) ?_
  refine Wp.g1 rfl ?_
  refine Wp.brf rfl (by decide) ?_
  refine Wp.g1 rfl ?_
  refine Wp.brf rfl (by decide) ?_
  refine Wp.g1 rfl ?_
  refine Wp.ald rfl rfl 5 (by decide) (by decide) rfl ?_
  refine Wp.g1 rfl ?_
  refine Wp.ald rfl rfl 5 (by decide) (by decide) rfl ?_
  refine Wp.call rfl (m_cpO_1_51 M h hR hb hc) (fun v M1 h1' q => ?_)
  obtain ⟨rfl, rfl, q1, q2, q3, q4⟩ := q
  have e9 : ∀ j, M1 9 j = M 9 j := fun j => by rw [q1 9 (by decide)]
  refine Wp.g1 rfl ?_
  have kp : ∀ M2 : Me, (∀ k, k ≠ 9 → M2 k = M1 k) → M2 9 1 = ((5 : Nat) : Int) → M2 9 2 = ((kn - 1 : Nat) : Int) → HiRel M2 (kn - 1) P := by
    intro M2 hM2 hm1 hm2
    refine HiRel.of (nx' := 5) h5 (by decide) hm1 hm2 (by omega) (fun c hc' => Or.inl ⟨c, by omega, rfl, by omega, fun k g1 g2 => ?_⟩)
    rw [hM2 k (by omega)]
    exact q1 k (by omega)
  refine Wp.re rfl ⟨rfl, rfl, fun k g => ?_, ?_, ?_, ?_, kp _ (fun k g => by rw [upd2_ne g, upd2_ne g]) ?_ ?_⟩
  · rw [upd2_ne (by omega), upd2_ne (by omega)]
    exact q1 k (by omega)
  · rw [upd2_ne (by decide), upd2_ne (by decide)]; exact q2
  · rw [upd2_ne (by decide), upd2_ne (by decide)]; exact q3
  · exact q4.kept (fun k g1 g2 => by rw [upd2_ne (by omega), upd2_ne (by omega)])
  · rw [upd2_off (by decide), upd2_at]; rfl
  · rw [upd2_at, upd2_off (by decide), e9 2, h2, w32_id (x := (kn : Int) - 1) ⟨by omega, by omega⟩]
    omega

theorem m_restore_1 {kn : Nat} {P : Nat → Nat → Int} (M : Me) (h : Ml) (h1 : M 9 1 = 1) (h2 : M 9 2 = (kn : Int)) (h3 : kn ≤ 6) (h0 : 0 < kn) (h5 : ∀ c, c < kn → ∃ nb nc : Nat, P c 10 = (nb : Int) ∧ P c 12 = (nc : Int) ∧ OfRel M (11 + 8 * ((1 + 6 - kn + c) % 6)) (P c) nb nc) (nb nc : Nat) (e10 : P (kn - 1) 10 = (nb : Int)) (e12 : P (kn - 1) 12 = (nc : Int)) (hb : nb ≤ 12) (hc : nc ≤ 10) :
    Wp zS0 tX2_restore none 0 [zr 9, zr 1, zn] [] M h (fun v M' h' => v = none ∧ h' = h ∧ (∀ k, 59 ≤ k → M' k = M k) ∧ M' 2 0 = M 2 0 ∧ M' 5 0 = M 5 0 ∧ OfRel M' 1 (P (kn - 1)) nb nc ∧ HiRel M' (kn - 1) P) := by
  have hR : OfRel M 11 (P (kn - 1)) nb nc := by
    obtain ⟨nb', nc', f1, f2, f3⟩ := h5 (kn - 1) (by omega)
    rw [show 11 + 8 * ((1 + 6 - kn + (kn - 1)) % 6) = 11 by omega] at f3
    have a1 : nb' = nb := by omega
    have a2 : nc' = nc := by omega
    rw [a1, a2] at f3
    exact f3
  refine Wp.g1 rfl ?_
  rw [h1]
  refine Wp.brt rfl (by decide) ?_
  refine Wp.g1 rfl ?_
  rw [h1, h2]
  refine Wp.brf rfl (by omega) ?_
  refine Wp.g1 rfl ?_
  refine Wp.brf rfl (by decide) ?_
  refine Wp.g1 rfl ?_
  refine Wp.brf rfl (by decide) ?_
  refine Wp.g1 rfl ?_
  refine Wp.ald rfl rfl 0 (by decide) (by decide) rfl ?_
  refine Wp.g1 rfl ?_
  refine Wp.ald rfl rfl 0 (by decide) (by decide) rfl ?_
  refine Wp.call rfl (m_cpO_1_11 M h hR hb hc) (fun v M1 h1' q => ?_)
  obtain ⟨rfl, rfl, q1, q2, q3, q4⟩ := q
  have e9 : ∀ j, M1 9 j = M 9 j := fun j => by rw [q1 9 (by decide)]
  refine Wp.g1 rfl ?_
  have kp : ∀ M2 : Me, (∀ k, k ≠ 9 → M2 k = M1 k) → M2 9 1 = ((0 : Nat) : Int) → M2 9 2 = ((kn - 1 : Nat) : Int) → HiRel M2 (kn - 1) P := by
    intro M2 hM2 hm1 hm2
    refine HiRel.of (nx' := 0) h5 (by decide) hm1 hm2 (by omega) (fun c hc' => Or.inl ⟨c, by omega, rfl, by omega, fun k g1 g2 => ?_⟩)
    rw [hM2 k (by omega)]
    exact q1 k (by omega)
  refine Wp.re rfl ⟨rfl, rfl, fun k g => ?_, ?_, ?_, ?_, kp _ (fun k g => by rw [upd2_ne g, upd2_ne g]) ?_ ?_⟩
  · rw [upd2_ne (by omega), upd2_ne (by omega)]
    exact q1 k (by omega)
  · rw [upd2_ne (by decide), upd2_ne (by decide)]; exact q2
  · rw [upd2_ne (by decide), upd2_ne (by decide)]; exact q3
  · exact q4.kept (fun k g1 g2 => by rw [upd2_ne (by omega), upd2_ne (by omega)])
  · rw [upd2_off (by decide), upd2_at]; rfl
  · rw [upd2_at, upd2_off (by decide), e9 2, h2, w32_id (x := (kn : Int) - 1) ⟨by omega, by omega⟩]
    omega

theorem m_restore_2 {kn : Nat} {P : Nat → Nat → Int} (M : Me) (h : Ml) (h1 : M 9 1 = 2) (h2 : M 9 2 = (kn : Int)) (h3 : kn ≤ 6) (h0 : 0 < kn) (h5 : ∀ c, c < kn → ∃ nb nc : Nat, P c 10 = (nb : Int) ∧ P c 12 = (nc : Int) ∧ OfRel M (11 + 8 * ((2 + 6 - kn + c) % 6)) (P c) nb nc) (nb nc : Nat) (e10 : P (kn - 1) 10 = (nb : Int)) (e12 : P (kn - 1) 12 = (nc : Int)) (hb : nb ≤ 12) (hc : nc ≤ 10) :
    Wp zS0 tX2_restore none 0 [zr 9, zr 1, zn] [] M h (fun v M' h' => v = none ∧ h' = h ∧ (∀ k, 59 ≤ k → M' k = M k) ∧ M' 2 0 = M 2 0 ∧ M' 5 0 = M 5 0 ∧ OfRel M' 1 (P (kn - 1)) nb nc ∧ HiRel M' (kn - 1) P) := by
  have hR : OfRel M 19 (P (kn - 1)) nb nc := by
    obtain ⟨nb', nc', f1, f2, f3⟩ := h5 (kn - 1) (by omega)
    rw [show 11 + 8 * ((2 + 6 - kn + (kn - 1)) % 6) = 19 by omega] at f3
    have a1 : nb' = nb := by omega
    have a2 : nc' = nc := by omega
    rw [a1, a2] at f3
    exact f3
  refine Wp.g1 rfl ?_
  rw [h1]
  refine Wp.brt rfl (by decide) ?_
  refine Wp.g1 rfl ?_
  rw [h1, h2]
  refine Wp.brf rfl (by omega) ?_
  refine Wp.g1 rfl ?_
  refine Wp.brf rfl (by decide) ?_
  refine Wp.g1 rfl ?_
  refine Wp.brf rfl (by decide) ?_
  refine Wp.g1 rfl ?_
  refine Wp.ald rfl rfl 1 (by decide) (by decide) rfl ?_
  refine Wp.g1 rfl ?_
  refine Wp.ald rfl rfl 1 (by decide) (by decide) rfl ?_
  refine Wp.call rfl (m_cpO_1_19 M h hR hb hc) (fun v M1 h1' q => ?_)
  obtain ⟨rfl, rfl, q1, q2, q3, q4⟩ := q
  have e9 : ∀ j, M1 9 j = M 9 j := fun j => by rw [q1 9 (by decide)]
  refine Wp.g1 rfl ?_
  have kp : ∀ M2 : Me, (∀ k, k ≠ 9 → M2 k = M1 k) → M2 9 1 = ((1 : Nat) : Int) → M2 9 2 = ((kn - 1 : Nat) : Int) → HiRel M2 (kn - 1) P := by
    intro M2 hM2 hm1 hm2
    refine HiRel.of (nx' := 1) h5 (by decide) hm1 hm2 (by omega) (fun c hc' => Or.inl ⟨c, by omega, rfl, by omega, fun k g1 g2 => ?_⟩)
    rw [hM2 k (by omega)]
    exact q1 k (by omega)
  refine Wp.re rfl ⟨rfl, rfl, fun k g => ?_, ?_, ?_, ?_, kp _ (fun k g => by rw [upd2_ne g, upd2_ne g]) ?_ ?_⟩
  · rw [upd2_ne (by omega), upd2_ne (by omega)]
    exact q1 k (by omega)
  · rw [upd2_ne (by decide), upd2_ne (by decide)]; exact q2
  · rw [upd2_ne (by decide), upd2_ne (by decide)]; exact q3
  · exact q4.kept (fun k g1 g2 => by rw [upd2_ne (by omega), upd2_ne (by omega)])
  · rw [upd2_off (by decide), upd2_at]; rfl
  · rw [upd2_at, upd2_off (by decide), e9 2, h2, w32_id (x := (kn : Int) - 1) ⟨by omega, by omega⟩]
    omega

theorem m_restore_3 {kn : Nat} {P : Nat → Nat → Int} (M : Me) (h : Ml) (h1 : M 9 1 = 3) (h2 : M 9 2 = (kn : Int)) (h3 : kn ≤ 6) (h0 : 0 < kn) (h5 : ∀ c, c < kn → ∃ nb nc : Nat, P c 10 = (nb : Int) ∧ P c 12 = (nc : Int) ∧ OfRel M (11 + 8 * ((3 + 6 - kn + c) % 6)) (P c) nb nc) (nb nc : Nat) (e10 : P (kn - 1) 10 = (nb : Int)) (e12 : P (kn - 1) 12 = (nc : Int)) (hb : nb ≤ 12) (hc : nc ≤ 10) :
    Wp zS0 tX2_restore none 0 [zr 9, zr 1, zn] [] M h (fun v M' h' => v = none ∧ h' = h ∧ (∀ k, 59 ≤ k → M' k = M k) ∧ M' 2 0 = M 2 0 ∧ M' 5 0 = M 5 0 ∧ OfRel M' 1 (P (kn - 1)) nb nc ∧ HiRel M' (kn - 1) P) := by
  have hR : OfRel M 27 (P (kn - 1)) nb nc := by
    obtain ⟨nb', nc', f1, f2, f3⟩ := h5 (kn - 1) (by omega)
    rw [show 11 + 8 * ((3 + 6 - kn + (kn - 1)) % 6) = 27 by omega] at f3
    have a1 : nb' = nb := by omega
    have a2 : nc' = nc := by omega
    rw [a1, a2] at f3
    exact f3
  refine Wp.g1 rfl ?_
  rw [h1]
  refine Wp.brt rfl (by decide) ?_
  refine Wp.g1 rfl ?_
  rw [h1, h2]
  refine Wp.brf rfl (by omega) ?_
  refine Wp.g1 rfl ?_
  refine Wp.brf rfl (by decide) ?_
  refine Wp.g1 rfl ?_
  refine Wp.brf rfl (by decide) ?_
  refine Wp.g1 rfl ?_
  refine Wp.ald rfl rfl 2 (by decide) (by decide) rfl ?_
  refine Wp.g1 rfl ?_
  refine Wp.ald rfl rfl 2 (by decide) (by decide) rfl ?_
  refine Wp.call rfl (m_cpO_1_27 M h hR hb hc) (fun v M1 h1' q => ?_)
  obtain ⟨rfl, rfl, q1, q2, q3, q4⟩ := q
  have e9 : ∀ j, M1 9 j = M 9 j := fun j => by rw [q1 9 (by decide)]
  refine Wp.g1 rfl ?_
  have kp : ∀ M2 : Me, (∀ k, k ≠ 9 → M2 k = M1 k) → M2 9 1 = ((2 : Nat) : Int) → M2 9 2 = ((kn - 1 : Nat) : Int) → HiRel M2 (kn - 1) P := by
    intro M2 hM2 hm1 hm2
    refine HiRel.of (nx' := 2) h5 (by decide) hm1 hm2 (by omega) (fun c hc' => Or.inl ⟨c, by omega, rfl, by omega, fun k g1 g2 => ?_⟩)
    rw [hM2 k (by omega)]
    exact q1 k (by omega)
  refine Wp.re rfl ⟨rfl, rfl, fun k g => ?_, ?_, ?_, ?_, kp _ (fun k g => by rw [upd2_ne g, upd2_ne g]) ?_ ?_⟩
  · rw [upd2_ne (by omega), upd2_ne (by omega)]
    exact q1 k (by omega)
  · rw [upd2_ne (by decide), upd2_ne (by decide)]; exact q2
  · rw [upd2_ne (by decide), upd2_ne (by decide)]; exact q3
  · exact q4.kept (fun k g1 g2 => by rw [upd2_ne (by omega), upd2_ne (by omega)])
  · rw [upd2_off (by decide), upd2_at]; rfl
  · rw [upd2_at, upd2_off (by decide), e9 2, h2, w32_id (x := (kn : Int) - 1) ⟨by omega, by omega⟩]
    omega

theorem m_restore_4 {kn : Nat} {P : Nat → Nat → Int} (M : Me) (h : Ml) (h1 : M 9 1 = 4) (h2 : M 9 2 = (kn : Int)) (h3 : kn ≤ 6) (h0 : 0 < kn) (h5 : ∀ c, c < kn → ∃ nb nc : Nat, P c 10 = (nb : Int) ∧ P c 12 = (nc : Int) ∧ OfRel M (11 + 8 * ((4 + 6 - kn + c) % 6)) (P c) nb nc) (nb nc : Nat) (e10 : P (kn - 1) 10 = (nb : Int)) (e12 : P (kn - 1) 12 = (nc : Int)) (hb : nb ≤ 12) (hc : nc ≤ 10) :
    Wp zS0 tX2_restore none 0 [zr 9, zr 1, zn] [] M h (fun v M' h' => v = none ∧ h' = h ∧ (∀ k, 59 ≤ k → M' k = M k) ∧ M' 2 0 = M 2 0 ∧ M' 5 0 = M 5 0 ∧ OfRel M' 1 (P (kn - 1)) nb nc ∧ HiRel M' (kn - 1) P) := by
  have hR : OfRel M 35 (P (kn - 1)) nb nc := by
    obtain ⟨nb', nc', f1, f2, f3⟩ := h5 (kn - 1) (by omega)
    rw [show 11 + 8 * ((4 + 6 - kn + (kn - 1)) % 6) = 35 by omega] at f3
    have a1 : nb' = nb := by omega
    have a2 : nc' = nc := by omega
    rw [a1, a2] at f3
    exact f3
  refine Wp.g1 rfl ?_
  rw [h1]
  refine Wp.brt rfl (by decide) ?_
  refine Wp.g1 rfl ?_
  rw [h1, h2]
  refine Wp.brf rfl (by omega) ?_
  refine Wp.g1 rfl ?_
  refine Wp.brf rfl (by decide) ?_
  refine Wp.g1 rfl ?_
  refine Wp.brf rfl (by decide) ?_
  refine Wp.g1 rfl ?_
  refine Wp.ald rfl rfl 3 (by decide) (by decide) rfl ?_
  refine Wp.g1 rfl ?_
  refine Wp.ald rfl rfl 3 (by decide) (by decide) rfl ?_
  refine Wp.call rfl (m_cpO_1_35 M h hR hb hc) (fun v M1 h1' q => ?_)
  obtain ⟨rfl, rfl, q1, q2, q3, q4⟩ := q
  have e9 : ∀ j, M1 9 j = M 9 j := fun j => by rw [q1 9 (by decide)]
  refine Wp.g1 rfl ?_
  have kp : ∀ M2 : Me, (∀ k, k ≠ 9 → M2 k = M1 k) → M2 9 1 = ((3 : Nat) : Int) → M2 9 2 = ((kn - 1 : Nat) : Int) → HiRel M2 (kn - 1) P := by
    intro M2 hM2 hm1 hm2
    refine HiRel.of (nx' := 3) h5 (by decide) hm1 hm2 (by omega) (fun c hc' => Or.inl ⟨c, by omega, rfl, by omega, fun k g1 g2 => ?_⟩)
    rw [hM2 k (by omega)]
    exact q1 k (by omega)
  refine Wp.re rfl ⟨rfl, rfl, fun k g => ?_, ?_, ?_, ?_, kp _ (fun k g => by rw [upd2_ne g, upd2_ne g]) ?_ ?_⟩
  · rw [upd2_ne (by omega), upd2_ne (by omega)]
    exact q1 k (by omega)
  · rw [upd2_ne (by decide), upd2_ne (by decide)]; exact q2
  · rw [upd2_ne (by decide), upd2_ne (by decide)]; exact q3
  · exact q4.kept (fun k g1 g2 => by rw [upd2_ne (by omega), upd2_ne (by omega)])
  · rw [upd2_off (by decide), upd2_at]; rfl
  · rw [upd2_at, upd2_off (by decide), e9 2, h2, w32_id (x := (kn : Int) - 1) ⟨by omega, by omega⟩]
    omega

theorem m_restore_5 {kn : Nat} {P : Nat → Nat → Int} (M : Me) (h : Ml) (h1 : M 9 1 = 5) (h2 : M 9 2 = (kn : Int)) (h3 : kn ≤ 6) (h0 : 0 < kn) (h5 : ∀ c, c < kn → ∃ nb nc : Nat, P c 10 = (nb : Int) ∧ P c 12 = (nc : Int) ∧ OfRel M (11 + 8 * ((5 + 6 - kn + c) % 6)) (P c) nb nc) (nb nc : Nat) (e10 : P (kn - 1) 10 = (nb : Int)) (e12 : P (kn - 1) 12 = (nc : Int)) (hb : nb ≤ 12) (hc : nc ≤ 10) :
    Wp zS0 tX2_restore none 0 [zr 9, zr 1, zn] [] M h (fun v M' h' => v = none ∧ h' = h ∧ (∀ k, 59 ≤ k → M' k = M k) ∧ M' 2 0 = M 2 0 ∧ M' 5 0 = M 5 0 ∧ OfRel M' 1 (P (kn - 1)) nb nc ∧ HiRel M' (kn - 1) P) := by
  have hR : OfRel M 43 (P (kn - 1)) nb nc := by
    obtain ⟨nb', nc', f1, f2, f3⟩ := h5 (kn - 1) (by omega)
    rw [show 11 + 8 * ((5 + 6 - kn + (kn - 1)) % 6) = 43 by omega] at f3
    have a1 : nb' = nb := by omega
    have a2 : nc' = nc := by omega
    rw [a1, a2] at f3
    exact f3
  refine Wp.g1 rfl ?_
  rw [h1]
  refine Wp.brt rfl (by decide) ?_
  refine Wp.g1 rfl ?_
  rw [h1, h2]
  refine Wp.brf rfl (by omega) ?_
  refine Wp.g1 rfl ?_
  refine Wp.brf rfl (by decide) ?_
  refine Wp.g1 rfl ?_
  refine Wp.brf rfl (by decide) ?_
  refine Wp.g1 rfl ?_
  refine Wp.ald rfl rfl 4 (by decide) (by decide) rfl ?_
  refine Wp.g1 rfl ?_
  refine Wp.ald rfl rfl 4 (by decide) (by decide) rfl ?_
  refine Wp.call rfl (m_cpO_1_43 M h hR hb hc) (fun v M1 h1' q => ?_)
  obtain ⟨rfl, rfl, q1, q2, q3, q4⟩ := q
  have e9 : ∀ j, M1 9 j = M 9 j := fun j => by rw [q1 9 (by decide)]
  refine Wp.g1 rfl ?_
  have kp : ∀ M2 : Me, (∀ k, k ≠ 9 → M2 k = M1 k) → M2 9 1 = ((4 : Nat) : Int) → M2 9 2 = ((kn - 1 : Nat) : Int) → HiRel M2 (kn - 1) P := by
    intro M2 hM2 hm1 hm2
    refine HiRel.of (nx' := 4) h5 (by decide) hm1 hm2 (by omega) (fun c hc' => Or.inl ⟨c, by omega, rfl, by omega, fun k g1 g2 => ?_⟩)
    rw [hM2 k (by omega)]
    exact q1 k (by omega)
  refine Wp.re rfl ⟨rfl, rfl, fun k g => ?_, ?_, ?_, ?_, kp _ (fun k g => by rw [upd2_ne g, upd2_ne g]) ?_ ?_⟩
  · rw [upd2_ne (by omega), upd2_ne (by omega)]
    exact q1 k (by omega)
  · rw [upd2_ne (by decide), upd2_ne (by decide)]; exact q2
  · rw [upd2_ne (by decide), upd2_ne (by decide)]; exact q3
  · exact q4.kept (fun k g1 g2 => by rw [upd2_ne (by omega), upd2_ne (by omega)])
  · rw [upd2_off (by decide), upd2_at]; rfl
  · rw [upd2_at, upd2_off (by decide), e9 2, h2, w32_id (x := (kn : Int) - 1) ⟨by omega, by omega⟩]
    omega

/-- what the two leave of the object -/
theorem c_save {V : Nat → Int} {nb nc kn : Nat} {P : Nat → Nat → Int} {len : Nat} {tx : Nat → Int} {p0 p1 p2 : Int} {M : Me} {h : Ml} {t : Nat} (hC : CRel M V nb nc kn P len tx p0 p1 p2) (hW : WF V nb nc t) :
    Wp zS0 tX2_save none 0 [zr 9, zr 1] [] M h (fun v M' h' => v = none ∧ h' = h ∧ (∀ k, 74 ≤ k → M' k = M k) ∧ CRel M' V nb nc (svK kn) (svP kn V P) len tx p0 p1 p2) := by
  obtain ⟨hR, hw, ⟨nx, g1, g2, g3, g4, g5⟩, ht, hp⟩ := hC
  have fin : ∀ (v : Option ZV) (M' : Me) (h' : Ml), (v = none ∧ h' = h ∧ (∀ k, k < 9 ∨ 59 ≤ k → M' k = M k) ∧ HiRel M' (svK kn) (svP kn V P)) → (v = none ∧ h' = h ∧ (∀ k, 74 ≤ k → M' k = M k) ∧ CRel M' V nb nc (svK kn) (svP kn V P) len tx p0 p1 p2) := by
    intro v M' h' q
    obtain ⟨q1, q2, q3, q4⟩ := q
    refine ⟨q1, q2, fun k g => q3 k (by omega), hR.kept (fun k _ g => q3 k (by omega)), ?_, q4, ?_, ?_⟩
    · rw [q3 2 (by omega), q3 5 (by omega)]; exact hw
    · rw [q3 59 (by omega), q3 60 (by omega)]; exact ht
    · rw [q3 71 (by omega)]; exact hp
  obtain ⟨e10, e12, hb, hc⟩ := hW.1
  rcases (show nx = 0 ∨ nx = 1 ∨ nx = 2 ∨ nx = 3 ∨ nx = 4 ∨ nx = 5 by omega) with e | e | e | e | e | e <;> subst e
  · exact (m_save_0 M h hR hb hc e10 e12 g2 g3 g4 g5).imp fin
  · exact (m_save_1 M h hR hb hc e10 e12 g2 g3 g4 g5).imp fin
  · exact (m_save_2 M h hR hb hc e10 e12 g2 g3 g4 g5).imp fin
  · exact (m_save_3 M h hR hb hc e10 e12 g2 g3 g4 g5).imp fin
  · exact (m_save_4 M h hR hb hc e10 e12 g2 g3 g4 g5).imp fin
  · exact (m_save_5 M h hR hb hc e10 e12 g2 g3 g4 g5).imp fin
theorem c_restore {V : Nat → Int} {nb nc kn : Nat} {P : Nat → Nat → Int} {len : Nat} {tx : Nat → Int} {p0 p1 p2 : Int} {M : Me} {h : Ml} {t nb' nc' : Nat} (hC : CRel M V nb nc kn P len tx p0 p1 p2) (h0 : 0 < kn) (hW : WF (P (kn - 1)) nb' nc' t) :
    Wp zS0 tX2_restore none 0 [zr 9, zr 1, zn] [] M h (fun v M' h' => v = none ∧ h' = h ∧ (∀ k, 74 ≤ k → M' k = M k) ∧ CRel M' (P (kn - 1)) nb' nc' (kn - 1) P len tx p0 p1 p2) := by
  obtain ⟨hR, hw, ⟨nx, g1, g2, g3, g4, g5⟩, ht, hp⟩ := hC
  have fin : ∀ (v : Option ZV) (M' : Me) (h' : Ml), (v = none ∧ h' = h ∧ (∀ k, 59 ≤ k → M' k = M k) ∧ M' 2 0 = M 2 0 ∧ M' 5 0 = M 5 0 ∧ OfRel M' 1 (P (kn - 1)) nb' nc' ∧ HiRel M' (kn - 1) P) → (v = none ∧ h' = h ∧ (∀ k, 74 ≤ k → M' k = M k) ∧ CRel M' (P (kn - 1)) nb' nc' (kn - 1) P len tx p0 p1 p2) := by
    intro v M' h' q
    obtain ⟨q1, q2, q3, q5, q6, q7, q8⟩ := q
    refine ⟨q1, q2, fun k g => q3 k (by omega), q7, ?_, q8, ?_, ?_⟩
    · rw [q5, q6]; exact hw
    · rw [q3 59 (by omega), q3 60 (by omega)]; exact ht
    · rw [q3 71 (by omega)]; exact hp
  obtain ⟨e10, e12, hb, hc⟩ := hW.1
  rcases (show nx = 0 ∨ nx = 1 ∨ nx = 2 ∨ nx = 3 ∨ nx = 4 ∨ nx = 5 by omega) with e | e | e | e | e | e <;> subst e
  · exact (m_restore_0 M h g2 g3 g4 h0 g5 nb' nc' e10 e12 hb hc).imp fin
  · exact (m_restore_1 M h g2 g3 g4 h0 g5 nb' nc' e10 e12 hb hc).imp fin
  · exact (m_restore_2 M h g2 g3 g4 h0 g5 nb' nc' e10 e12 hb hc).imp fin
  · exact (m_restore_3 M h g2 g3 g4 h0 g5 nb' nc' e10 e12 hb hc).imp fin
  · exact (m_restore_4 M h g2 g3 g4 h0 g5 nb' nc' e10 e12 hb hc).imp fin
  · exact (m_restore_5 M h g2 g3 g4 h0 g5 nb' nc' e10 e12 hb hc).imp fin
end
section
/-! the whole state, and the calls that change a setting -/
abbrev At : Type := ((Nat → Int) × Nat × Nat) × (Nat × (Nat → Nat → Int)) × (Nat × (Nat → Int)) × (Int × Int × Int)
abbrev At.V (a : At) : Nat → Int := a.1.1
abbrev At.nb (a : At) : Nat := a.1.2.1
abbrev At.nc (a : At) : Nat := a.1.2.2
abbrev At.kn (a : At) : Nat := a.2.1.1
abbrev At.P (a : At) : Nat → Nat → Int := a.2.1.2
abbrev At.len (a : At) : Nat := a.2.2.1.1
abbrev At.tx (a : At) : Nat → Int := a.2.2.1.2
abbrev At.p0 (a : At) : Int := a.2.2.2.1
abbrev At.p1 (a : At) : Int := a.2.2.2.2.1
abbrev At.p2 (a : At) : Int := a.2.2.2.2.2
def CR (M : Me) (a : At) : Prop := CRel M a.V a.nb a.nc a.kn a.P a.len a.tx a.p0 a.p1 a.p2
def MR (M : Me) (a : At) : Prop := MRel M a.V a.kn a.P a.len a.tx a.p0 a.p1 a.p2
def SO (a : At) (t : Nat) : Prop := SOK a.V a.nb a.nc a.kn a.P a.len a.tx t
abbrev Cs (x : Int × At) (M : Me) (h : Ml) : Option ZV → Me → Ml → Prop := fun v M' h' => v = some (zi x.1) ∧ h' = h ∧ (∀ k, 74 ≤ k → M' k = M k) ∧ CR M' x.2
def sv (a : At) : At := (a.1, (svK a.kn, svP a.kn a.V a.P), a.2.2)
def up (V : Nat → Int) (k : Nat) (x : Int) : Nat → Int := fun j => if j = k then x else V j
theorem up_at {V : Nat → Int} {k : Nat} {x : Int} : up V k x k = x := by unfold up; rw [if_pos rfl]
theorem up_off {V : Nat → Int} {k j : Nat} {x : Int} (h : j ≠ k) : up V k x j = V j := by unfold up; rw [if_neg h]
theorem CR.cs {M : Me} {a : At} {t : Nat} (hC : CR M a) (hS : SO a t) : CS M a.V a.nb a.nc t := ⟨hC.1, hC.2.1.1, hC.2.1.2, hS.1⟩
theorem CR.kept {M M' : Me} {a : At} (hC : CR M a) (hk : ∀ k, k < 61 ∨ k = 71 → M' k = M k) : CR M' a := CRel.kept hC hk
/-- a question changes nothing -/
theorem Cs.of {T : CT} {sc : Sc} {pc : Nat} {L st : List ZV} {M : Me} {h : Ml} {r : Int} {a : At} (hC : CR M a) (k : Wp zS0 T sc pc L st M h (Qr r M h)) : Wp zS0 T sc pc L st M h (Cs (r, a) M h) :=
  k.imp (fun _ _ _ q => ⟨q.1, q.2.1, fun k g => q.2.2 k (by omega), hC.kept (fun k g => q.2.2 k (by omega))⟩)
theorem Cs.no {T : CT} {sc : Sc} {pc : Nat} {L st : List ZV} {M : Me} {h : Ml} {r : Int} {a : At} (hC : CR M a) (k : Wp zS0 T sc pc L st M h (Ri r M h)) : Wp zS0 T sc pc L st M h (Cs (r, a) M h) := Cs.of hC (Qr.of k)
theorem cw_congr {V V' : Nat → Int} {nc r : Nat} (hr : V' (18 + 8 * r) = V (18 + 8 * r)) (h9 : ∀ c, c < nc → V' (114 + 10 * c + 9) = V (114 + 10 * c + 9)) (h0 : ∀ c, c < nc → V' (114 + 10 * c) = V (114 + 10 * c)) : cw V' nc r = cw V nc r := by
  have e : fnd (fun c => V' (114 + 10 * c + 9)) (V' (18 + 8 * r)) nc = fnd (fun c => V (114 + 10 * c + 9)) (V (18 + 8 * r)) nc := by rw [hr]; exact fnd_congr h9
  unfold cw
  rw [e]
  by_cases g : fnd (fun c => V (114 + 10 * c + 9)) (V (18 + 8 * r)) nc < nc
  · rw [if_pos g, if_pos g, h0 _ g]
  · rw [if_neg g, if_neg g]
theorem pt_congr {V V' : Nat → Int} {r : Nat} (h : V' (114 + 10 * r + 9) = V (114 + 10 * r + 9)) : pt V' r = pt V r := by unfold pt; rw [h]
/-- only what stands ahead of the rows has changed -/
theorem OfRel.head {M M' : Me} {V V' : Nat → Int} {nb nc : Nat} (h : OfRel M 1 V nb nc) (hk : ∀ k, 1 < k → k < 8 → M' k = M k) (hV : ∀ j, 18 ≤ j → V' j = V j) (h11 : V' 11 = V 11) (h13 : V' 13 = V 13)
    (hf : M' 1 3 = V' 0 ∧ M' 1 4 = V' 1 ∧ M' 1 5 = V' 2 ∧ M' 1 6 = V' 3 ∧ M' 1 7 = V' 14 ∧ M' 1 8 = V' 15 ∧ M' 1 9 = V' 16 ∧ M' 1 10 = V' 17) (hw : ∀ i, i < 6 → M' 8 i = V' (4 + i)) : OfRel M' 1 V' nb nc := by
  obtain ⟨-, -, h1, h2, h3⟩ := h
  have k2 := hk 2 (by omega) (by omega)
  have k3 := hk 3 (by omega) (by omega)
  have k4 := hk 4 (by omega) (by omega)
  have k5 := hk 5 (by omega) (by omega)
  have k6 := hk 6 (by omega) (by omega)
  have k7 := hk 7 (by omega) (by omega)
  refine ⟨hf, hw, ?_, fun r hr => ?_, fun r hr => ?_⟩
  · rw [show 1 + 1 = 2 from rfl, show 1 + 4 = 5 from rfl, k2, k5, h11, h13]; exact h1
  · obtain ⟨g1, g2, g3⟩ := h2 r hr
    rw [show 1 + 2 = 3 from rfl, show 1 + 3 = 4 from rfl, k3, k4, hV _ (by omega), cw_congr (hV _ (by omega)) (fun c _ => hV _ (by omega)) (fun c _ => hV _ (by omega))]
    exact ⟨g1, fun c hc => by rw [hV _ (by omega)]; exact g2 c hc, g3⟩
  · obtain ⟨g1, g2, g3⟩ := h3 r hr
    rw [show 1 + 5 = 6 from rfl, show 1 + 6 = 7 from rfl, k6, k7, hV _ (by omega), pt_congr (hV _ (by omega))]
    exact ⟨g1, fun c hc => by rw [hV _ (by omega)]; exact g2 c hc, g3⟩
theorem CR.office {M M' : Me} {a : At} (hC : CR M a) (hk : ∀ k, (9 ≤ k ∧ k < 61) ∨ k = 71 → M' k = M k) {V' : Nat → Int} {nb' nc' : Nat} (h0 : M' 2 0 = M 2 0) (h5 : M' 5 0 = M 5 0) (hO : OfRel M' 1 V' nb' nc') : CR M' ((V', nb', nc'), a.2) := by
  obtain ⟨h1, h2, h3, h4, h6⟩ := hC
  refine ⟨hO, ?_, h3.kept (fun k g1 g2 => hk k (by omega)), ?_, ?_⟩
  · rw [h0, h5]; exact h2
  · rw [hk 59 (by omega), hk 60 (by omega)]; exact h4
  · rw [hk 71 (by omega)]; exact h6
theorem WF.mono {V : Nat → Int} {nb nc t t' : Nat} (h : WF V nb nc t) (ht : t ≤ t') : WF V nb nc t' := by
  obtain ⟨h1, ⟨v0, v1, v2, v3, v4, v5, v6⟩, h3⟩ := h
  exact ⟨h1, ⟨v0, v1, v2, v3, v4, ⟨v5.1, by omega⟩, v6.1, by omega⟩, h3⟩
theorem WF.head {V V' : Nat → Int} {nb nc t t' : Nat} (h : WF V nb nc t) (ht : t ≤ t') (hV : ∀ j, 18 ≤ j → V' j = V j) (h10 : V' 10 = V 10) (h11 : V' 11 = V 11) (h12 : V' 12 = V 12) (h13 : V' 13 = V 13)
    (hr : (0 ≤ V' 0 ∧ V' 0 ≤ 9999) ∧ (0 ≤ V' 1 ∧ V' 1 ≤ 200) ∧ (0 ≤ V' 2 ∧ V' 2 ≤ 500) ∧ (0 ≤ V' 3 ∧ V' 3 ≤ 9999) ∧ (∀ i, i < 6 → 0 ≤ V' (4 + i) ∧ V' (4 + i) ≤ 50)) : WF V' nb nc t' := by
  obtain ⟨⟨a1, a2, a3⟩, ⟨-, -, -, -, -, v5, v6⟩, b1, b2, b3, b4, b5⟩ := h
  refine ⟨⟨by rw [h10]; exact a1, by rw [h12]; exact a2, a3⟩, ⟨hr.1, hr.2.1, hr.2.2.1, hr.2.2.2.1, hr.2.2.2.2, by rw [h11]; omega, by rw [h13]; omega⟩, fun r g => ?_, fun r g => ?_, fun r q g1 g2 => ?_, fun r g => ?_, fun r q g1 g2 => ?_⟩
  · have := b1 r g
    unfold BOK at this ⊢
    rw [h11]
    repeat rw [hV _ (by omega)]
    exact this
  · have := b2 r g
    unfold COK at this ⊢
    rw [h11, h13]
    repeat rw [hV _ (by omega)]
    exact this
  · rw [hV _ (by omega), hV _ (by omega)]; exact b3 r q g1 g2
  · rw [hV _ (by omega)]
    intro hz
    obtain ⟨b, e1, e2⟩ := b4 r g hz
    exact ⟨b, e1, by rw [hV _ (by omega)]; exact e2⟩
  · rw [hV _ (by omega), hV _ (by omega)]; exact b5 r q g1 g2
theorem SO.sv {a : At} {t t' : Nat} (h : SO a t) (ht : t ≤ t') {V' : Nat → Int} {nb' nc' : Nat} (hW : WF V' nb' nc' t') : SO ((V', nb', nc'), (sv a).2) t' := by
  obtain ⟨h1, h2, h3, h4, h5⟩ := h
  refine ⟨hW, ?_, ?_, h4, h5⟩
  · show svK a.kn ≤ 6
    unfold svK; split <;> omega
  · intro c hc
    have hc : c < svK a.kn := hc
    show ∃ nb'' nc'' : Nat, WF (svP a.kn a.V a.P c) nb'' nc'' t'
    unfold svP
    unfold svK at hc
    split
    · split
      · obtain ⟨x, y, e⟩ := h3 (c + 1) (by omega)
        exact ⟨x, y, e.mono ht⟩
      · exact ⟨_, _, h1.mono ht⟩
    · split
      · obtain ⟨x, y, e⟩ := h3 c (by omega)
        exact ⟨x, y, e.mono ht⟩
      · exact ⟨_, _, h1.mono ht⟩
theorem SO.mono {a : At} {t t' : Nat} (h : SO a t) (ht : t ≤ t') : SO a t' := ⟨h.1.mono ht, h.2.1, fun c hc => by obtain ⟨x, y, e⟩ := h.2.2.1 c hc; exact ⟨x, y, e.mono ht⟩, h.2.2.2⟩
theorem cr_save {M : Me} {h : Ml} {a : At} {t : Nat} (hC : CR M a) (hS : SO a t) : Wp zS0 tX2_save none 0 [zr 9, zr 1] [] M h (fun v M' h' => v = none ∧ h' = h ∧ (∀ k, 74 ≤ k → M' k = M k) ∧ CR M' (sv a)) := c_save hC hS.1
def sWeight (a : At) (x y : Int) : Int × At := if x < 0 ∨ 5 < x then (-10001, a) else if y < 0 ∨ 50 < y then (-10002, a) else (a.V (4 + x.toNat), ((up a.V (4 + x.toNat) y, a.nb, a.nc), (sv a).2))
theorem c_setWeight {M : Me} {h : Ml} {a : At} {t : Nat} (hC : CR M a) (hS : SO a t) (x y : Int) : Wp zS0 tX8_setWeight none 0 [zr 0, zi x, zi y, zn] [] M h (Cs (sWeight a x y) M h) := by
  unfold sWeight
  by_cases hx : x < 0 ∨ 5 < x
  · rw [if_pos hx]
    refine Wp.g1 rfl ?_
    refine Wp.br rfl (fun c0 => ?_) (fun c0 => ?_)
    · refine Wp.g1 rfl ?_
      exact Cs.no hC (Wp.rei rfl rfl rfl rfl)
    · refine Wp.g1 rfl ?_
      refine Wp.brf rfl (by omega) ?_
      refine Wp.g1 rfl ?_
      exact Cs.no hC (Wp.rei rfl rfl rfl rfl)
  · rw [if_neg hx]
    obtain ⟨i, rfl⟩ := Int.eq_ofNat_of_zero_le (show 0 ≤ x by omega)
    refine Wp.g1 rfl ?_
    refine Wp.brf rfl (by omega) ?_
    refine Wp.g1 rfl ?_
    refine Wp.brt rfl (by omega) ?_
    refine Wp.g1 rfl ?_
    refine Wp.calli rfl (m_outside _ _ _ M h) ?_
    by_cases hy : y < 0 ∨ 50 < y
    · rw [if_pos hy, if_pos hy]
      refine Wp.brf rfl (by decide) ?_
      refine Wp.g1 rfl ?_
      exact Cs.no hC (Wp.rei rfl rfl rfl rfl)
    · rw [if_neg hy, if_neg hy]
      refine Wp.brt rfl (by decide) ?_
      refine Wp.g1 rfl ?_
      refine Wp.call rfl (cr_save hC hS) (fun v M1 h1 q => ?_)
      obtain ⟨rfl, rfl, q1, q2⟩ := q
      have hR : OfRel M1 1 a.V a.nb a.nc := q2.1
      refine Wp.g1 rfl ?_
      refine Wp.ld rfl rfl i rfl (by omega) ?_
      refine Wp.g1 rfl ?_
      refine Wp.sto rfl rfl i rfl (by omega) ?_
      refine Wp.g1 rfl ?_
      refine Wp.re rfl ⟨?_, rfl, fun k g => by rw [upd2_ne (by omega)]; exact q1 k g, ?_⟩
      · show _ = some (zi (a.V (4 + (i : Int).toNat)))
        rw [Int.toNat_natCast, ← hR.2.1 i (by omega)]
      · refine CR.office q2 (fun k g => by rw [upd2_ne (by omega)]) (by rw [upd2_ne (by decide)]) (by rw [upd2_ne (by decide)]) ?_
        refine hR.head (fun k g1 g2 => by rw [upd2_ne (by omega)]) (fun j g => up_off (by omega)) (up_off (by omega)) (up_off (by omega)) ?_ (fun j hj => ?_)
        · have := hR.1
          rw [upd2_ne (by decide)]
          repeat rw [up_off (by omega)]
          exact this
        · rw [Int.toNat_natCast]
          by_cases e : j = i
          · subst e; rw [upd2_at, up_at]
          · rw [upd2_off e, up_off (by omega)]
            exact hR.2.1 j hj
theorem s_weight {a : At} {t t' : Nat} (hS : SO a t) (ht : t ≤ t') (x y : Int) : SO (sWeight a x y).2 t' := by
  unfold sWeight
  by_cases hx : x < 0 ∨ 5 < x
  · rw [if_pos hx]; exact hS.mono ht
  · rw [if_neg hx]
    by_cases hy : y < 0 ∨ 50 < y
    · rw [if_pos hy]; exact hS.mono ht
    · rw [if_neg hy]
      refine SO.sv hS ht (hS.1.head ht (fun j g => up_off (by omega)) (up_off (by omega)) (up_off (by omega)) (up_off (by omega)) (up_off (by omega)) ?_)
      obtain ⟨v0, v1, v2, v3, v4, -⟩ := hS.1.2.1
      rw [up_off (by omega), up_off (by omega), up_off (by omega), up_off (by omega)]
      refine ⟨v0, v1, v2, v3, fun i hi => ?_⟩
      by_cases e : 4 + i = 4 + x.toNat
      · rw [e, up_at]; omega
      · rw [up_off e]; exact v4 i hi
end
section
/-! the simple calls that change the state -/
def sThreshold (a : At) (x : Int) : Int × At := if x < 0 ∨ 200 < x then (-10002, a) else (a.V 1, ((up a.V 1 x, a.nb, a.nc), (sv a).2))
def sMoney (a : At) (x y : Int) : Int × At := if (x < 0 ∨ 500 < x) ∨ (y < 0 ∨ 9999 < y) then (-10002, a) else (a.V 2, ((up (up a.V 2 x) 3 y, a.nb, a.nc), (sv a).2))
def sPass (a : At) (x : Int) : Int × At := if x < 1 ∨ 400 < x then (-10002, a) else if 9999 < a.V 0 + x then (-10004, a) else (a.V 0 + x, ((up a.V 0 (a.V 0 + x), a.nb, a.nc), (sv a).2))
def sProblem (a : At) (x : Int) : Int × At := (if x = 0 then a.p0 else if x = 1 then a.p1 else if x = 2 then a.p2 else -10002, a)
def sType (a : At) (x : Int) : Int × At := if x < 33 ∨ 126 < x then (-10002, a) else if a.len = 80 then (-10004, a) else ((a.len : Int) + 1, (a.1, a.2.1, (a.len + 1, up a.tx a.len x), a.2.2.2))
def sClear (a : At) : Int × At := ((a.len : Int), (a.1, a.2.1, (0, a.tx), a.2.2.2))
def sUndo (a : At) : Int × At := if a.kn = 0 then (-10003, a) else (((a.kn - 1 : Nat) : Int), ((a.P (a.kn - 1), (a.P (a.kn - 1) 10).toNat, (a.P (a.kn - 1) 12).toNat), (a.kn - 1, a.P), a.2.2))
section SIMPLE
variable {M : Me} {h : Ml} {a : At} {t : Nat}
theorem c_setThreshold (hC : CR M a) (hS : SO a t) (x : Int) : Wp zS0 tX8_setThreshold none 0 [zr 0, zi x, zn] [] M h (Cs (sThreshold a x) M h) := by
  unfold sThreshold
  refine Wp.g1 rfl ?_
  refine Wp.calli rfl (m_outside _ _ _ M h) ?_
  by_cases hx : x < 0 ∨ 200 < x
  · rw [if_pos hx, if_pos hx]
    refine Wp.brf rfl (by decide) ?_
    refine Wp.g1 rfl ?_
    exact Cs.no hC (Wp.rei rfl rfl rfl rfl)
  · rw [if_neg hx, if_neg hx]
    refine Wp.brt rfl (by decide) ?_
    refine Wp.g1 rfl ?_
    refine Wp.call rfl (cr_save hC hS) (fun v M1 h1 q => ?_)
    obtain ⟨rfl, rfl, q1, q2⟩ := q
    have hR : OfRel M1 1 a.V a.nb a.nc := q2.1
    refine Wp.g1 rfl ?_
    refine Wp.re rfl ⟨?_, rfl, fun k g => by rw [upd2_ne (by omega)]; exact q1 k g, ?_⟩
    · show _ = some (zi (a.V 1))
      rw [← hR.1.2.1]
    · refine CR.office q2 (fun k g => by rw [upd2_ne (by omega)]) (by rw [upd2_ne (by decide)]) (by rw [upd2_ne (by decide)]) ?_
      refine hR.head (fun k g1 g2 => by rw [upd2_ne (by omega)]) (fun j g => up_off (by omega)) (up_off (by omega)) (up_off (by omega)) ?_ (fun j hj => ?_)
      · obtain ⟨f0, f1, f2⟩ := hR.1
        rw [upd2_at, up_at]
        repeat rw [upd2_off (by omega)]
        repeat rw [up_off (by omega)]
        exact ⟨f0, rfl, f2⟩
      · rw [upd2_ne (by decide), up_off (by omega)]
        exact hR.2.1 j hj
theorem s_threshold {t' : Nat} (hS : SO a t) (ht : t ≤ t') (x : Int) : SO (sThreshold a x).2 t' := by
  unfold sThreshold
  by_cases hx : x < 0 ∨ 200 < x
  · rw [if_pos hx]; exact hS.mono ht
  · rw [if_neg hx]
    refine SO.sv hS ht (hS.1.head ht (fun j g => up_off (by omega)) (up_off (by omega)) (up_off (by omega)) (up_off (by omega)) (up_off (by omega)) ?_)
    obtain ⟨v0, v1, v2, v3, v4, -⟩ := hS.1.2.1
    rw [up_at, up_off (by omega), up_off (by omega), up_off (by omega)]
    exact ⟨v0, by omega, v2, v3, fun i hi => by rw [up_off (by omega)]; exact v4 i hi⟩
theorem s_money {t' : Nat} (hS : SO a t) (ht : t ≤ t') (x y : Int) : SO (sMoney a x y).2 t' := by
  unfold sMoney
  by_cases hx : (x < 0 ∨ 500 < x) ∨ (y < 0 ∨ 9999 < y)
  · rw [if_pos hx]; exact hS.mono ht
  · rw [if_neg hx]
    refine SO.sv hS ht (hS.1.head ht (fun j g => by rw [up_off (by omega), up_off (by omega)]) (by rw [up_off (by omega), up_off (by omega)]) (by rw [up_off (by omega), up_off (by omega)]) (by rw [up_off (by omega), up_off (by omega)]) (by rw [up_off (by omega), up_off (by omega)]) ?_)
    obtain ⟨v0, v1, v2, v3, v4, -⟩ := hS.1.2.1
    rw [up_at, up_off (by omega), up_off (by omega), up_off (by omega), up_off (by omega), up_off (by omega), up_at]
    exact ⟨v0, v1, by omega, by omega, fun i hi => by rw [up_off (by omega), up_off (by omega)]; exact v4 i hi⟩
theorem c_pass (hC : CR M a) (hS : SO a t) (x : Int) : Wp zS0 tX8_pass none 0 [zr 0, zi x] [] M h (Cs (sPass a x) M h) := by
  have hR0 : OfRel M 1 a.V a.nb a.nc := hC.1
  obtain ⟨v0, -⟩ := hS.1.2.1
  unfold sPass
  refine Wp.g1 rfl ?_
  refine Wp.calli rfl (m_outside _ _ _ M h) ?_
  by_cases hx : x < 1 ∨ 400 < x
  · rw [if_pos hx, if_pos hx]
    refine Wp.brf rfl (by decide) ?_
    refine Wp.g1 rfl ?_
    exact Cs.no hC (Wp.rei rfl rfl rfl rfl)
  · rw [if_neg hx, if_neg hx]
    refine Wp.brt rfl (by decide) ?_
    refine Wp.g1 rfl ?_
    have e : w32 (a.V 0 + x) = a.V 0 + x := w32_id ⟨by omega, by omega⟩
    rw [hR0.1.1, e]
    by_cases hy : 9999 < a.V 0 + x
    · rw [if_pos hy]
      refine Wp.brf rfl (by omega) ?_
      refine Wp.g1 rfl ?_
      exact Cs.no hC (Wp.rei rfl rfl rfl rfl)
    · rw [if_neg hy]
      refine Wp.brt rfl (by omega) ?_
      refine Wp.g1 rfl ?_
      refine Wp.call rfl (cr_save hC hS) (fun v M1 h1 q => ?_)
      obtain ⟨rfl, rfl, q1, q2⟩ := q
      have hR : OfRel M1 1 a.V a.nb a.nc := q2.1
      refine Wp.g1 rfl ?_
      rw [hR.1.1, e]
      refine Wp.re rfl ⟨?_, rfl, fun k g => by rw [upd2_ne (by omega)]; exact q1 k g, ?_⟩
      · show _ = some (zi (a.V 0 + x))
        rw [upd2_at]
      · refine CR.office q2 (fun k g => by rw [upd2_ne (by omega)]) (by rw [upd2_ne (by decide)]) (by rw [upd2_ne (by decide)]) ?_
        refine hR.head (fun k g1 g2 => by rw [upd2_ne (by omega)]) (fun j g => up_off (by omega)) (up_off (by omega)) (up_off (by omega)) ?_ (fun j hj => ?_)
        · obtain ⟨f0, f1⟩ := hR.1
          rw [upd2_at, up_at]
          repeat rw [upd2_off (by omega)]
          repeat rw [up_off (by omega)]
          exact ⟨rfl, f1⟩
        · rw [upd2_ne (by decide), up_off (by omega)]
          exact hR.2.1 j hj
theorem s_pass {t' : Nat} (hS : SO a t) (ht : t ≤ t') (x : Int) : SO (sPass a x).2 t' := by
  unfold sPass
  by_cases hx : x < 1 ∨ 400 < x
  · rw [if_pos hx]; exact hS.mono ht
  · rw [if_neg hx]
    by_cases hy : 9999 < a.V 0 + x
    · rw [if_pos hy]; exact hS.mono ht
    · rw [if_neg hy]
      refine SO.sv hS ht (hS.1.head ht (fun j g => up_off (by omega)) (up_off (by omega)) (up_off (by omega)) (up_off (by omega)) (up_off (by omega)) ?_)
      obtain ⟨v0, v1, v2, v3, v4, -⟩ := hS.1.2.1
      rw [up_at, up_off (by omega), up_off (by omega), up_off (by omega)]
      exact ⟨by omega, v1, v2, v3, fun i hi => by rw [up_off (by omega)]; exact v4 i hi⟩
theorem CR.text {M M' : Me} {a : At} (hC : CR M a) (hk : ∀ k, k < 59 ∨ k = 71 → M' k = M k) {n : Nat} {f : Nat → Int} (h1 : M' 59 1 = (n : Int)) (h2 : ∀ i, i < n → M' 60 i = f i) : CR M' (a.1, a.2.1, (n, f), a.2.2.2) := by
  obtain ⟨g1, g2, g3, g4, g5⟩ := hC
  refine ⟨g1.kept (fun k _ g => hk k (by omega)), ?_, g3.kept (fun k _ g => hk k (by omega)), ⟨h1, h2⟩, ?_⟩
  · rw [hk 2 (by omega), hk 5 (by omega)]; exact g2
  · rw [hk 71 (by omega)]; exact g5
theorem s_type {t' : Nat} (hS : SO a t) (ht : t ≤ t') (x : Int) : SO (sType a x).2 t' := by
  unfold sType
  by_cases hx : x < 33 ∨ 126 < x
  · rw [if_pos hx]; exact hS.mono ht
  · rw [if_neg hx]
    by_cases hy : a.len = 80
    · rw [if_pos hy]; exact hS.mono ht
    · rw [if_neg hy]
      obtain ⟨h1, h2, h3, h4, h5⟩ := hS.mono ht
      refine ⟨h1, h2, h3, by show a.len + 1 ≤ 80; omega, fun i hi => ?_⟩
      have hi : i < a.len + 1 := hi
      show 33 ≤ up a.tx a.len x i ∧ up a.tx a.len x i ≤ 126
      by_cases e : i = a.len
      · rw [e, up_at]; omega
      · rw [up_off e]; exact h5 i (by show i < a.len; omega)
theorem s_clear {t' : Nat} (hS : SO a t) (ht : t ≤ t') : SO (sClear a).2 t' := by
  obtain ⟨h1, h2, h3, h4, h5⟩ := hS.mono ht
  exact ⟨h1, h2, h3, Nat.zero_le _, fun i hi => absurd (show i < 0 from hi) (by omega)⟩
theorem m_saved (M : Me) (h : Ml) : Wp zS0 tX2_saved none 0 [zr 9] [] M h (Ri (M 9 2) M h) := by
  refine Wp.g1 rfl ?_
  exact Wp.rei rfl rfl rfl rfl
theorem c_undo (hC : CR M a) (hS : SO a t) : Wp zS0 tX8_undo none 0 [zr 0] [] M h (Cs (sUndo a) M h) := by
  have hk : M 9 2 = (a.kn : Int) := by
    obtain ⟨-, -, ⟨nx, -, -, g, -⟩, -⟩ := hC
    exact g
  unfold sUndo
  refine Wp.g1 rfl ?_
  refine Wp.calli rfl (m_saved M h) ?_
  rw [hk]
  by_cases h0 : a.kn = 0
  · rw [if_pos h0]
    refine Wp.brf rfl (by omega) ?_
    refine Wp.g1 rfl ?_
    exact Cs.no hC (Wp.rei rfl rfl rfl rfl)
  · rw [if_neg h0]
    refine Wp.brt rfl (by omega) ?_
    refine Wp.g1 rfl ?_
    obtain ⟨nb', nc', hW⟩ := hS.2.2.1 (a.kn - 1) (by show a.kn - 1 < a.kn; omega)
    have e1 : (a.P (a.kn - 1) 10).toNat = nb' := by
      have : a.P (a.kn - 1) 10 = (nb' : Int) := hW.1.1
      rw [this, Int.toNat_natCast]
    have e2 : (a.P (a.kn - 1) 12).toNat = nc' := by
      have : a.P (a.kn - 1) 12 = (nc' : Int) := hW.1.2.1
      rw [this, Int.toNat_natCast]
    rw [e1, e2]
    refine Wp.call rfl (c_restore hC (by omega) hW) (fun v M1 h1 q => ?_)
    obtain ⟨rfl, rfl, q1, q2⟩ := q
    refine Wp.g1 rfl ?_
    refine Wp.calli rfl (m_saved M1 _) ?_
    have hk2 : M1 9 2 = ((a.kn - 1 : Nat) : Int) := by
      obtain ⟨-, -, ⟨nx, -, -, g, -⟩, -⟩ := q2
      exact g
    rw [hk2]
    exact Wp.re rfl ⟨rfl, rfl, q1, q2⟩
theorem s_undo {t' : Nat} (hS : SO a t) (ht : t ≤ t') : SO (sUndo a).2 t' := by
  unfold sUndo
  by_cases h0 : a.kn = 0
  · rw [if_pos h0]; exact hS.mono ht
  · rw [if_neg h0]
    obtain ⟨h1, h2, h3, h4, h5⟩ := hS.mono ht
    obtain ⟨nb', nc', hW⟩ := h3 (a.kn - 1) (by show a.kn - 1 < a.kn; omega)
    have h2 : a.kn ≤ 6 := h2
    have e1 : (a.P (a.kn - 1) 10).toNat = nb' := by
      have : a.P (a.kn - 1) 10 = (nb' : Int) := hW.1.1
      rw [this, Int.toNat_natCast]
    have e2 : (a.P (a.kn - 1) 12).toNat = nc' := by
      have : a.P (a.kn - 1) 12 = (nc' : Int) := hW.1.2.1
      rw [this, Int.toNat_natCast]
    rw [e1, e2]
    exact ⟨hW, by show a.kn - 1 ≤ 6; omega, fun c hc => h3 c (by show c < a.kn; have : c < a.kn - 1 := hc; omega), h4, h5⟩
end SIMPLE
end
section
/-! what the changing calls make of an office: bags and claims come, go, are joined and parted -/
theorem fnd_iff {f g : Nat → Int} {x y : Int} {n : Nat} (h : ∀ j, j < n → (f j = x ↔ g j = y)) : fnd f x n = fnd g y n := by
  rcases fnd_spec (f := g) (x := y) (n := n) with ⟨h1, h2, h3⟩ | ⟨h1, h2⟩
  · exact fnd_some h1 ((h _ h1).mpr h2) (fun j hj q => h3 j hj ((h j (by omega)).mp q))
  · rw [h1]
    exact fnd_none fun j hj q => h2 j hj ((h j hj).mp q)
def sk (c r : Nat) : Nat := if r < c then r else r + 1
theorem sk_ne (c r : Nat) : sk c r ≠ c := by unfold sk; split <;> omega
theorem sk_lt {c r n : Nat} (h : r + 1 < n) : sk c r < n := by unfold sk; split <;> omega
theorem sk_inj {c r q : Nat} (h : sk c r = sk c q) : r = q := by unfold sk at h; split at h <;> split at h <;> omega
theorem sk_onto {c r n : Nat} (hr : r < n) (hc : r ≠ c) (hn : c < n) : ∃ q, q + 1 < n ∧ sk c q = r := by
  by_cases h : r < c
  · exact ⟨r, by omega, by unfold sk; rw [if_pos h]⟩
  · exact ⟨r - 1, by omega, by unfold sk; rw [if_neg (by omega)]; omega⟩
theorem fnd_sk {f g : Nat → Int} {x : Int} {n c : Nat} (hc : c < n) (hg : ∀ r, r + 1 < n → g r = f (sk c r)) (hx : f c ≠ x) :
    (fnd f x n = n ∧ fnd g x (n - 1) = n - 1) ∨ (fnd g x (n - 1) < n - 1 ∧ fnd f x n = sk c (fnd g x (n - 1))) := by
  rcases fnd_spec (f := f) (x := x) (n := n) with ⟨h1, h2, h3⟩ | ⟨h1, h2⟩
  · obtain ⟨q, e1, e2⟩ := sk_onto (c := c) h1 (fun e => hx (e ▸ h2)) hc
    have e3 : fnd g x (n - 1) = q := fnd_some (by omega) (by rw [hg q e1, e2]; exact h2) (fun j hj => by
      rw [hg j (by omega)]
      refine h3 _ ?_
      rw [← e2]
      unfold sk
      split <;> split <;> omega)
    exact Or.inr ⟨by omega, by rw [e3, e2]⟩
  · refine Or.inl ⟨h1, fnd_none (fun j hj => ?_)⟩
    rw [hg j (by omega)]
    exact h2 _ (sk_lt (by omega))
def nBag (V : Nat → Int) (nb : Nat) (x0 x1 x2 x3 x4 x5 : Int) : Nat → Int :=
  up (up (up (up (up (up (up (up (up (up V 10 ((nb + 1 : Nat) : Int)) 11 (V 11 + 1)) (18 + 8 * nb) (V 11 + 1)) (18 + 8 * nb + 1) x0) (18 + 8 * nb + 2) x1) (18 + 8 * nb + 3) x2) (18 + 8 * nb + 4) x3) (18 + 8 * nb + 5) x4) (18 + 8 * nb + 6) x5) (18 + 8 * nb + 7) (V 0)
def nClm (V : Nat → Int) (nc : Nat) (x0 x1 x2 x3 x4 x5 x6 x7 : Int) : Nat → Int :=
  up (up (up (up (up (up (up (up (up (up (up (up V 12 ((nc + 1 : Nat) : Int)) 13 (V 13 + 1)) (114 + 10 * nc) (V 13 + 1)) (114 + 10 * nc + 1) x0) (114 + 10 * nc + 2) x1) (114 + 10 * nc + 3) x2) (114 + 10 * nc + 4) x3) (114 + 10 * nc + 5) x4) (114 + 10 * nc + 6) x5) (114 + 10 * nc + 7) x6) (114 + 10 * nc + 8) x7) (114 + 10 * nc + 9) 0
def rmB (V : Nat → Int) (nb b : Nat) : Nat → Int := fun k => if k = 10 then ((nb - 1 : Nat) : Int) else if 18 + 8 * b ≤ k ∧ k < 18 + 8 * (nb - 1) then V (k + 8) else V k
def rmC (V : Nat → Int) (nc c : Nat) : Nat → Int := fun k => if k = 12 then ((nc - 1 : Nat) : Int) else if 114 + 10 * c ≤ k ∧ k < 114 + 10 * (nc - 1) then V (k + 10) else V k
section OPS
variable {V : Nat → Int} {nb nc t : Nat}
theorem nBag_off {x0 x1 x2 x3 x4 x5 : Int} {j : Nat} (h1 : j ≠ 10) (h2 : j ≠ 11) (h3 : j < 18 + 8 * nb ∨ 18 + 8 * nb + 8 ≤ j) : nBag V nb x0 x1 x2 x3 x4 x5 j = V j := by
  unfold nBag
  repeat rw [up_off (by omega)]
theorem nBag_hd (x0 x1 x2 x3 x4 x5 : Int) : nBag V nb x0 x1 x2 x3 x4 x5 10 = ((nb + 1 : Nat) : Int) ∧ nBag V nb x0 x1 x2 x3 x4 x5 11 = V 11 + 1 ∧ nBag V nb x0 x1 x2 x3 x4 x5 (18 + 8 * nb) = V 11 + 1 := by
  unfold nBag
  refine ⟨?_, ?_, ?_⟩ <;> repeat rw [up_off (by omega)]
  all_goals exact up_at
theorem nBag_row (x0 x1 x2 x3 x4 x5 : Int) : nBag V nb x0 x1 x2 x3 x4 x5 (18 + 8 * nb + 1) = x0 ∧ nBag V nb x0 x1 x2 x3 x4 x5 (18 + 8 * nb + 2) = x1 ∧ nBag V nb x0 x1 x2 x3 x4 x5 (18 + 8 * nb + 3) = x2 ∧ nBag V nb x0 x1 x2 x3 x4 x5 (18 + 8 * nb + 4) = x3 ∧ nBag V nb x0 x1 x2 x3 x4 x5 (18 + 8 * nb + 5) = x4 ∧ nBag V nb x0 x1 x2 x3 x4 x5 (18 + 8 * nb + 6) = x5 ∧ nBag V nb x0 x1 x2 x3 x4 x5 (18 + 8 * nb + 7) = V 0 := by
  unfold nBag
  refine ⟨?_, ?_, ?_, ?_, ?_, ?_, ?_⟩ <;> repeat rw [up_off (by omega)]
  all_goals exact up_at
theorem nClm_off {x0 x1 x2 x3 x4 x5 x6 x7 : Int} {j : Nat} (h1 : j ≠ 12) (h2 : j ≠ 13) (h3 : j < 114 + 10 * nc ∨ 114 + 10 * nc + 10 ≤ j) : nClm V nc x0 x1 x2 x3 x4 x5 x6 x7 j = V j := by
  unfold nClm
  repeat rw [up_off (by omega)]
theorem nClm_hd (x0 x1 x2 x3 x4 x5 x6 x7 : Int) : nClm V nc x0 x1 x2 x3 x4 x5 x6 x7 12 = ((nc + 1 : Nat) : Int) ∧ nClm V nc x0 x1 x2 x3 x4 x5 x6 x7 13 = V 13 + 1 ∧ nClm V nc x0 x1 x2 x3 x4 x5 x6 x7 (114 + 10 * nc) = V 13 + 1 ∧ nClm V nc x0 x1 x2 x3 x4 x5 x6 x7 (114 + 10 * nc + 9) = 0 := by
  unfold nClm
  refine ⟨?_, ?_, ?_, ?_⟩ <;> repeat rw [up_off (by omega)]
  all_goals exact up_at
theorem nClm_row (x0 x1 x2 x3 x4 x5 x6 x7 : Int) : nClm V nc x0 x1 x2 x3 x4 x5 x6 x7 (114 + 10 * nc + 1) = x0 ∧ nClm V nc x0 x1 x2 x3 x4 x5 x6 x7 (114 + 10 * nc + 2) = x1 ∧ nClm V nc x0 x1 x2 x3 x4 x5 x6 x7 (114 + 10 * nc + 3) = x2 ∧ nClm V nc x0 x1 x2 x3 x4 x5 x6 x7 (114 + 10 * nc + 4) = x3 ∧ nClm V nc x0 x1 x2 x3 x4 x5 x6 x7 (114 + 10 * nc + 5) = x4 ∧ nClm V nc x0 x1 x2 x3 x4 x5 x6 x7 (114 + 10 * nc + 6) = x5 ∧ nClm V nc x0 x1 x2 x3 x4 x5 x6 x7 (114 + 10 * nc + 7) = x6 ∧ nClm V nc x0 x1 x2 x3 x4 x5 x6 x7 (114 + 10 * nc + 8) = x7 := by
  unfold nClm
  refine ⟨?_, ?_, ?_, ?_, ?_, ?_, ?_, ?_⟩ <;> repeat rw [up_off (by omega)]
  all_goals exact up_at
theorem rmB_off {b j : Nat} (h1 : j ≠ 10) (h2 : j < 18 ∨ 18 + 8 * (nb - 1) ≤ j) : rmB V nb b j = V j := by
  unfold rmB
  rw [if_neg h1, if_neg (by omega)]
theorem rmB_10 {b : Nat} : rmB V nb b 10 = ((nb - 1 : Nat) : Int) := by
  unfold rmB
  rw [if_pos rfl]
theorem rmB_sk {b r k : Nat} (hr : r + 1 < nb) (hk : k < 8) : rmB V nb b (18 + 8 * r + k) = V (18 + 8 * sk b r + k) := by
  unfold rmB sk
  rw [if_neg (by omega)]
  by_cases h : r < b
  · rw [if_pos h, if_neg (by omega)]
  · rw [if_neg h, if_pos (by omega), show 18 + 8 * r + k + 8 = 18 + 8 * (r + 1) + k by omega]
theorem rmC_off {c j : Nat} (h1 : j ≠ 12) (h2 : j < 114 ∨ 114 + 10 * (nc - 1) ≤ j) : rmC V nc c j = V j := by
  unfold rmC
  rw [if_neg h1, if_neg (by omega)]
theorem rmC_12 {c : Nat} : rmC V nc c 12 = ((nc - 1 : Nat) : Int) := by
  unfold rmC
  rw [if_pos rfl]
theorem rmC_sk {c r k : Nat} (hr : r + 1 < nc) (hk : k < 10) : rmC V nc c (114 + 10 * r + k) = V (114 + 10 * sk c r + k) := by
  unfold rmC sk
  rw [if_neg (by omega)]
  by_cases h : r < c
  · rw [if_pos h, if_neg (by omega)]
  · rw [if_neg h, if_pos (by omega), show 114 + 10 * r + k + 10 = 114 + 10 * (r + 1) + k by omega]
theorem BOK.of {V' : Nat → Int} {r r' : Nat} (h : BOK V r) (hk : ∀ k, k < 8 → V' (18 + 8 * r' + k) = V (18 + 8 * r + k)) (h11 : V 11 ≤ V' 11) : BOK V' r' := by
  unfold BOK at h ⊢
  have e0 : V' (18 + 8 * r') = V (18 + 8 * r) := hk 0 (by omega)
  rw [e0, hk 1 (by omega), hk 2 (by omega), hk 3 (by omega), hk 4 (by omega), hk 5 (by omega), hk 6 (by omega), hk 7 (by omega)]
  exact ⟨h.1, by omega, h.2.2⟩
theorem COK.of {V' : Nat → Int} {r r' : Nat} (h : COK V r) (hk : ∀ k, k < 10 → V' (114 + 10 * r' + k) = V (114 + 10 * r + k)) (h11 : V 11 ≤ V' 11) (h13 : V 13 ≤ V' 13) : COK V' r' := by
  unfold COK at h ⊢
  have e0 : V' (114 + 10 * r') = V (114 + 10 * r) := hk 0 (by omega)
  rw [e0, hk 1 (by omega), hk 2 (by omega), hk 3 (by omega), hk 4 (by omega), hk 5 (by omega), hk 6 (by omega), hk 7 (by omega), hk 8 (by omega), hk 9 (by omega)]
  obtain ⟨a1, a2, a3, a4, a5, a6, a7, a8, a9, a10, a11, a12⟩ := h
  exact ⟨a1, by omega, a3, a4, a5, a6, a7, a8, a9, a10, a11, by omega⟩
/-- the rows ahead of the tables stay in order -/
theorem WF.heads {V' : Nat → Int} {t' : Nat} (h : WF V nb nc t) (hV : ∀ j, j < 10 → V' j = V j) (h11 : 0 ≤ V' 11 ∧ V' 11 ≤ 12 * t') (h13 : 0 ≤ V' 13 ∧ V' 13 ≤ 12 * t') : (0 ≤ V' 0 ∧ V' 0 ≤ 9999) ∧ (0 ≤ V' 1 ∧ V' 1 ≤ 200) ∧ (0 ≤ V' 2 ∧ V' 2 ≤ 500) ∧ (0 ≤ V' 3 ∧ V' 3 ≤ 9999) ∧ (∀ i, i < 6 → 0 ≤ V' (4 + i) ∧ V' (4 + i) ≤ 50) ∧ (0 ≤ V' 11 ∧ V' 11 ≤ 12 * t') ∧ (0 ≤ V' 13 ∧ V' 13 ≤ 12 * t') := by
  obtain ⟨-, ⟨v0, v1, v2, v3, v4, -⟩, -⟩ := h
  rw [hV 0 (by omega), hV 1 (by omega), hV 2 (by omega), hV 3 (by omega)]
  exact ⟨v0, v1, v2, v3, fun i hi => by rw [hV _ (by omega)]; exact v4 i hi, h11, h13⟩
theorem WF.addB {t' : Nat} (h : WF V nb nc t) (ht : t ≤ t') (hn : nb < 12) (h11 : V 11 + 1 ≤ 12 * t') {x0 x1 x2 x3 x4 x5 : Int} (g0 : 0 ≤ x0 ∧ x0 ≤ 7) (g1 : 0 ≤ x1 ∧ x1 ≤ 999999) (g2 : 0 ≤ x2 ∧ x2 ≤ 63) (g3 : 0 ≤ x3 ∧ x3 ≤ 7) (g4 : 0 ≤ x4 ∧ x4 ≤ 11) (g5 : 0 ≤ x5 ∧ x5 ≤ 255) : WF (nBag V nb x0 x1 x2 x3 x4 x5) (nb + 1) nc t' := by
  obtain ⟨n1, n2, n3⟩ := nBag_hd (V := V) (nb := nb) x0 x1 x2 x3 x4 x5
  obtain ⟨r1, r2, r3, r4, r5, r6, r7⟩ := nBag_row (V := V) (nb := nb) x0 x1 x2 x3 x4 x5
  obtain ⟨⟨a1, a2, a3, a4⟩, ⟨v0, -, -, -, -, v5, v6⟩, b1, b2, b3, b4, b5⟩ := id h
  have hV : ∀ j, j ≠ 10 → j ≠ 11 → (j < 18 + 8 * nb ∨ 18 + 8 * nb + 8 ≤ j) → nBag V nb x0 x1 x2 x3 x4 x5 j = V j := fun j e1 e2 e3 => nBag_off e1 e2 e3
  generalize nBag V nb x0 x1 x2 x3 x4 x5 = V' at *
  have old : ∀ r, r < nb → V' (18 + 8 * r) = V (18 + 8 * r) := fun r hr => hV _ (by omega) (by omega) (by omega)
  refine ⟨⟨n1, by rw [hV 12 (by omega) (by omega) (by omega)]; exact a2, by omega, a4⟩, h.heads (fun j hj => hV j (by omega) (by omega) (by omega)) (by omega) (by rw [hV 13 (by omega) (by omega) (by omega)]; omega), fun r hr => ?_, fun r hr => ?_, fun r q hr hq => ?_, fun r hr => ?_, fun r q hr hq => ?_⟩
  · by_cases e : r = nb
    · subst e
      unfold BOK
      rw [n3, r1, r2, r3, r4, r5, r6, r7, n2]
      exact ⟨by omega, by omega, g0, g1, g2, g3, g4, g5, v0⟩
    · exact (b1 r (by omega)).of (fun k hk => hV _ (by omega) (by omega) (by omega)) (by omega)
  · exact (b2 r hr).of (fun k hk => hV _ (by omega) (by omega) (by omega)) (by omega) (by rw [hV 13 (by omega) (by omega) (by omega)]; omega)
  · intro he
    by_cases e1 : r = nb
    · by_cases e2 : q = nb
      · omega
      · exfalso
        have := (b1 q (by omega)).2.1
        rw [e1, n3, old q (by omega)] at he
        omega
    · by_cases e2 : q = nb
      · exfalso
        have := (b1 r (by omega)).2.1
        rw [e2, n3, old r (by omega)] at he
        omega
      · rw [old r (by omega), old q (by omega)] at he
        exact b3 r q (by omega) (by omega) he
  · rw [hV _ (by omega) (by omega) (by omega)]
    intro hz
    obtain ⟨b, e1, e2⟩ := b4 r hr hz
    exact ⟨b, by omega, by rw [old b e1]; exact e2⟩
  · rw [hV _ (by omega) (by omega) (by omega), hV _ (by omega) (by omega) (by omega)]
    exact b5 r q hr hq
theorem WF.addC {t' : Nat} (h : WF V nb nc t) (ht : t ≤ t') (hn : nc < 10) (h13 : V 13 + 1 ≤ 12 * t') {x0 x1 x2 x3 x4 x5 x6 x7 : Int} (g0 : 0 ≤ x0 ∧ x0 ≤ 999999) (g1 : 0 ≤ x1 ∧ x1 ≤ 7) (g2 : 0 ≤ x2 ∧ x2 ≤ 11) (g3 : 0 ≤ x3 ∧ x3 ≤ 255) (g4 : 1 ≤ x4 ∧ x4 ≤ 255) (g5 : 1 ≤ x5 ∧ x5 ≤ 99999) (g6 : 0 ≤ x6 ∧ x6 ≤ 20) (g7 : -30 ≤ x7 ∧ x7 ≤ 9999) : WF (nClm V nc x0 x1 x2 x3 x4 x5 x6 x7) nb (nc + 1) t' := by
  obtain ⟨n1, n2, n3, n4⟩ := nClm_hd (V := V) (nc := nc) x0 x1 x2 x3 x4 x5 x6 x7
  obtain ⟨r1, r2, r3, r4, r5, r6, r7, r8⟩ := nClm_row (V := V) (nc := nc) x0 x1 x2 x3 x4 x5 x6 x7
  obtain ⟨⟨a1, a2, a3, a4⟩, ⟨v0, -, -, -, -, v5, v6⟩, b1, b2, b3, b4, b5⟩ := id h
  have hV : ∀ j, j ≠ 12 → j ≠ 13 → (j < 114 + 10 * nc ∨ 114 + 10 * nc + 10 ≤ j) → nClm V nc x0 x1 x2 x3 x4 x5 x6 x7 j = V j := fun j e1 e2 e3 => nClm_off e1 e2 e3
  generalize nClm V nc x0 x1 x2 x3 x4 x5 x6 x7 = V' at *
  have old : ∀ r, r < nc → V' (114 + 10 * r + 9) = V (114 + 10 * r + 9) := fun r hr => hV _ (by omega) (by omega) (by omega)
  have e11 : V' 11 = V 11 := hV 11 (by omega) (by omega) (by omega)
  refine ⟨⟨by rw [hV 10 (by omega) (by omega) (by omega)]; exact a1, n1, a3, by omega⟩, h.heads (fun j hj => hV j (by omega) (by omega) (by omega)) (by rw [e11]; omega) (by omega), fun r hr => ?_, fun r hr => ?_, fun r q hr hq => ?_, fun r hr => ?_, fun r q hr hq => ?_⟩
  · exact (b1 r hr).of (fun k hk => hV _ (by omega) (by omega) (by omega)) (by omega)
  · by_cases e : r = nc
    · subst e
      unfold COK
      rw [n3, r1, r2, r3, r4, r5, r6, r7, r8, n4, n2, e11]
      exact ⟨by omega, by omega, g0, g1, g2, g3, g4, g5, g6, g7, by omega, v5.1⟩
    · exact (b2 r (by omega)).of (fun k hk => hV _ (by omega) (by omega) (by omega)) (by omega) (by omega)
  · rw [hV _ (by omega) (by omega) (by omega), hV _ (by omega) (by omega) (by omega)]
    exact b3 r q hr hq
  · by_cases e : r = nc
    · rw [e, n4]; intro hz; exact absurd rfl hz
    · rw [old r (by omega)]
      intro hz
      obtain ⟨b, e1, e2⟩ := b4 r (by omega) hz
      exact ⟨b, e1, by rw [hV _ (by omega) (by omega) (by omega)]; exact e2⟩
  · by_cases e1 : r = nc
    · rw [e1, n4]; intro _ hz; exact absurd rfl hz
    · by_cases e2 : q = nc
      · rw [e2, n4]; intro e3 hz; exact absurd e3 hz
      · rw [old r (by omega), old q (by omega)]
        exact b5 r q (by omega) (by omega)
theorem WF.setM {t' : Nat} (h : WF V nb nc t) (ht : t ≤ t') {c : Nat} (hc : c < nc) {x : Int} (hx : x = 0 ∨ ∃ b, b < nb ∧ V (18 + 8 * b) = x ∧ ∀ r, r < nc → V (114 + 10 * r + 9) ≠ x) : WF (up V (114 + 10 * c + 9) x) nb nc t' := by
  obtain ⟨⟨a1, a2, a3, a4⟩, ⟨v0, -, -, -, -, v5, v6⟩, b1, b2, b3, b4, b5⟩ := id h
  have hV : ∀ j, j ≠ 114 + 10 * c + 9 → up V (114 + 10 * c + 9) x j = V j := fun j e => up_off e
  have hA : up V (114 + 10 * c + 9) x (114 + 10 * c + 9) = x := up_at
  have hx2 : 0 ≤ x ∧ x ≤ V 11 := by
    rcases hx with e | ⟨b, e1, e2, -⟩
    · omega
    · have := b1 b e1
      rw [← e2]; exact ⟨by have := this.1; omega, this.2.1⟩
  generalize up V (114 + 10 * c + 9) x = V' at *
  have e11 : V' 11 = V 11 := hV _ (by omega)
  have e13 : V' 13 = V 13 := hV _ (by omega)
  refine ⟨⟨by rw [hV _ (by omega)]; exact a1, by rw [hV _ (by omega)]; exact a2, a3, a4⟩, h.heads (fun j hj => hV j (by omega)) (by rw [e11]; omega) (by rw [e13]; omega), fun r hr => ?_, fun r hr => ?_, fun r q hr hq => ?_, fun r hr => ?_, fun r q hr hq => ?_⟩
  · exact (b1 r hr).of (fun k hk => hV _ (by omega)) (by omega)
  · by_cases e : r = c
    · subst e
      have := b2 r hr
      unfold COK at this ⊢
      rw [hA, e11, e13, hV _ (by omega), hV _ (by omega), hV _ (by omega), hV _ (by omega), hV _ (by omega), hV _ (by omega), hV _ (by omega), hV _ (by omega), hV _ (by omega)]
      obtain ⟨a1, a2, a3, a4, a5, a6, a7, a8, a9, a10, a11, a12⟩ := this
      exact ⟨a1, a2, a3, a4, a5, a6, a7, a8, a9, a10, hx2⟩
    · exact (b2 r hr).of (fun k hk => hV _ (by omega)) (by omega) (by omega)
  · rw [hV _ (by omega), hV _ (by omega)]
    exact b3 r q hr hq
  · by_cases e : r = c
    · rw [e, hA]
      intro hz
      rcases hx with e | ⟨b, e1, e2, -⟩
      · exact absurd e hz
      · exact ⟨b, e1, by rw [hV _ (by omega)]; exact e2⟩
    · rw [hV _ (by omega)]
      intro hz
      obtain ⟨b, e1, e2⟩ := b4 r hr hz
      exact ⟨b, e1, by rw [hV _ (by omega)]; exact e2⟩
  · intro he hz
    by_cases e1 : r = c
    · by_cases e2 : q = c
      · omega
      · rw [e1, hA] at he hz
        rw [hV _ (by omega)] at he
        rcases hx with e | ⟨b, -, -, e⟩
        · exact absurd e hz
        · exact absurd he.symm (e q hq)
    · rw [hV _ (by omega)] at he hz
      by_cases e2 : q = c
      · rw [e2, hA] at he
        rcases hx with e | ⟨b, -, -, e⟩
        · exact absurd (he.trans e) hz
        · exact absurd he (e r hr)
      · rw [hV _ (by omega)] at he
        exact b5 r q hr hq he hz
theorem WF.delC {t' : Nat} (h : WF V nb nc t) (ht : t ≤ t') {c : Nat} (hc : c < nc) : WF (rmC V nc c) nb (nc - 1) t' := by
  obtain ⟨⟨a1, a2, a3, a4⟩, ⟨v0, -, -, -, -, v5, v6⟩, b1, b2, b3, b4, b5⟩ := id h
  have hV : ∀ j, j ≠ 12 → j < 114 → rmC V nc c j = V j := fun j e1 e2 => rmC_off e1 (Or.inl e2)
  have hA : ∀ r k, r + 1 < nc → k < 10 → rmC V nc c (114 + 10 * r + k) = V (114 + 10 * sk c r + k) := fun r k e1 e2 => rmC_sk e1 e2
  have hN : rmC V nc c 12 = ((nc - 1 : Nat) : Int) := rmC_12
  generalize rmC V nc c = V' at *
  have e11 : V' 11 = V 11 := hV _ (by omega) (by omega)
  have e13 : V' 13 = V 13 := hV _ (by omega) (by omega)
  refine ⟨⟨by rw [hV _ (by omega) (by omega)]; exact a1, hN, a3, by omega⟩, h.heads (fun j hj => hV j (by omega) (by omega)) (by rw [e11]; omega) (by rw [e13]; omega), fun r hr => ?_, fun r hr => ?_, fun r q hr hq => ?_, fun r hr => ?_, fun r q hr hq => ?_⟩
  · exact (b1 r hr).of (fun k hk => hV _ (by omega) (by omega)) (by omega)
  · exact (b2 _ (sk_lt (by omega))).of (fun k hk => hA r k (by omega) hk) (by omega) (by omega)
  · rw [hV _ (by omega) (by omega), hV _ (by omega) (by omega)]
    exact b3 r q hr hq
  · rw [hA r 9 (by omega) (by omega)]
    intro hz
    obtain ⟨b, e1, e2⟩ := b4 _ (sk_lt (by omega)) hz
    exact ⟨b, e1, by rw [hV _ (by omega) (by omega)]; exact e2⟩
  · rw [hA r 9 (by omega) (by omega), hA q 9 (by omega) (by omega)]
    intro he hz
    exact sk_inj (b5 _ _ (sk_lt (by omega)) (sk_lt (by omega)) he hz)
theorem WF.delB {t' : Nat} (h : WF V nb nc t) (ht : t ≤ t') {b : Nat} (hb : b < nb) (hf : ∀ r, r < nc → V (114 + 10 * r + 9) ≠ V (18 + 8 * b)) : WF (rmB V nb b) (nb - 1) nc t' := by
  obtain ⟨⟨a1, a2, a3, a4⟩, ⟨v0, -, -, -, -, v5, v6⟩, b1, b2, b3, b4, b5⟩ := id h
  have hV : ∀ j, j ≠ 10 → (j < 18 ∨ 114 ≤ j) → rmB V nb b j = V j := fun j e1 e2 => rmB_off e1 (by omega)
  have hA : ∀ r k, r + 1 < nb → k < 8 → rmB V nb b (18 + 8 * r + k) = V (18 + 8 * sk b r + k) := fun r k e1 e2 => rmB_sk e1 e2
  have hN : rmB V nb b 10 = ((nb - 1 : Nat) : Int) := rmB_10
  generalize rmB V nb b = V' at *
  have e11 : V' 11 = V 11 := hV _ (by omega) (by omega)
  have e13 : V' 13 = V 13 := hV _ (by omega) (by omega)
  have hA0 : ∀ r, r + 1 < nb → V' (18 + 8 * r) = V (18 + 8 * sk b r) := fun r e => hA r 0 e (by omega)
  refine ⟨⟨hN, by rw [hV _ (by omega) (by omega)]; exact a2, by omega, a4⟩, h.heads (fun j hj => hV j (by omega) (by omega)) (by rw [e11]; omega) (by rw [e13]; omega), fun r hr => ?_, fun r hr => ?_, fun r q hr hq => ?_, fun r hr => ?_, fun r q hr hq => ?_⟩
  · exact (b1 _ (sk_lt (by omega))).of (fun k hk => hA r k (by omega) hk) (by omega)
  · exact (b2 r hr).of (fun k hk => hV _ (by omega) (by omega)) (by omega) (by omega)
  · rw [hA0 r (by omega), hA0 q (by omega)]
    intro he
    exact sk_inj (b3 _ _ (sk_lt (by omega)) (sk_lt (by omega)) he)
  · rw [hV _ (by omega) (by omega)]
    intro hz
    obtain ⟨b', e1, e2⟩ := b4 r hr hz
    obtain ⟨q, e3, e4⟩ := sk_onto (c := b) e1 (fun e => hf r hr (by rw [← e, e2])) hb
    exact ⟨q, by omega, by rw [hA0 q e3, e4]; exact e2⟩
  · rw [hV _ (by omega) (by omega), hV _ (by omega) (by omega)]
    exact b5 r q hr hq
end OPS
end
section
/-! the class's office under a change -/
section OFF
variable {M M' : Me} {h : Ml} {V : Nat → Int} {nb nc t : Nat}
theorem cw_free (hW : WF V nb nc t) (b : Nat) : cw V nc b = -10006 ↔ ∀ r, r < nc → V (114 + 10 * r + 9) ≠ V (18 + 8 * b) := by
  unfold cw
  rcases fnd_spec (f := fun c => V (114 + 10 * c + 9)) (x := V (18 + 8 * b)) (n := nc) with ⟨h1, h2, h3⟩ | ⟨h1, h2⟩
  · rw [if_pos h1]
    constructor
    · intro e
      have := (hW.2.2.2.1 _ h1).1
      omega
    · intro e
      exact absurd h2 (e _ h1)
  · rw [if_neg (by omega)]
    exact ⟨fun _ => h2, fun _ => rfl⟩
theorem cw_none {V : Nat → Int} {nc r : Nat} (e : ∀ q, q < nc → V (114 + 10 * q + 9) ≠ V (18 + 8 * r)) : cw V nc r = -10006 := by
  unfold cw
  rw [fnd_none (f := fun c => V (114 + 10 * c + 9)) e, if_neg (by omega)]
theorem cw_some {V : Nat → Int} {nc r c : Nat} (hc : c < nc) (e0 : V (114 + 10 * c + 9) = V (18 + 8 * r)) (e : ∀ q, q < nc → q ≠ c → V (114 + 10 * q + 9) ≠ V (18 + 8 * r)) : cw V nc r = V (114 + 10 * c) := by
  unfold cw
  rw [fnd_some (f := fun c => V (114 + 10 * c + 9)) hc e0 (fun j hj => e j (by omega) (by omega)), if_pos hc]
theorem cw_same {V V' : Nat → Int} {nc r : Nat} (hr : V' (18 + 8 * r) = V (18 + 8 * r)) (h9 : ∀ c, c < nc → (V' (114 + 10 * c + 9) = V (18 + 8 * r) ↔ V (114 + 10 * c + 9) = V (18 + 8 * r))) (h0 : ∀ c, c < nc → V' (114 + 10 * c) = V (114 + 10 * c)) : cw V' nc r = cw V nc r := by
  have e : fnd (fun c => V' (114 + 10 * c + 9)) (V' (18 + 8 * r)) nc = fnd (fun c => V (114 + 10 * c + 9)) (V (18 + 8 * r)) nc := by rw [hr]; exact fnd_iff h9
  unfold cw
  rw [e]
  by_cases g : fnd (fun c => V (114 + 10 * c + 9)) (V (18 + 8 * r)) nc < nc
  · rw [if_pos g, if_pos g, h0 _ g]
  · rw [if_neg g, if_neg g]
theorem OfRel.addB (hR : OfRel M 1 V nb nc) (hW : WF V nb nc t) (hn : nb < 12) {x0 x1 x2 x3 x4 x5 : Int} (hk : ∀ k, k ≠ 2 → k ≠ 3 → k ≠ 4 → M' k = M k) (h23 : M' 2 3 = ((nb + 1 : Nat) : Int)) (h24 : M' 2 4 = V 11 + 1) (h3 : M' 3 nb = V 11 + 1) (h3' : ∀ r, r ≠ nb → M' 3 r = M 3 r) (h4 : ∀ i, i < 8 * nb → M' 4 i = M 4 i)
    (g : M' 4 (8 * nb) = x0 ∧ M' 4 (8 * nb + 1) = x1 ∧ M' 4 (8 * nb + 2) = x2 ∧ M' 4 (8 * nb + 3) = x3 ∧ M' 4 (8 * nb + 4) = x4 ∧ M' 4 (8 * nb + 5) = x5 ∧ M' 4 (8 * nb + 6) = V 0 ∧ M' 4 (8 * nb + 7) = -10006) : OfRel M' 1 (nBag V nb x0 x1 x2 x3 x4 x5) (nb + 1) nc := by
  obtain ⟨n1, n2, n3⟩ := nBag_hd (V := V) (nb := nb) x0 x1 x2 x3 x4 x5
  obtain ⟨r1, r2, r3, r4, r5, r6, r7⟩ := nBag_row (V := V) (nb := nb) x0 x1 x2 x3 x4 x5
  have hV : ∀ j, j ≠ 10 → j ≠ 11 → (j < 18 + 8 * nb ∨ 18 + 8 * nb + 8 ≤ j) → nBag V nb x0 x1 x2 x3 x4 x5 j = V j := fun j e1 e2 e3 => nBag_off e1 e2 e3
  generalize nBag V nb x0 x1 x2 x3 x4 x5 = V' at *
  obtain ⟨a1, a2, a3, a4, a5⟩ := hR
  have k1 := hk 1 (by omega) (by omega) (by omega)
  have k8 := hk 8 (by omega) (by omega) (by omega)
  have k5 := hk 5 (by omega) (by omega) (by omega)
  have k6 := hk 6 (by omega) (by omega) (by omega)
  have k7 := hk 7 (by omega) (by omega) (by omega)
  refine ⟨?_, fun i hi => ?_, ?_, fun r hr => ?_, fun r hr => ?_⟩
  · rw [k1, hV 0 (by omega) (by omega) (by omega), hV 1 (by omega) (by omega) (by omega), hV 2 (by omega) (by omega) (by omega), hV 3 (by omega) (by omega) (by omega), hV 14 (by omega) (by omega) (by omega), hV 15 (by omega) (by omega) (by omega), hV 16 (by omega) (by omega) (by omega), hV 17 (by omega) (by omega) (by omega)]
    exact a1
  · rw [show 1 + 7 = 8 from rfl, k8, hV _ (by omega) (by omega) (by omega)]
    exact a2 i hi
  · rw [show 1 + 1 = 2 from rfl, show 1 + 4 = 5 from rfl, k5, n2, hV 13 (by omega) (by omega) (by omega)]
    exact ⟨h23, h24, a3.2.2⟩
  · rw [show 1 + 2 = 3 from rfl, show 1 + 3 = 4 from rfl]
    by_cases e : r = nb
    · subst e
      refine ⟨by rw [h3, n3], fun c hc => ?_, ?_⟩
      · rcases (show c = 0 ∨ c = 1 ∨ c = 2 ∨ c = 3 ∨ c = 4 ∨ c = 5 ∨ c = 6 by omega) with e | e | e | e | e | e | e <;> subst e
        · exact g.1.trans r1.symm
        · exact g.2.1.trans r2.symm
        · exact g.2.2.1.trans r3.symm
        · exact g.2.2.2.1.trans r4.symm
        · exact g.2.2.2.2.1.trans r5.symm
        · exact g.2.2.2.2.2.1.trans r6.symm
        · exact g.2.2.2.2.2.2.1.trans r7.symm
      · rw [g.2.2.2.2.2.2.2]
        refine (cw_none (fun q hq => ?_)).symm
        rw [n3, hV _ (by omega) (by omega) (by omega)]
        have := hW.2.2.2.1 q hq
        have := this.2.2.2.2.2.2.2.2.2.2.2
        omega
    · obtain ⟨b1, b2, b3⟩ := a4 r (by omega)
      refine ⟨?_, fun c hc => ?_, ?_⟩
      · rw [h3' r e, hV _ (by omega) (by omega) (by omega)]; exact b1
      · rw [h4 _ (by omega), hV _ (by omega) (by omega) (by omega)]; exact b2 c hc
      · rw [h4 _ (by omega), cw_congr (V := V) (hV _ (by omega) (by omega) (by omega)) (fun c _ => hV _ (by omega) (by omega) (by omega)) (fun c _ => hV _ (by omega) (by omega) (by omega))]; exact b3
  · obtain ⟨b1, b2, b3⟩ := a5 r hr
    rw [show 1 + 5 = 6 from rfl, show 1 + 6 = 7 from rfl, k6, k7, pt_congr (V := V) (hV _ (by omega) (by omega) (by omega))]
    exact ⟨by rw [hV _ (by omega) (by omega) (by omega)]; exact b1, fun c hc => by rw [hV _ (by omega) (by omega) (by omega)]; exact b2 c hc, b3⟩
theorem OfRel.addC (hR : OfRel M 1 V nb nc) (hW : WF V nb nc t) (hn : nc < 10) {x0 x1 x2 x3 x4 x5 x6 x7 : Int} (hk : ∀ k, k ≠ 5 → k ≠ 6 → k ≠ 7 → M' k = M k) (h23 : M' 5 3 = ((nc + 1 : Nat) : Int)) (h24 : M' 5 4 = V 13 + 1) (h3 : M' 6 nc = V 13 + 1) (h3' : ∀ r, r ≠ nc → M' 6 r = M 6 r) (h4 : ∀ i, i < 9 * nc → M' 7 i = M 7 i)
    (g : M' 7 (9 * nc) = x0 ∧ M' 7 (9 * nc + 1) = x1 ∧ M' 7 (9 * nc + 2) = x2 ∧ M' 7 (9 * nc + 3) = x3 ∧ M' 7 (9 * nc + 4) = x4 ∧ M' 7 (9 * nc + 5) = x5 ∧ M' 7 (9 * nc + 6) = x6 ∧ M' 7 (9 * nc + 7) = x7 ∧ M' 7 (9 * nc + 8) = -10006) : OfRel M' 1 (nClm V nc x0 x1 x2 x3 x4 x5 x6 x7) nb (nc + 1) := by
  obtain ⟨n1, n2, n3, n4⟩ := nClm_hd (V := V) (nc := nc) x0 x1 x2 x3 x4 x5 x6 x7
  obtain ⟨r1, r2, r3, r4, r5, r6, r7, r8⟩ := nClm_row (V := V) (nc := nc) x0 x1 x2 x3 x4 x5 x6 x7
  have hV : ∀ j, j ≠ 12 → j ≠ 13 → (j < 114 + 10 * nc ∨ 114 + 10 * nc + 10 ≤ j) → nClm V nc x0 x1 x2 x3 x4 x5 x6 x7 j = V j := fun j e1 e2 e3 => nClm_off e1 e2 e3
  generalize nClm V nc x0 x1 x2 x3 x4 x5 x6 x7 = V' at *
  obtain ⟨a1, a2, a3, a4, a5⟩ := hR
  have k1 := hk 1 (by omega) (by omega) (by omega)
  have k8 := hk 8 (by omega) (by omega) (by omega)
  have k2 := hk 2 (by omega) (by omega) (by omega)
  have k3 := hk 3 (by omega) (by omega) (by omega)
  have k4 := hk 4 (by omega) (by omega) (by omega)
  have hnb := hW.1.2.2.1
  refine ⟨?_, fun i hi => ?_, ?_, fun r hr => ?_, fun r hr => ?_⟩
  · rw [k1, hV 0 (by omega) (by omega) (by omega), hV 1 (by omega) (by omega) (by omega), hV 2 (by omega) (by omega) (by omega), hV 3 (by omega) (by omega) (by omega), hV 14 (by omega) (by omega) (by omega), hV 15 (by omega) (by omega) (by omega), hV 16 (by omega) (by omega) (by omega), hV 17 (by omega) (by omega) (by omega)]
    exact a1
  · rw [show 1 + 7 = 8 from rfl, k8, hV _ (by omega) (by omega) (by omega)]
    exact a2 i hi
  · rw [show 1 + 1 = 2 from rfl, show 1 + 4 = 5 from rfl, k2, n2, hV 11 (by omega) (by omega) (by omega)]
    exact ⟨a3.1, a3.2.1, h23, h24⟩
  · obtain ⟨b1, b2, b3⟩ := a4 r hr
    rw [show 1 + 2 = 3 from rfl, show 1 + 3 = 4 from rfl, k3, k4]
    have ecw : cw V' (nc + 1) r = cw V nc r := by
      have hr0 : V' (18 + 8 * r) = V (18 + 8 * r) := hV _ (by omega) (by omega) (by omega)
      have h9 : ∀ c, c < nc → V' (114 + 10 * c + 9) = V (114 + 10 * c + 9) := fun c _ => hV _ (by omega) (by omega) (by omega)
      have hpos := (hW.2.2.1 r hr).1
      rcases fnd_spec (f := fun c => V (114 + 10 * c + 9)) (x := V (18 + 8 * r)) (n := nc) with ⟨e1, e2, e3⟩ | ⟨e1, e2⟩
      · have e4 : fnd (fun c => V' (114 + 10 * c + 9)) (V' (18 + 8 * r)) (nc + 1) = fnd (fun c => V (114 + 10 * c + 9)) (V (18 + 8 * r)) nc := fnd_some (by omega) (by show V' _ = V' _; rw [h9 _ e1, hr0]; exact e2) (fun j hj => by show V' _ ≠ V' _; rw [h9 _ (by omega), hr0]; exact e3 j hj)
        unfold cw
        rw [e4, if_pos e1, if_pos (by omega), hV _ (by omega) (by omega) (by omega)]
      · rw [cw_none (V := V) e2, cw_none (V := V')]
        intro q hq
        by_cases e : q = nc
        · rw [e, n4, hr0]; omega
        · rw [h9 q (by omega), hr0]; exact e2 q (by omega)
    rw [ecw, hV _ (by omega) (by omega) (by omega)]
    exact ⟨b1, fun c hc => by rw [hV _ (by omega) (by omega) (by omega)]; exact b2 c hc, b3⟩
  · rw [show 1 + 5 = 6 from rfl, show 1 + 6 = 7 from rfl]
    by_cases e : r = nc
    · subst e
      refine ⟨by rw [h3, n3], fun c hc => ?_, ?_⟩
      · rcases (show c = 0 ∨ c = 1 ∨ c = 2 ∨ c = 3 ∨ c = 4 ∨ c = 5 ∨ c = 6 ∨ c = 7 by omega) with e | e | e | e | e | e | e | e <;> subst e
        · exact g.1.trans r1.symm
        · exact g.2.1.trans r2.symm
        · exact g.2.2.1.trans r3.symm
        · exact g.2.2.2.1.trans r4.symm
        · exact g.2.2.2.2.1.trans r5.symm
        · exact g.2.2.2.2.2.1.trans r6.symm
        · exact g.2.2.2.2.2.2.1.trans r7.symm
        · exact g.2.2.2.2.2.2.2.1.trans r8.symm
      · rw [g.2.2.2.2.2.2.2.2]
        unfold pt
        rw [if_pos n4]
    · obtain ⟨b1, b2, b3⟩ := a5 r (by omega)
      refine ⟨?_, fun c hc => ?_, ?_⟩
      · rw [h3' r e, hV _ (by omega) (by omega) (by omega)]; exact b1
      · rw [h4 _ (by omega), hV _ (by omega) (by omega) (by omega)]; exact b2 c hc
      · rw [h4 _ (by omega), pt_congr (V := V) (hV _ (by omega) (by omega) (by omega))]; exact b3
theorem OfRel.setM (hR : OfRel M 1 V nb nc) (hn : nb ≤ 12) {c : Nat} {x : Int} (hk : ∀ k, k ≠ 4 → k ≠ 7 → M' k = M k) (h7 : M' 7 (9 * c + 8) = if x = 0 then -10006 else x) (h7' : ∀ i, i ≠ 9 * c + 8 → M' 7 i = M 7 i) (h4 : ∀ r, r < nb → M' 4 (8 * r + 7) = cw (up V (114 + 10 * c + 9) x) nc r) (h4' : ∀ r k, r < nb → k < 7 → M' 4 (8 * r + k) = M 4 (8 * r + k)) : OfRel M' 1 (up V (114 + 10 * c + 9) x) nb nc := by
  have hV : ∀ j, j ≠ 114 + 10 * c + 9 → up V (114 + 10 * c + 9) x j = V j := fun j e => up_off e
  have hA : up V (114 + 10 * c + 9) x (114 + 10 * c + 9) = x := up_at
  generalize up V (114 + 10 * c + 9) x = V' at *
  obtain ⟨a1, a2, a3, a4, a5⟩ := hR
  have k1 := hk 1 (by omega) (by omega)
  have k8 := hk 8 (by omega) (by omega)
  have k2 := hk 2 (by omega) (by omega)
  have k3 := hk 3 (by omega) (by omega)
  have k5 := hk 5 (by omega) (by omega)
  have k6 := hk 6 (by omega) (by omega)
  refine ⟨?_, fun i hi => ?_, ?_, fun r hr => ?_, fun r hr => ?_⟩
  · rw [k1, hV 0 (by omega), hV 1 (by omega), hV 2 (by omega), hV 3 (by omega), hV 14 (by omega), hV 15 (by omega), hV 16 (by omega), hV 17 (by omega)]
    exact a1
  · rw [show 1 + 7 = 8 from rfl, k8, hV _ (by omega)]
    exact a2 i hi
  · rw [show 1 + 1 = 2 from rfl, show 1 + 4 = 5 from rfl, k2, k5, hV 11 (by omega), hV 13 (by omega)]
    exact a3
  · obtain ⟨b1, b2, b3⟩ := a4 r hr
    rw [show 1 + 2 = 3 from rfl, show 1 + 3 = 4 from rfl, k3, hV _ (by omega)]
    exact ⟨b1, fun k hk' => by rw [h4' r k hr (by omega), hV _ (by omega)]; exact b2 k hk', h4 r hr⟩
  · obtain ⟨b1, b2, b3⟩ := a5 r hr
    rw [show 1 + 5 = 6 from rfl, show 1 + 6 = 7 from rfl, k6, hV _ (by omega)]
    refine ⟨b1, fun k hk' => by rw [h7' _ (by omega), hV _ (by omega)]; exact b2 k hk', ?_⟩
    by_cases e : r = c
    · subst e
      rw [h7]
      unfold pt
      rw [hA]
    · rw [h7' _ (by omega), pt_congr (V := V) (hV _ (by omega))]
      exact b3
theorem OfRel.delB (hR : OfRel M 1 V nb nc) (hn : nb ≤ 12) {b : Nat} (hb : b < nb) (hk : ∀ k, k ≠ 2 → k ≠ 3 → k ≠ 4 → M' k = M k) (h23 : M' 2 3 = ((nb - 1 : Nat) : Int)) (h24 : M' 2 4 = M 2 4) (h3 : ∀ r, r + 1 < nb → M' 3 r = M 3 (sk b r)) (h4 : ∀ r k, r + 1 < nb → k < 8 → M' 4 (8 * r + k) = M 4 (8 * sk b r + k)) : OfRel M' 1 (rmB V nb b) (nb - 1) nc := by
  have hV : ∀ j, j ≠ 10 → (j < 18 ∨ 114 ≤ j) → rmB V nb b j = V j := fun j e1 e2 => rmB_off e1 (by omega)
  have hA : ∀ r k, r + 1 < nb → k < 8 → rmB V nb b (18 + 8 * r + k) = V (18 + 8 * sk b r + k) := fun r k e1 e2 => rmB_sk e1 e2
  generalize rmB V nb b = V' at *
  have hA0 : ∀ r, r + 1 < nb → V' (18 + 8 * r) = V (18 + 8 * sk b r) := fun r e => hA r 0 e (by omega)
  obtain ⟨a1, a2, a3, a4, a5⟩ := hR
  have k1 := hk 1 (by omega) (by omega) (by omega)
  have k8 := hk 8 (by omega) (by omega) (by omega)
  have k5 := hk 5 (by omega) (by omega) (by omega)
  have k6 := hk 6 (by omega) (by omega) (by omega)
  have k7 := hk 7 (by omega) (by omega) (by omega)
  refine ⟨?_, fun i hi => ?_, ?_, fun r hr => ?_, fun r hr => ?_⟩
  · rw [k1, hV 0 (by omega) (by omega), hV 1 (by omega) (by omega), hV 2 (by omega) (by omega), hV 3 (by omega) (by omega), hV 14 (by omega) (by omega), hV 15 (by omega) (by omega), hV 16 (by omega) (by omega), hV 17 (by omega) (by omega)]
    exact a1
  · rw [show 1 + 7 = 8 from rfl, k8, hV _ (by omega) (by omega)]
    exact a2 i hi
  · rw [show 1 + 1 = 2 from rfl, show 1 + 4 = 5 from rfl, k5, hV 11 (by omega) (by omega), hV 13 (by omega) (by omega)]
    exact ⟨h23, h24.trans a3.2.1, a3.2.2⟩
  · rw [show 1 + 2 = 3 from rfl, show 1 + 3 = 4 from rfl]
    obtain ⟨b1, b2, b3⟩ := a4 (sk b r) (sk_lt (by omega))
    refine ⟨?_, fun k hk' => ?_, ?_⟩
    · rw [h3 r (by omega), hA0 r (by omega)]; exact b1
    · rw [h4 r k (by omega) (by omega), show 18 + 8 * r + 1 + k = 18 + 8 * r + (1 + k) by omega, hA r (1 + k) (by omega) (by omega), show 18 + 8 * sk b r + (1 + k) = 18 + 8 * sk b r + 1 + k by omega]; exact b2 k hk'
    · rw [h4 r 7 (by omega) (by omega), show M (1 + 3) = M 4 from rfl] at *
      rw [b3]
      have e1 : (fun c => V' (114 + 10 * c + 9)) = (fun c => V (114 + 10 * c + 9)) := funext (fun c => hV _ (by omega) (by omega))
      unfold cw
      rw [e1, hA0 r (by omega), hV (114 + 10 * _) (by omega) (by omega)]
  · obtain ⟨b1, b2, b3⟩ := a5 r hr
    rw [show 1 + 5 = 6 from rfl, show 1 + 6 = 7 from rfl, k6, k7, pt_congr (V := V) (hV _ (by omega) (by omega))]
    exact ⟨by rw [hV _ (by omega) (by omega)]; exact b1, fun c hc => by rw [hV _ (by omega) (by omega)]; exact b2 c hc, b3⟩
theorem OfRel.delC (hR : OfRel M 1 V nb nc) (hn : nc ≤ 10) (hnb : nb ≤ 12) {c : Nat} (hc : c < nc) (hf : ∀ r, r < nb → V (114 + 10 * c + 9) ≠ V (18 + 8 * r)) (hk : ∀ k, k ≠ 5 → k ≠ 6 → k ≠ 7 → M' k = M k) (h23 : M' 5 3 = ((nc - 1 : Nat) : Int)) (h24 : M' 5 4 = M 5 4) (h3 : ∀ r, r + 1 < nc → M' 6 r = M 6 (sk c r)) (h4 : ∀ r k, r + 1 < nc → k < 9 → M' 7 (9 * r + k) = M 7 (9 * sk c r + k)) : OfRel M' 1 (rmC V nc c) nb (nc - 1) := by
  have hV : ∀ j, j ≠ 12 → j < 114 → rmC V nc c j = V j := fun j e1 e2 => rmC_off e1 (Or.inl e2)
  have hA : ∀ r k, r + 1 < nc → k < 10 → rmC V nc c (114 + 10 * r + k) = V (114 + 10 * sk c r + k) := fun r k e1 e2 => rmC_sk e1 e2
  generalize rmC V nc c = V' at *
  have hA0 : ∀ r, r + 1 < nc → V' (114 + 10 * r) = V (114 + 10 * sk c r) := fun r e => hA r 0 e (by omega)
  obtain ⟨a1, a2, a3, a4, a5⟩ := hR
  have k1 := hk 1 (by omega) (by omega) (by omega)
  have k8 := hk 8 (by omega) (by omega) (by omega)
  have k2 := hk 2 (by omega) (by omega) (by omega)
  have k3 := hk 3 (by omega) (by omega) (by omega)
  have k4 := hk 4 (by omega) (by omega) (by omega)
  refine ⟨?_, fun i hi => ?_, ?_, fun r hr => ?_, fun r hr => ?_⟩
  · rw [k1, hV 0 (by omega) (by omega), hV 1 (by omega) (by omega), hV 2 (by omega) (by omega), hV 3 (by omega) (by omega), hV 14 (by omega) (by omega), hV 15 (by omega) (by omega), hV 16 (by omega) (by omega), hV 17 (by omega) (by omega)]
    exact a1
  · rw [show 1 + 7 = 8 from rfl, k8, hV _ (by omega) (by omega)]
    exact a2 i hi
  · rw [show 1 + 1 = 2 from rfl, show 1 + 4 = 5 from rfl, k2, hV 11 (by omega) (by omega), hV 13 (by omega) (by omega)]
    exact ⟨a3.1, a3.2.1, h23, h24.trans a3.2.2.2⟩
  · obtain ⟨b1, b2, b3⟩ := a4 r hr
    rw [show 1 + 2 = 3 from rfl, show 1 + 3 = 4 from rfl, k3, k4, hV _ (by omega) (by omega)]
    refine ⟨b1, fun k hk' => by rw [hV _ (by omega) (by omega)]; exact b2 k hk', ?_⟩
    rw [show M (1 + 3) = M 4 from rfl] at b3
    rw [b3]
    have e0 : V' (18 + 8 * r) = V (18 + 8 * r) := hV _ (by omega) (by omega)
    rcases fnd_sk (f := fun c => V (114 + 10 * c + 9)) (g := fun c => V' (114 + 10 * c + 9)) (x := V (18 + 8 * r)) hc (fun q hq => hA q 9 hq (by omega)) (hf r hr) with ⟨g1, g2⟩ | ⟨g1, g2⟩
    · unfold cw
      rw [e0, g1, g2, if_neg (by omega), if_neg (by omega)]
    · unfold cw
      rw [e0, g2, if_pos g1, if_pos (sk_lt (by omega)), hA0 _ (by omega)]
  · rw [show 1 + 5 = 6 from rfl, show 1 + 6 = 7 from rfl]
    obtain ⟨b1, b2, b3⟩ := a5 (sk c r) (sk_lt (by omega))
    refine ⟨?_, fun k hk' => ?_, ?_⟩
    · rw [h3 r (by omega), hA0 r (by omega)]; exact b1
    · rw [h4 r k (by omega) (by omega), show 114 + 10 * r + 1 + k = 114 + 10 * r + (1 + k) by omega, hA r (1 + k) (by omega) (by omega), show 114 + 10 * sk c r + (1 + k) = 114 + 10 * sk c r + 1 + k by omega]; exact b2 k hk'
    · rw [h4 r 8 (by omega) (by omega)]
      rw [show M (1 + 6) = M 7 from rfl] at b3
      rw [b3]
      unfold pt
      rw [hA r 9 (by omega) (by omega)]
end OFF
end
section
/-! bags and claims come -/
section COMING
variable {M : Me} {h : Ml} {a : At} {V : Nat → Int} {nb nc t : Nat}
abbrev Of (M : Me) (h : Ml) (r : Int) (V' : Nat → Int) (nb' nc' : Nat) : Option ZV → Me → Ml → Prop := fun v M' h' => v = some (zi r) ∧ h' = h ∧ (∀ k, 9 ≤ k → M' k = M k) ∧ M' 2 0 = M 2 0 ∧ M' 5 0 = M 5 0 ∧ OfRel M' 1 V' nb' nc'
theorem o_addBag (hR : OfRel M 1 V nb nc) (hw : M 2 0 = 8) (hW : WF V nb nc t) (hn : nb < 12) (ht : V 11 ≤ 1000000) (x0 x1 x2 x3 x4 x5 : Int) (h1 : 0 ≤ x1 ∧ x1 ≤ 999999) : Wp zS0 tX3_addBag none 0 [zr 1, zi x0, zi x1, zi x2, zi x3, zi x4, zi x5, zn] [] M h (Of M h (V 11 + 1) (nBag V nb x0 (leg x1 x2) x2 x3 x4 x5) (nb + 1) nc) := by
  have v11 := hW.2.1.2.2.2.2.2.1
  have e11 : w32 (V 11 + 1) = V 11 + 1 := w32_id ⟨by omega, by omega⟩
  refine Wp.g1 rfl ?_
  refine Wp.calli rfl (m2_append nb M h hw hR.2.2.1.1 hn) ?_
  rw [show M 2 4 = V 11 from hR.2.2.1.2.1, e11]
  have f1 : ∀ k, k ≠ 2 → k ≠ 3 → k ≠ 4 → upd2 (upd2 (upd2 (upd2 M 2 3 ((nb + 1 : Nat) : Int)) 2 4 (V 11 + 1)) 3 nb (V 11 + 1)) 4 (8 * nb + 7) (-10006) k = M k := fun k g1 g2 g3 => by rw [upd2_ne g3, upd2_ne g2, upd2_ne g1, upd2_ne g1]
  have f2 : upd2 (upd2 (upd2 (upd2 M 2 3 ((nb + 1 : Nat) : Int)) 2 4 (V 11 + 1)) 3 nb (V 11 + 1)) 4 (8 * nb + 7) (-10006) 2 3 = ((nb + 1 : Nat) : Int) := by simp [upd2]
  have f3 : upd2 (upd2 (upd2 (upd2 M 2 3 ((nb + 1 : Nat) : Int)) 2 4 (V 11 + 1)) 3 nb (V 11 + 1)) 4 (8 * nb + 7) (-10006) 2 4 = V 11 + 1 := by simp [upd2]
  have f0 : upd2 (upd2 (upd2 (upd2 M 2 3 ((nb + 1 : Nat) : Int)) 2 4 (V 11 + 1)) 3 nb (V 11 + 1)) 4 (8 * nb + 7) (-10006) 2 0 = 8 := by simp [upd2, hw]
  have f4 : upd2 (upd2 (upd2 (upd2 M 2 3 ((nb + 1 : Nat) : Int)) 2 4 (V 11 + 1)) 3 nb (V 11 + 1)) 4 (8 * nb + 7) (-10006) 3 nb = V 11 + 1 := by simp [upd2]
  have f5 : ∀ r, r ≠ nb → upd2 (upd2 (upd2 (upd2 M 2 3 ((nb + 1 : Nat) : Int)) 2 4 (V 11 + 1)) 3 nb (V 11 + 1)) 4 (8 * nb + 7) (-10006) 3 r = M 3 r := fun r g => by simp [upd2, g]
  have f6 : upd2 (upd2 (upd2 (upd2 M 2 3 ((nb + 1 : Nat) : Int)) 2 4 (V 11 + 1)) 3 nb (V 11 + 1)) 4 (8 * nb + 7) (-10006) 4 (8 * nb + 7) = -10006 := by simp [upd2]
  have f7 : ∀ i, i ≠ 8 * nb + 7 → upd2 (upd2 (upd2 (upd2 M 2 3 ((nb + 1 : Nat) : Int)) 2 4 (V 11 + 1)) 3 nb (V 11 + 1)) 4 (8 * nb + 7) (-10006) 4 i = M 4 i := fun i g => by simp [upd2, g]
  generalize upd2 (upd2 (upd2 (upd2 M 2 3 ((nb + 1 : Nat) : Int)) 2 4 (V 11 + 1)) 3 nb (V 11 + 1)) 4 (8 * nb + 7) (-10006) = N at *
  have pw : ∀ (N' : Me) (i : Nat) (x : Int), N' 2 = N 2 → upd2 N' 4 i x 2 = N 2 := fun N' i x g => by rw [upd2_ne (by decide)]; exact g
  refine Wp.g1 rfl ?_
  refine Wp.callv rfl (m2_put nb 0 (nb + 1) x0 N h f0 f2 (by omega) (by omega) (by omega)) ?_
  have p1 : ∀ (N' : Me), N' 2 = N 2 → N' 2 0 = 8 ∧ N' 2 3 = ((nb + 1 : Nat) : Int) := fun N' g => by rw [g]; exact ⟨f0, f2⟩
  have q1 := pw N (8 * nb + 0) x0 rfl
  refine Wp.g1 rfl ?_
  refine Wp.calli rfl (m_legible x1 x2 h1 _ h) ?_
  refine Wp.callv rfl (m2_put nb 1 (nb + 1) (leg x1 x2) _ h (p1 _ q1).1 (p1 _ q1).2 (by omega) (by omega) (by omega)) ?_
  have q2 := pw _ (8 * nb + 1) (leg x1 x2) q1
  refine Wp.g1 rfl ?_
  refine Wp.callv rfl (m2_put nb 2 (nb + 1) x2 _ h (p1 _ q2).1 (p1 _ q2).2 (by omega) (by omega) (by omega)) ?_
  have q3 := pw _ (8 * nb + 2) x2 q2
  refine Wp.g1 rfl ?_
  refine Wp.callv rfl (m2_put nb 3 (nb + 1) x3 _ h (p1 _ q3).1 (p1 _ q3).2 (by omega) (by omega) (by omega)) ?_
  have q4 := pw _ (8 * nb + 3) x3 q3
  refine Wp.g1 rfl ?_
  refine Wp.callv rfl (m2_put nb 4 (nb + 1) x4 _ h (p1 _ q4).1 (p1 _ q4).2 (by omega) (by omega) (by omega)) ?_
  have q5 := pw _ (8 * nb + 4) x4 q4
  refine Wp.g1 rfl ?_
  refine Wp.callv rfl (m2_put nb 5 (nb + 1) x5 _ h (p1 _ q5).1 (p1 _ q5).2 (by omega) (by omega) (by omega)) ?_
  have q6 := pw _ (8 * nb + 5) x5 q5
  refine Wp.g1 rfl ?_
  rw [show upd2 (upd2 (upd2 (upd2 (upd2 (upd2 N 4 (8 * nb + 0) x0) 4 (8 * nb + 1) (leg x1 x2)) 4 (8 * nb + 2) x2) 4 (8 * nb + 3) x3) 4 (8 * nb + 4) x4) 4 (8 * nb + 5) x5 1 3 = V 0 by
    rw [upd2_ne (by decide), upd2_ne (by decide), upd2_ne (by decide), upd2_ne (by decide), upd2_ne (by decide), upd2_ne (by decide), f1 1 (by decide) (by decide) (by decide)]; exact hR.1.1]
  refine Wp.callv rfl (m2_put nb 6 (nb + 1) (V 0) _ h (p1 _ q6).1 (p1 _ q6).2 (by omega) (by omega) (by omega)) ?_
  have q7 := pw _ (8 * nb + 6) (V 0) q6
  refine Wp.g1 rfl ?_
  refine Wp.calli rfl (m2_numberOf nb (nb + 1) _ h (p1 _ q7).2 (by omega) (by omega)) ?_
  have z : ∀ k, k ≠ 4 → upd2 (upd2 (upd2 (upd2 (upd2 (upd2 (upd2 N 4 (8 * nb + 0) x0) 4 (8 * nb + 1) (leg x1 x2)) 4 (8 * nb + 2) x2) 4 (8 * nb + 3) x3) 4 (8 * nb + 4) x4) 4 (8 * nb + 5) x5) 4 (8 * nb + 6) (V 0) k = N k := fun k g => by repeat rw [upd2_ne g]
  refine Wp.re rfl ⟨by rw [z 3 (by decide), f4], rfl, fun k g => by rw [z k (by omega), f1 k (by omega) (by omega) (by omega)], ?_, ?_, ?_⟩
  · rw [z 2 (by decide), f0, hw]
  · rw [z 5 (by decide), f1 5 (by decide) (by decide) (by decide)]
  · refine hR.addB hW hn (fun k g1 g2 g3 => by rw [z k g3, f1 k g1 g2 g3]) (by rw [z 2 (by decide), f2]) (by rw [z 2 (by decide), f3]) (by rw [z 3 (by decide), f4]) (fun r g => by rw [z 3 (by decide), f5 r g]) (fun i hi => ?_) ⟨?_, ?_, ?_, ?_, ?_, ?_, ?_, ?_⟩
    · repeat rw [upd2_off (by omega)]
      exact f7 i (by omega)
    all_goals (repeat rw [upd2_off (by omega)])
    · exact upd2_at
    · exact upd2_at
    · exact upd2_at
    · exact upd2_at
    · exact upd2_at
    · exact upd2_at
    · exact upd2_at
    · exact f6
def sFound (a : At) (x0 x1 x2 x3 x4 x5 : Int) : Int × At := if (x0 < 0 ∨ 7 < x0) ∨ (x1 < 0 ∨ 999999 < x1) ∨ (x2 < 0 ∨ 63 < x2) ∨ (x3 < 0 ∨ 7 < x3) ∨ (x4 < 0 ∨ 11 < x4) ∨ (x5 < 0 ∨ 255 < x5) then (-10002, a) else if a.nb = 12 then (-10004, a) else (a.V 11 + 1, ((nBag a.V a.nb x0 (leg x1 x2) x2 x3 x4 x5, a.nb + 1, a.nc), (sv a).2))
theorem Of.done {M M1 : Me} {h : Ml} {a : At} {T : CT} {sc : Sc} {pc : Nat} {L st : List ZV} {r : Int} {V' : Nat → Int} {nb' nc' : Nat} (hk : ∀ k, 74 ≤ k → M1 k = M k) (hC : CR M1 a) (k : Wp zS0 T sc pc L st M1 h (Of M1 h r V' nb' nc')) : Wp zS0 T sc pc L st M1 h (Cs (r, ((V', nb', nc'), a.2)) M h) :=
  k.imp (fun _ _ _ q => ⟨q.1, q.2.1, fun k g => (q.2.2.1 k (by omega)).trans (hk k g), CR.office hC (fun k g => q.2.2.1 k (by omega)) q.2.2.2.1 q.2.2.2.2.1 q.2.2.2.2.2⟩)
theorem c_found (hC : CR M a) (hS : SO a t) (ht : t ≤ 600) (x0 x1 x2 x3 x4 x5 : Int) : Wp zS0 tX8_found none 0 [zr 0, zi x0, zi x1, zi x2, zi x3, zi x4, zi x5] [] M h (Cs (sFound a x0 x1 x2 x3 x4 x5) M h) := by
  have hR0 : OfRel M 1 a.V a.nb a.nc := hC.1
  have hW := hS.1
  have hnb : a.nb ≤ 12 := hW.1.2.2.1
  have h11 := hW.2.1.2.2.2.2.2.1.2
  unfold sFound
  refine Wp.g1 rfl ?_
  refine Wp.calli rfl (m_outside _ _ _ M h) ?_
  by_cases b0 : x0 < 0 ∨ 7 < x0
  · rw [if_pos b0, if_pos (Or.inl b0)]
    refine Wp.brt rfl (by decide) ?_
    refine Wp.g1 rfl ?_
    exact Cs.no hC (Wp.rei rfl rfl rfl rfl)
  rw [if_neg b0]
  refine Wp.brf rfl (by decide) ?_
  refine Wp.g1 rfl ?_
  refine Wp.calli rfl (m_outside _ _ _ M h) ?_
  by_cases b1 : x1 < 0 ∨ 999999 < x1
  · rw [if_pos b1, if_pos (Or.inr (Or.inl b1))]
    refine Wp.brt rfl (by decide) ?_
    refine Wp.g1 rfl ?_
    exact Cs.no hC (Wp.rei rfl rfl rfl rfl)
  rw [if_neg b1]
  refine Wp.brf rfl (by decide) ?_
  refine Wp.g1 rfl ?_
  refine Wp.calli rfl (m_outside _ _ _ M h) ?_
  by_cases b2 : x2 < 0 ∨ 63 < x2
  · rw [if_pos b2, if_pos (Or.inr (Or.inr (Or.inl b2)))]
    refine Wp.brt rfl (by decide) ?_
    refine Wp.g1 rfl ?_
    exact Cs.no hC (Wp.rei rfl rfl rfl rfl)
  rw [if_neg b2]
  refine Wp.brf rfl (by decide) ?_
  refine Wp.g1 rfl ?_
  refine Wp.calli rfl (m_outside _ _ _ M h) ?_
  by_cases b3 : x3 < 0 ∨ 7 < x3
  · rw [if_pos b3, if_pos (Or.inr (Or.inr (Or.inr (Or.inl b3))))]
    refine Wp.brt rfl (by decide) ?_
    refine Wp.g1 rfl ?_
    exact Cs.no hC (Wp.rei rfl rfl rfl rfl)
  rw [if_neg b3]
  refine Wp.brf rfl (by decide) ?_
  refine Wp.g1 rfl ?_
  refine Wp.calli rfl (m_outside _ _ _ M h) ?_
  by_cases b4 : x4 < 0 ∨ 11 < x4
  · rw [if_pos b4, if_pos (Or.inr (Or.inr (Or.inr (Or.inr (Or.inl b4)))))]
    refine Wp.brt rfl (by decide) ?_
    refine Wp.g1 rfl ?_
    exact Cs.no hC (Wp.rei rfl rfl rfl rfl)
  rw [if_neg b4]
  refine Wp.brf rfl (by decide) ?_
  refine Wp.g1 rfl ?_
  refine Wp.calli rfl (m_outside _ _ _ M h) ?_
  by_cases b5 : x5 < 0 ∨ 255 < x5
  · rw [if_pos b5, if_pos (Or.inr (Or.inr (Or.inr (Or.inr (Or.inr b5)))))]
    refine Wp.brf rfl (by decide) ?_
    refine Wp.g1 rfl ?_
    exact Cs.no hC (Wp.rei rfl rfl rfl rfl)
  rw [if_neg b5, if_neg (c := (x0 < 0 ∨ 7 < x0) ∨ (x1 < 0 ∨ 999999 < x1) ∨ (x2 < 0 ∨ 63 < x2) ∨ (x3 < 0 ∨ 7 < x3) ∨ (x4 < 0 ∨ 11 < x4) ∨ (x5 < 0 ∨ 255 < x5)) (by omega)]
  refine Wp.brt rfl (by decide) ?_
  refine Wp.g1 rfl ?_
  refine Wp.calli rfl (m2_isFull a.nb M h hR0.2.2.1.1) ?_
  by_cases hn : a.nb = 12
  · rw [if_pos hn, if_pos (by omega)]
    refine Wp.brf rfl (by decide) ?_
    refine Wp.g1 rfl ?_
    exact Cs.no hC (Wp.rei rfl rfl rfl rfl)
  rw [if_neg hn, if_neg (by omega)]
  refine Wp.brt rfl (by decide) ?_
  refine Wp.g1 rfl ?_
  refine Wp.call rfl (cr_save hC hS) (fun v M1 h1 q => ?_)
  obtain ⟨rfl, rfl, q1, q2⟩ := q
  have hR : OfRel M1 1 a.V a.nb a.nc := q2.1
  refine Wp.g1 rfl ?_
  refine Wp.call rfl (o_addBag hR q2.2.1.1 hW (by omega) (by omega) x0 x1 x2 x3 x4 x5 (by omega)) (fun v M2 h2 q => ?_)
  obtain ⟨rfl, rfl, q3, q4, q5, q6⟩ := q
  exact Wp.re rfl ⟨rfl, rfl, fun k g => (q3 k (by omega)).trans (q1 k g), CR.office q2 (fun k g => q3 k (by omega)) q4 q5 q6⟩
theorem leg_rn {x y : Int} (h : 0 ≤ x ∧ x ≤ 999999) : 0 ≤ leg x y ∧ leg x y ≤ 999999 := by
  have := lq_rn (ill := y) h.1 6 (by omega)
  unfold leg
  omega
theorem s_found {t' : Nat} (hS : SO a t) (ht : t + 1 ≤ t') (x0 x1 x2 x3 x4 x5 : Int) : SO (sFound a x0 x1 x2 x3 x4 x5).2 t' := by
  unfold sFound
  by_cases b : (x0 < 0 ∨ 7 < x0) ∨ (x1 < 0 ∨ 999999 < x1) ∨ (x2 < 0 ∨ 63 < x2) ∨ (x3 < 0 ∨ 7 < x3) ∨ (x4 < 0 ∨ 11 < x4) ∨ (x5 < 0 ∨ 255 < x5)
  · rw [if_pos b]; exact hS.mono (by omega)
  rw [if_neg b]
  by_cases hn : a.nb = 12
  · rw [if_pos hn]; exact hS.mono (by omega)
  rw [if_neg hn]
  have hnb : a.nb ≤ 12 := hS.1.1.2.2.1
  have h11 := hS.1.2.1.2.2.2.2.2.1.2
  exact SO.sv hS (by omega) (hS.1.addB (by omega) (by omega) (by omega) (by omega) (leg_rn (by omega)) (by omega) (by omega) (by omega) (by omega))
end COMING
end
section
/-! claims come -/
section CLAIM
variable {M : Me} {h : Ml} {a : At} {V : Nat → Int} {nb nc t : Nat}
def sClaim (a : At) (x0 x1 x2 x3 x4 x5 x6 x7 : Int) : Int × At := if (x0 < 0 ∨ 999999 < x0) ∨ (x1 < 0 ∨ 7 < x1) ∨ (x2 < 0 ∨ 11 < x2) ∨ (x3 < 0 ∨ 255 < x3) ∨ (x4 < 1 ∨ 255 < x4) ∨ (x5 < 1 ∨ 99999 < x5) ∨ (x6 < 0 ∨ 20 < x6) ∨ (x7 < 0 ∨ 30 < x7) then (-10002, a) else if a.nc = 10 then (-10004, a) else (a.V 13 + 1, ((nClm a.V a.nc x0 x1 x2 x3 x4 x5 x6 (a.V 0 - x7), a.nb, a.nc + 1), (sv a).2))
theorem c_claim (hC : CR M a) (hS : SO a t) (ht : t ≤ 600) (x0 x1 x2 x3 x4 x5 x6 x7 : Int) : Wp zS0 tX8_claim none 0 [zr 0, zi x0, zi x1, zi x2, zi x3, zi x4, zi x5, zi x6, zi x7, zn, zn] [] M h (Cs (sClaim a x0 x1 x2 x3 x4 x5 x6 x7) M h) := by
  have hR0 : OfRel M 1 a.V a.nb a.nc := hC.1
  have hW := hS.1
  have hnc : a.nc ≤ 10 := hW.1.2.2.2
  have v13 := hW.2.1.2.2.2.2.2.2
  have v0 := hW.2.1.1
  unfold sClaim
  refine Wp.g1 rfl ?_
  refine Wp.calli rfl (m_outside _ _ _ M h) ?_
  by_cases b0 : x0 < 0 ∨ 999999 < x0
  · rw [if_pos b0, if_pos (Or.inl b0)]
    refine Wp.brt rfl (by decide) ?_
    refine Wp.g1 rfl ?_
    exact Cs.no hC (Wp.rei rfl rfl rfl rfl)
  rw [if_neg b0]
  refine Wp.brf rfl (by decide) ?_
  refine Wp.g1 rfl ?_
  refine Wp.calli rfl (m_outside _ _ _ M h) ?_
  by_cases b1 : x1 < 0 ∨ 7 < x1
  · rw [if_pos b1, if_pos (Or.inr (Or.inl b1))]
    refine Wp.brt rfl (by decide) ?_
    refine Wp.g1 rfl ?_
    exact Cs.no hC (Wp.rei rfl rfl rfl rfl)
  rw [if_neg b1]
  refine Wp.brf rfl (by decide) ?_
  refine Wp.g1 rfl ?_
  refine Wp.calli rfl (m_outside _ _ _ M h) ?_
  by_cases b2 : x2 < 0 ∨ 11 < x2
  · rw [if_pos b2, if_pos (Or.inr (Or.inr (Or.inl b2)))]
    refine Wp.brt rfl (by decide) ?_
    refine Wp.g1 rfl ?_
    exact Cs.no hC (Wp.rei rfl rfl rfl rfl)
  rw [if_neg b2]
  refine Wp.brf rfl (by decide) ?_
  refine Wp.g1 rfl ?_
  refine Wp.calli rfl (m_outside _ _ _ M h) ?_
  by_cases b3 : x3 < 0 ∨ 255 < x3
  · rw [if_pos b3, if_pos (Or.inr (Or.inr (Or.inr (Or.inl b3))))]
    refine Wp.brt rfl (by decide) ?_
    refine Wp.g1 rfl ?_
    exact Cs.no hC (Wp.rei rfl rfl rfl rfl)
  rw [if_neg b3]
  refine Wp.brf rfl (by decide) ?_
  refine Wp.g1 rfl ?_
  refine Wp.calli rfl (m_outside _ _ _ M h) ?_
  by_cases b4 : x4 < 1 ∨ 255 < x4
  · rw [if_pos b4, if_pos (Or.inr (Or.inr (Or.inr (Or.inr (Or.inl b4)))))]
    refine Wp.brt rfl (by decide) ?_
    refine Wp.g1 rfl ?_
    exact Cs.no hC (Wp.rei rfl rfl rfl rfl)
  rw [if_neg b4]
  refine Wp.brf rfl (by decide) ?_
  refine Wp.g1 rfl ?_
  refine Wp.calli rfl (m_outside _ _ _ M h) ?_
  by_cases b5 : x5 < 1 ∨ 99999 < x5
  · rw [if_pos b5, if_pos (Or.inr (Or.inr (Or.inr (Or.inr (Or.inr (Or.inl b5))))))]
    refine Wp.brt rfl (by decide) ?_
    refine Wp.g1 rfl ?_
    exact Cs.no hC (Wp.rei rfl rfl rfl rfl)
  rw [if_neg b5]
  refine Wp.brf rfl (by decide) ?_
  refine Wp.g1 rfl ?_
  refine Wp.calli rfl (m_outside _ _ _ M h) ?_
  by_cases b6 : x6 < 0 ∨ 20 < x6
  · rw [if_pos b6, if_pos (Or.inr (Or.inr (Or.inr (Or.inr (Or.inr (Or.inr (Or.inl b6)))))))]
    refine Wp.brt rfl (by decide) ?_
    refine Wp.g1 rfl ?_
    exact Cs.no hC (Wp.rei rfl rfl rfl rfl)
  rw [if_neg b6]
  refine Wp.brf rfl (by decide) ?_
  refine Wp.g1 rfl ?_
  refine Wp.calli rfl (m_outside _ _ _ M h) ?_
  by_cases b7 : x7 < 0 ∨ 30 < x7
  · rw [if_pos b7, if_pos (Or.inr (Or.inr (Or.inr (Or.inr (Or.inr (Or.inr (Or.inr b7)))))))]
    refine Wp.brf rfl (by decide) ?_
    refine Wp.g1 rfl ?_
    exact Cs.no hC (Wp.rei rfl rfl rfl rfl)
  rw [if_neg b7]
  rw [if_neg (c := (x0 < 0 ∨ 999999 < x0) ∨ (x1 < 0 ∨ 7 < x1) ∨ (x2 < 0 ∨ 11 < x2) ∨ (x3 < 0 ∨ 255 < x3) ∨ (x4 < 1 ∨ 255 < x4) ∨ (x5 < 1 ∨ 99999 < x5) ∨ (x6 < 0 ∨ 20 < x6) ∨ (x7 < 0 ∨ 30 < x7)) (by omega)]
  refine Wp.brt rfl (by decide) ?_
  refine Wp.g1 rfl ?_
  refine Wp.calli rfl (m5_isFull a.nc M h hR0.2.2.1.2.2.1) ?_
  by_cases hn : a.nc = 10
  · rw [if_pos hn, if_pos (by omega)]
    refine Wp.brf rfl (by decide) ?_
    refine Wp.g1 rfl ?_
    exact Cs.no hC (Wp.rei rfl rfl rfl rfl)
  rw [if_neg hn, if_neg (by omega)]
  refine Wp.brt rfl (by decide) ?_
  refine Wp.g1 rfl ?_
  refine Wp.call rfl (cr_save hC hS) (fun v M1 h1 q => ?_)
  obtain ⟨rfl, rfl, q1, q2⟩ := q
  have hR : OfRel M1 1 a.V a.nb a.nc := q2.1
  have hw : M1 5 0 = 9 := q2.2.1.2
  have e13 : w32 (a.V 13 + 1) = a.V 13 + 1 := w32_id ⟨by omega, by omega⟩
  refine Wp.g1 rfl ?_
  refine Wp.calli rfl (m5_append a.nc M1 _ hw hR.2.2.1.2.2.1 (by omega)) ?_
  rw [show M1 5 4 = a.V 13 from hR.2.2.1.2.2.2, e13]
  have f1 : ∀ k, k ≠ 5 → k ≠ 6 → k ≠ 7 → (upd2 (upd2 (upd2 (upd2 M1 5 3 ((a.nc + 1 : Nat) : Int)) 5 4 (a.V 13 + 1)) 6 a.nc (a.V 13 + 1)) 7 (9 * a.nc + 8) (-10006)) k = M1 k := fun k g1 g2 g3 => by rw [upd2_ne g3, upd2_ne g2, upd2_ne g1, upd2_ne g1]
  have f2 : (upd2 (upd2 (upd2 (upd2 M1 5 3 ((a.nc + 1 : Nat) : Int)) 5 4 (a.V 13 + 1)) 6 a.nc (a.V 13 + 1)) 7 (9 * a.nc + 8) (-10006)) 5 3 = ((a.nc + 1 : Nat) : Int) := by simp [upd2]
  have f3 : (upd2 (upd2 (upd2 (upd2 M1 5 3 ((a.nc + 1 : Nat) : Int)) 5 4 (a.V 13 + 1)) 6 a.nc (a.V 13 + 1)) 7 (9 * a.nc + 8) (-10006)) 5 4 = a.V 13 + 1 := by simp [upd2]
  have f0 : (upd2 (upd2 (upd2 (upd2 M1 5 3 ((a.nc + 1 : Nat) : Int)) 5 4 (a.V 13 + 1)) 6 a.nc (a.V 13 + 1)) 7 (9 * a.nc + 8) (-10006)) 5 0 = 9 := by simp [upd2, hw]
  have f4 : (upd2 (upd2 (upd2 (upd2 M1 5 3 ((a.nc + 1 : Nat) : Int)) 5 4 (a.V 13 + 1)) 6 a.nc (a.V 13 + 1)) 7 (9 * a.nc + 8) (-10006)) 6 a.nc = a.V 13 + 1 := by simp [upd2]
  have f5 : ∀ r, r ≠ a.nc → (upd2 (upd2 (upd2 (upd2 M1 5 3 ((a.nc + 1 : Nat) : Int)) 5 4 (a.V 13 + 1)) 6 a.nc (a.V 13 + 1)) 7 (9 * a.nc + 8) (-10006)) 6 r = M1 6 r := fun r g => by simp [upd2, g]
  have f6 : (upd2 (upd2 (upd2 (upd2 M1 5 3 ((a.nc + 1 : Nat) : Int)) 5 4 (a.V 13 + 1)) 6 a.nc (a.V 13 + 1)) 7 (9 * a.nc + 8) (-10006)) 7 (9 * a.nc + 8) = -10006 := by simp [upd2]
  have f7 : ∀ i, i ≠ 9 * a.nc + 8 → (upd2 (upd2 (upd2 (upd2 M1 5 3 ((a.nc + 1 : Nat) : Int)) 5 4 (a.V 13 + 1)) 6 a.nc (a.V 13 + 1)) 7 (9 * a.nc + 8) (-10006)) 7 i = M1 7 i := fun i g => by simp [upd2, g]
  generalize (upd2 (upd2 (upd2 (upd2 M1 5 3 ((a.nc + 1 : Nat) : Int)) 5 4 (a.V 13 + 1)) 6 a.nc (a.V 13 + 1)) 7 (9 * a.nc + 8) (-10006)) = N at *
  have pw : ∀ (N' : Me) (i : Nat) (x : Int), N' 5 = N 5 → upd2 N' 7 i x 5 = N 5 := fun N' i x g => by rw [upd2_ne (by decide)]; exact g
  have p1 : ∀ (N' : Me), N' 5 = N 5 → N' 5 0 = 9 ∧ N' 5 3 = ((a.nc + 1 : Nat) : Int) := fun N' g => by rw [g]; exact ⟨f0, f2⟩
  have q1' : N 5 = N 5 := rfl
  refine Wp.g1 rfl ?_
  refine Wp.callv rfl (m5_put a.nc 0 (a.nc + 1) x0 _ _ (p1 _ q1').1 (p1 _ q1').2 (by omega) (by omega) (by omega)) ?_
  have q2' := pw _ (9 * a.nc + 0) x0 q1'
  refine Wp.g1 rfl ?_
  refine Wp.callv rfl (m5_put a.nc 1 (a.nc + 1) x1 _ _ (p1 _ q2').1 (p1 _ q2').2 (by omega) (by omega) (by omega)) ?_
  have q3' := pw _ (9 * a.nc + 1) x1 q2'
  refine Wp.g1 rfl ?_
  refine Wp.callv rfl (m5_put a.nc 2 (a.nc + 1) x2 _ _ (p1 _ q3').1 (p1 _ q3').2 (by omega) (by omega) (by omega)) ?_
  have q4' := pw _ (9 * a.nc + 2) x2 q3'
  refine Wp.g1 rfl ?_
  refine Wp.callv rfl (m5_put a.nc 3 (a.nc + 1) x3 _ _ (p1 _ q4').1 (p1 _ q4').2 (by omega) (by omega) (by omega)) ?_
  have q5' := pw _ (9 * a.nc + 3) x3 q4'
  refine Wp.g1 rfl ?_
  refine Wp.callv rfl (m5_put a.nc 4 (a.nc + 1) x4 _ _ (p1 _ q5').1 (p1 _ q5').2 (by omega) (by omega) (by omega)) ?_
  have q6' := pw _ (9 * a.nc + 4) x4 q5'
  refine Wp.g1 rfl ?_
  refine Wp.callv rfl (m5_put a.nc 5 (a.nc + 1) x5 _ _ (p1 _ q6').1 (p1 _ q6').2 (by omega) (by omega) (by omega)) ?_
  have q7' := pw _ (9 * a.nc + 5) x5 q6'
  refine Wp.g1 rfl ?_
  refine Wp.callv rfl (m5_put a.nc 6 (a.nc + 1) x6 _ _ (p1 _ q7').1 (p1 _ q7').2 (by omega) (by omega) (by omega)) ?_
  have q8' := pw _ (9 * a.nc + 6) x6 q7'
  refine Wp.g1 rfl ?_
  have e0 : w32 (a.V 0 - x7) = a.V 0 - x7 := w32_id ⟨by omega, by omega⟩
  rw [show (upd2 (upd2 (upd2 (upd2 (upd2 (upd2 (upd2 N 7 (9 * a.nc + 0) x0) 7 (9 * a.nc + 1) x1) 7 (9 * a.nc + 2) x2) 7 (9 * a.nc + 3) x3) 7 (9 * a.nc + 4) x4) 7 (9 * a.nc + 5) x5) 7 (9 * a.nc + 6) x6) 1 3 = a.V 0 by
    rw [upd2_ne (by decide), upd2_ne (by decide), upd2_ne (by decide), upd2_ne (by decide), upd2_ne (by decide), upd2_ne (by decide), upd2_ne (by decide), f1 1 (by decide) (by decide) (by decide)]; exact hR.1.1, e0]
  refine Wp.callv rfl (m5_put a.nc 7 (a.nc + 1) (a.V 0 - x7) _ _ (p1 _ q8').1 (p1 _ q8').2 (by omega) (by omega) (by omega)) ?_
  have q9' := pw _ (9 * a.nc + 7) (a.V 0 - x7) q8'
  refine Wp.g1 rfl ?_
  refine Wp.calli rfl (m5_numberOf a.nc (a.nc + 1) _ _ (p1 _ q9').2 (by omega) (by omega)) ?_
  have z : ∀ k, k ≠ 7 → (upd2 (upd2 (upd2 (upd2 (upd2 (upd2 (upd2 (upd2 N 7 (9 * a.nc + 0) x0) 7 (9 * a.nc + 1) x1) 7 (9 * a.nc + 2) x2) 7 (9 * a.nc + 3) x3) 7 (9 * a.nc + 4) x4) 7 (9 * a.nc + 5) x5) 7 (9 * a.nc + 6) x6) 7 (9 * a.nc + 7) (a.V 0 - x7)) k = N k := fun k g => by repeat rw [upd2_ne g]
  refine Wp.re rfl ⟨by rw [z 6 (by decide), f4], rfl, fun k g => by rw [z k (by omega), f1 k (by omega) (by omega) (by omega)]; exact q1 k g, CR.office q2 (fun k g => by rw [z k (by omega), f1 k (by omega) (by omega) (by omega)]) ?_ ?_ ?_⟩
  · rw [z 2 (by decide), f1 2 (by decide) (by decide) (by decide)]
  · rw [z 5 (by decide), f0, hw]
  · refine hR.addC hW (by omega) (fun k g1 g2 g3 => by rw [z k g3, f1 k g1 g2 g3]) (by rw [z 5 (by decide), f2]) (by rw [z 5 (by decide), f3]) (by rw [z 6 (by decide), f4]) (fun r g => by rw [z 6 (by decide), f5 r g]) (fun i hi => ?_) ⟨?_, ?_, ?_, ?_, ?_, ?_, ?_, ?_, ?_⟩
    · repeat rw [upd2_off (by omega)]
      exact f7 i (by omega)
    all_goals (repeat rw [upd2_off (by omega)])
    · exact upd2_at
    · exact upd2_at
    · exact upd2_at
    · exact upd2_at
    · exact upd2_at
    · exact upd2_at
    · exact upd2_at
    · exact upd2_at
    · exact f6

theorem s_claim {t' : Nat} (hS : SO a t) (ht : t + 1 ≤ t') (x0 x1 x2 x3 x4 x5 x6 x7 : Int) : SO (sClaim a x0 x1 x2 x3 x4 x5 x6 x7).2 t' := by
  unfold sClaim
  by_cases b : (x0 < 0 ∨ 999999 < x0) ∨ (x1 < 0 ∨ 7 < x1) ∨ (x2 < 0 ∨ 11 < x2) ∨ (x3 < 0 ∨ 255 < x3) ∨ (x4 < 1 ∨ 255 < x4) ∨ (x5 < 1 ∨ 99999 < x5) ∨ (x6 < 0 ∨ 20 < x6) ∨ (x7 < 0 ∨ 30 < x7)
  · rw [if_pos b]; exact hS.mono (by omega)
  rw [if_neg b]
  by_cases hn : a.nc = 10
  · rw [if_pos hn]; exact hS.mono (by omega)
  rw [if_neg hn]
  have hnc : a.nc ≤ 10 := hS.1.1.2.2.2
  have h13 := hS.1.2.1.2.2.2.2.2.2
  have v0 := hS.1.2.1.1
  exact SO.sv hS (by omega) (hS.1.addC (by omega) (by omega) (by omega) (by omega) (by omega) (by omega) (by omega) (by omega) (by omega) (by omega) (by omega))
end CLAIM
end
section
/-! bags and claims are joined and parted -/
section MATCH
variable {M : Me} {h : Ml} {a : At} {V : Nat → Int} {nb nc t : Nat}
theorem o_freeC (hS : CS M V nb nc t) {c : Nat} (hc : c < nc) : Wp zS0 tX6_isFree none 0 [zr 5, zi c] [] M h (Ri (if V (114 + 10 * c + 9) = 0 then 1 else 0) M h) := by
  obtain ⟨hR, -, hw, hW⟩ := hS
  have k := m5_isFree c nc M h hw hR.2.2.1.2.2.1 hW.1.2.2.2
  rw [(hR.2.2.2.2 c hc).2.2] at k
  have e := pt_free hW hc
  by_cases g : V (114 + 10 * c + 9) = 0
  · rw [if_pos ⟨hc, e.mpr g⟩] at k
    rw [if_pos g]; exact k
  · rw [if_neg (fun q => g (e.mp q.2))] at k
    rw [if_neg g]; exact k
theorem o_freeB (hS : CS M V nb nc t) {b : Nat} (hb : b < nb) : Wp zS0 tX6_isFree none 0 [zr 2, zi b] [] M h (Ri (if cw V nc b = -10006 then 1 else 0) M h) := by
  obtain ⟨hR, hw, -, hW⟩ := hS
  have k := m2_isFree b nb M h hw hR.2.2.1.1 hW.1.2.2.1
  rw [(hR.2.2.2.1 b hb).2.2] at k
  by_cases g : cw V nc b = -10006
  · rw [if_pos ⟨hb, g⟩] at k
    rw [if_pos g]; exact k
  · rw [if_neg (fun q => g q.2)] at k
    rw [if_neg g]; exact k
theorem o_join (hS : CS M V nb nc t) {c b : Nat} (hc : c < nc) (hb : b < nb) (h0 : V (114 + 10 * c + 9) = 0) (hf : cw V nc b = -10006) : Wp zS0 tX3_join none 0 [zr 1, zi c, zi b] [] M h (fun v M' h' => v = none ∧ h' = h ∧ (∀ k, k ≠ 4 → k ≠ 7 → M' k = M k) ∧ OfRel M' 1 (up V (114 + 10 * c + 9) (V (18 + 8 * b))) nb nc) := by
  obtain ⟨hR, hw2, hw5, hW⟩ := hS
  have hnb := hW.1.2.2.1
  have hnc := hW.1.2.2.2
  obtain ⟨a1, a2, a3, a4, a5⟩ := id hR
  have hfree := (cw_free hW b).mp hf
  have hpos := (hW.2.2.1 b hb).1
  refine Wp.g1 rfl ?_
  refine Wp.calli rfl (m2_numberOf b nb M h a3.1 hnb hb) ?_
  rw [(a4 b hb).1]
  refine Wp.callv rfl (m5_setPartner c nc (V (18 + 8 * b)) M h hw5 a3.2.2.1 hnc hc) ?_
  refine Wp.g1 rfl ?_
  refine Wp.calli rfl (m5_numberOf c nc _ h (by rw [upd2_ne (by decide)]; exact a3.2.2.1) hnc hc) ?_
  rw [upd2_ne (by decide : (6 : Nat) ≠ 7), (a5 c hc).1]
  refine Wp.callv rfl (m2_setPartner b nb (V (114 + 10 * c)) _ h (by rw [upd2_ne (by decide)]; exact hw2) (by rw [upd2_ne (by decide)]; exact a3.1) hnb hb) ?_
  refine Wp.re rfl ⟨rfl, rfl, fun k g1 g2 => by rw [upd2_ne g1, upd2_ne g2], ?_⟩
  refine hR.setM hnb (fun k g1 g2 => by rw [upd2_ne g1, upd2_ne g2]) ?_ (fun i hi => ?_) (fun r hr => ?_) (fun r k hr hk => ?_)
  · rw [upd2_ne (by decide), upd2_at, if_neg (by omega)]
  · rw [upd2_ne (by decide), upd2_off hi]
  · by_cases e : r = b
    · subst e
      rw [upd2_at]
      have k1 : up V (114 + 10 * c + 9) (V (18 + 8 * r)) (18 + 8 * r) = V (18 + 8 * r) := up_off (by omega)
      have := cw_some (V := up V (114 + 10 * c + 9) (V (18 + 8 * r))) (r := r) hc (by rw [up_at, k1]) (fun q hq hqc => by rw [up_off (by omega), k1]; exact hfree q hq)
      rw [this, up_off (by omega)]
    · rw [upd2_off (by omega), upd2_ne (by decide)]
      have b3 : M 4 (8 * r + 7) = cw V nc r := (a4 r hr).2.2
      rw [b3]
      have hne : V (18 + 8 * b) ≠ V (18 + 8 * r) := fun q => e (hW.2.2.2.2.1 r b hr hb q.symm)
      have hpr := (hW.2.2.1 r hr).1
      refine (cw_same (up_off (by omega)) (fun q hq => ?_) (fun q hq => up_off (by omega))).symm
      by_cases eq : q = c
      · rw [eq, up_at, h0]
        exact ⟨fun g => absurd g hne, fun g => by omega⟩
      · rw [up_off (by omega)]
  · rw [upd2_off (by omega), upd2_ne (by decide)]
def sMatch (a : At) (x y : Int) : Int × At := if rkC a.V a.nc x < a.nc ∧ rkB a.V a.nb y < a.nb then
    (if a.V (114 + 10 * rkC a.V a.nc x + 9) = 0 ∧ cw a.V a.nc (rkB a.V a.nb y) = -10006 ∧ scN a.V (rkC a.V a.nc x) (rkB a.V a.nb y) 0 ≠ -10006 then
      (scN a.V (rkC a.V a.nc x) (rkB a.V a.nb y) 0, ((up a.V (114 + 10 * rkC a.V a.nc x + 9) (a.V (18 + 8 * rkB a.V a.nb y)), a.nb, a.nc), (sv a).2)) else (-10003, a)) else (-10001, a)
theorem c_match (hC : CR M a) (hS : SO a t) (x y : Int) : Wp zS0 tX8_match none 0 [zr 0, zi x, zi y, zn, zn, zn] [] M h (Cs (sMatch a x y) M h) := by
  have hK := hC.cs hS
  unfold sMatch
  refine Wp.g1 rfl ?_
  refine Wp.calli rfl (c_rowC hK x) ?_
  refine Wp.g1 rfl ?_
  refine Wp.calli rfl (c_rowB hK y) ?_
  refine Wp.g1 rfl ?_
  by_cases hk : rkC a.V a.nc x < a.nc
  · rw [if_pos hk]
    refine Wp.brf rfl (by omega) ?_
    refine Wp.g1 rfl ?_
    by_cases hk2 : rkB a.V a.nb y < a.nb
    · rw [if_pos hk2, if_pos ⟨hk, hk2⟩]
      generalize rkC a.V a.nc x = c at *
      generalize rkB a.V a.nb y = b at *
      refine Wp.brt rfl (by omega) ?_
      refine Wp.g1 rfl ?_
      refine Wp.calli rfl (o_freeC hK hk) ?_
      by_cases g0 : a.V (114 + 10 * c + 9) = 0
      · rw [if_pos g0]
        refine Wp.brf rfl (by decide) ?_
        refine Wp.g1 rfl ?_
        refine Wp.calli rfl (o_freeB hK hk2) ?_
        by_cases g1 : cw a.V a.nc b = -10006
        · rw [if_pos g1]
          refine Wp.brt rfl (by decide) ?_
          refine Wp.g1 rfl ?_
          refine Wp.call rfl (m_part hK.1 hK.2.1 hK.2.2.1 hK.2.2.2 hk hk2 0 (by omega)) (fun v M0 h0 q => ?_)
          obtain ⟨rfl, rfl, q0⟩ := q
          refine Wp.g1 rfl ?_
          by_cases g2 : scN a.V c b 0 = -10006
          · rw [if_neg (fun q => q.2.2 g2)]
            refine Wp.brf rfl (by omega) ?_
            refine Wp.g1 rfl ?_
            exact Wp.re rfl ⟨rfl, rfl, fun k g => q0 k (by omega), hC.kept (fun k g => q0 k (by omega))⟩
          · rw [if_pos ⟨g0, g1, g2⟩]
            refine Wp.brt rfl (by omega) ?_
            refine Wp.g1 rfl ?_
            have hC0 : CR M0 a := hC.kept (fun k g => q0 k (by omega))
            refine Wp.call rfl (cr_save hC0 hS) (fun v M1 h1 q => ?_)
            obtain ⟨rfl, rfl, q1, q2⟩ := q
            have hK1 : CS M1 a.V a.nb a.nc t := ⟨q2.1, q2.2.1.1, q2.2.1.2, hS.1⟩
            refine Wp.g1 rfl ?_
            refine Wp.call rfl (o_join hK1 hk hk2 g0 g1) (fun v M2 h2 q => ?_)
            obtain ⟨rfl, rfl, q3, q4⟩ := q
            refine Wp.g1 rfl ?_
            exact Wp.re rfl ⟨rfl, rfl, fun k g => by rw [q3 k (by omega) (by omega), q1 k g]; exact q0 k (by omega), CR.office q2 (fun k g => q3 k (by omega) (by omega)) (by rw [q3 2 (by decide) (by decide)]) (by rw [q3 5 (by decide) (by decide)]) q4⟩
        · rw [if_neg g1, if_neg (fun q => g1 q.2.1)]
          refine Wp.brf rfl (by decide) ?_
          refine Wp.g1 rfl ?_
          exact Cs.no hC (Wp.rei rfl rfl rfl rfl)
      · rw [if_neg g0, if_neg (fun q => g0 q.1)]
        refine Wp.brt rfl (by decide) ?_
        refine Wp.g1 rfl ?_
        exact Cs.no hC (Wp.rei rfl rfl rfl rfl)
    · rw [if_neg hk2, if_neg (fun q => hk2 q.2)]
      refine Wp.brf rfl (by decide) ?_
      refine Wp.g1 rfl ?_
      exact Cs.no hC (Wp.rei rfl rfl rfl rfl)
  · rw [if_neg hk, if_neg (c := rkC a.V a.nc x < a.nc ∧ rkB a.V a.nb y < a.nb) (fun q => hk q.1)]
    refine Wp.brt rfl (by decide) ?_
    refine Wp.g1 rfl ?_
    exact Cs.no hC (Wp.rei rfl rfl rfl rfl)
theorem s_match {t' : Nat} (hS : SO a t) (ht : t ≤ t') (x y : Int) : SO (sMatch a x y).2 t' := by
  unfold sMatch
  by_cases b : rkC a.V a.nc x < a.nc ∧ rkB a.V a.nb y < a.nb
  · rw [if_pos b]
    split
    · next q => exact SO.sv hS ht (hS.1.setM ht b.1 (Or.inr ⟨_, b.2, rfl, (cw_free hS.1 _).mp q.2.1⟩))
    · exact hS.mono ht
  · rw [if_neg b]; exact hS.mono ht
/-- the row of the bag of a matched claim -/
theorem rk_of (hW : WF V nb nc t) {c : Nat} (hc : c < nc) (h0 : V (114 + 10 * c + 9) ≠ 0) : rkB V nb (V (114 + 10 * c + 9)) < nb ∧ V (18 + 8 * rkB V nb (V (114 + 10 * c + 9))) = V (114 + 10 * c + 9) := by
  obtain ⟨b, e1, e2⟩ := hW.2.2.2.2.2.1 c hc h0
  have e3 : rkB V nb (V (114 + 10 * c + 9)) = b := fnd_some e1 e2 (fun j hj q => by
    have := hW.2.2.2.2.1 j b (by omega) e1 (q.trans e2.symm)
    omega)
  rw [e3]
  exact ⟨e1, e2⟩
def sUnmatch (a : At) (x : Int) : Int × At := if rkC a.V a.nc x < a.nc then
    (if a.V (114 + 10 * rkC a.V a.nc x + 9) = 0 then (-10003, a) else (a.V (114 + 10 * rkC a.V a.nc x + 9), ((up a.V (114 + 10 * rkC a.V a.nc x + 9) 0, a.nb, a.nc), (sv a).2))) else (-10001, a)
theorem c_unmatch (hC : CR M a) (hS : SO a t) (x : Int) : Wp zS0 tX8_unmatch none 0 [zr 0, zi x, zn, zn] [] M h (Cs (sUnmatch a x) M h) := by
  have hK := hC.cs hS
  have hW := hS.1
  have hnb : a.nb ≤ 12 := hW.1.2.2.1
  have hnc : a.nc ≤ 10 := hW.1.2.2.2
  unfold sUnmatch
  refine Wp.g1 rfl ?_
  refine Wp.calli rfl (c_rowC hK x) ?_
  refine Wp.g1 rfl ?_
  by_cases hk : rkC a.V a.nc x < a.nc
  · rw [if_pos hk, if_pos hk]
    generalize rkC a.V a.nc x = c at *
    refine Wp.brt rfl (by omega) ?_
    refine Wp.g1 rfl ?_
    refine Wp.calli rfl (o_freeC hK hk) ?_
    by_cases g0 : a.V (114 + 10 * c + 9) = 0
    · rw [if_pos g0, if_pos g0]
      refine Wp.brf rfl (by decide) ?_
      refine Wp.g1 rfl ?_
      exact Cs.no hC (Wp.rei rfl rfl rfl rfl)
    · rw [if_neg g0, if_neg g0]
      refine Wp.brt rfl (by decide) ?_
      refine Wp.g1 rfl ?_
      refine Wp.call rfl (cr_save hC hS) (fun v M1 h1 q => ?_)
      obtain ⟨rfl, rfl, q1, q2⟩ := q
      have hR : OfRel M1 1 a.V a.nb a.nc := q2.1
      obtain ⟨a1, a2, a3, a4, a5⟩ := id hR
      have hw2 : M1 2 0 = 8 := q2.2.1.1
      have hw5 : M1 5 0 = 9 := q2.2.1.2
      have hK1 : CS M1 a.V a.nb a.nc t := ⟨hR, hw2, hw5, hW⟩
      obtain ⟨r1, r2⟩ := rk_of hW hk g0
      have ep : pt a.V c = a.V (114 + 10 * c + 9) := by unfold pt; rw [if_neg g0]
      refine Wp.g1 rfl ?_
      have k5 := m5_partner c a.nc M1 h1 hw5 a3.2.2.1 hnc hk
      rw [show M1 7 (9 * c + 8) = pt a.V c from (a5 c hk).2.2, ep] at k5
      refine Wp.calli rfl k5 ?_
      refine Wp.g1 rfl ?_
      refine Wp.callv rfl (m5_setPartner c a.nc (-10006) M1 _ hw5 a3.2.2.1 hnc hk) ?_
      refine Wp.g1 rfl ?_
      have k6 := m2_rowOf (a.V (114 + 10 * c + 9)) a.nb (upd2 M1 7 (9 * c + 8) (-10006)) h1 (by rw [upd2_ne (by decide)]; exact a3.1) hnb
      rw [show fnd (upd2 M1 7 (9 * c + 8) (-10006) 3) (a.V (114 + 10 * c + 9)) a.nb = rkB a.V a.nb (a.V (114 + 10 * c + 9)) from fnd_congr (fun r hr => by rw [upd2_ne (by decide)]; exact (a4 r hr).1), if_pos r1] at k6
      refine Wp.calli rfl k6 ?_
      generalize rkB a.V a.nb (a.V (114 + 10 * c + 9)) = b at *
      refine Wp.g1 rfl ?_
      refine Wp.callv rfl (m2_setPartner b a.nb (-10006) _ _ (by rw [upd2_ne (by decide)]; exact hw2) (by rw [upd2_ne (by decide)]; exact a3.1) hnb r1) ?_
      refine Wp.g1 rfl ?_
      refine Wp.re rfl ⟨rfl, rfl, fun k g => by rw [upd2_ne (by omega), upd2_ne (by omega)]; exact q1 k g, CR.office q2 (fun k g => by rw [upd2_ne (by omega), upd2_ne (by omega)]) (by rw [upd2_ne (by decide), upd2_ne (by decide)]) (by rw [upd2_ne (by decide), upd2_ne (by decide)]) ?_⟩
      refine hR.setM hnb (fun k g1 g2 => by rw [upd2_ne g1, upd2_ne g2]) ?_ (fun i hi => ?_) (fun r hr => ?_) (fun r k hr hk => ?_)
      · rw [upd2_ne (by decide), upd2_at, if_pos rfl]
      · rw [upd2_ne (by decide), upd2_off hi]
      · have hpr := (hW.2.2.1 r hr).1
        by_cases e : r = b
        · subst e
          rw [upd2_at]
          refine (cw_none (fun q hq => ?_)).symm
          rw [up_off (j := 18 + 8 * r) (by omega)]
          by_cases eq : q = c
          · rw [eq, up_at]; omega
          · rw [up_off (by omega), r2]
            intro z
            exact eq (hW.2.2.2.2.2.2 q c hq hk z (by rw [z]; exact g0))
        · rw [upd2_off (by omega), upd2_ne (by decide)]
          have b3 : M1 4 (8 * r + 7) = cw a.V a.nc r := (a4 r hr).2.2
          rw [b3]
          refine (cw_same (up_off (by omega)) (fun q hq => ?_) (fun q hq => up_off (by omega))).symm
          by_cases eq : q = c
          · rw [eq, up_at]
            refine ⟨fun g => by omega, fun g => ?_⟩
            exact absurd (hW.2.2.2.2.1 r b hr r1 (by rw [r2]; exact g.symm)) e
          · rw [up_off (by omega)]
      · rw [upd2_off (by omega), upd2_ne (by decide)]
  · rw [if_neg hk, if_neg hk]
    refine Wp.brf rfl (by decide) ?_
    refine Wp.g1 rfl ?_
    exact Cs.no hC (Wp.rei rfl rfl rfl rfl)
theorem s_unmatch {t' : Nat} (hS : SO a t) (ht : t ≤ t') (x : Int) : SO (sUnmatch a x).2 t' := by
  unfold sUnmatch
  by_cases b : rkC a.V a.nc x < a.nc
  · rw [if_pos b]
    split
    · exact hS.mono ht
    · exact SO.sv hS ht (hS.1.setM ht b (Or.inl rfl))
  · rw [if_neg b]; exact hS.mono ht
end MATCH
end
section
/-! bags and claims go -/
section GOING
variable {M : Me} {h : Ml} {a : At} {V : Nat → Int} {nb nc t : Nat}
theorem o_rmB (hR : OfRel M 1 V nb nc) (hw : M 2 0 = 8) (hn : nb ≤ 12) {b : Nat} (hb : b < nb) : Wp zS0 tX6_remove none 0 [zr 2, zi b, zn] [] M h (fun v M' h' => v = none ∧ h' = h ∧ (∀ k, k ≠ 2 → k ≠ 3 → k ≠ 4 → M' k = M k) ∧ M' 2 0 = M 2 0 ∧ OfRel M' 1 (rmB V nb b) (nb - 1) nc) := by
  refine (m2_remove b nb M h hw hR.2.2.1.1 hn hb).imp (fun v M' h' q => ?_)
  obtain ⟨rfl, rfl, rfl⟩ := q
  have k1 : ∀ k, k ≠ 2 → k ≠ 3 → k ≠ 4 → upd2 (cpy2 (cpy2 M 3 3 (b + 1) b (nb - b - 1)) 4 4 (8 * (b + 1)) (8 * b) (8 * (nb - b - 1))) 2 3 ((nb - 1 : Nat) : Int) k = M k := fun k g1 g2 g3 => by
    funext j
    simp [upd2, cpy2, g1, g2, g3]
  refine ⟨rfl, rfl, k1, by simp [upd2, cpy2], hR.delB hn hb k1 (by simp [upd2]) (by simp [upd2, cpy2]) (fun r hr => ?_) (fun r k hr hk => ?_)⟩
  · rw [upd2_ne (by decide)]
    unfold cpy2 sk
    rw [if_neg (by omega)]
    by_cases g : r < b
    · rw [if_pos g, if_neg (by omega)]
    · rw [if_neg g, if_pos ⟨rfl, by omega, by omega⟩, show b + 1 + (r - b) = r + 1 by omega]
  · rw [upd2_ne (by decide)]
    have e : ∀ j, cpy2 M 3 3 (b + 1) b (nb - b - 1) 4 j = M 4 j := fun j => by simp [cpy2]
    unfold sk
    by_cases g : r < b
    · rw [if_pos g, ← e]
      show (if _ then _ else _) = _
      rw [if_neg (by omega)]
    · rw [if_neg g, ← e]
      show (if _ then _ else _) = _
      rw [if_pos ⟨rfl, by omega, by omega⟩, show 8 * (b + 1) + (8 * r + k - 8 * b) = 8 * (r + 1) + k by omega]
theorem o_rmC (hR : OfRel M 1 V nb nc) (hw : M 5 0 = 9) (hn : nc ≤ 10) (hnb : nb ≤ 12) {c : Nat} (hc : c < nc) (hf : ∀ r, r < nb → V (114 + 10 * c + 9) ≠ V (18 + 8 * r)) : Wp zS0 tX6_remove none 0 [zr 5, zi c, zn] [] M h (fun v M' h' => v = none ∧ h' = h ∧ (∀ k, k ≠ 5 → k ≠ 6 → k ≠ 7 → M' k = M k) ∧ M' 5 0 = M 5 0 ∧ OfRel M' 1 (rmC V nc c) nb (nc - 1)) := by
  refine (m5_remove c nc M h hw hR.2.2.1.2.2.1 hn hc).imp (fun v M' h' q => ?_)
  obtain ⟨rfl, rfl, rfl⟩ := q
  have k1 : ∀ k, k ≠ 5 → k ≠ 6 → k ≠ 7 → upd2 (cpy2 (cpy2 M 6 6 (c + 1) c (nc - c - 1)) 7 7 (9 * (c + 1)) (9 * c) (9 * (nc - c - 1))) 5 3 ((nc - 1 : Nat) : Int) k = M k := fun k g1 g2 g3 => by
    funext j
    simp [upd2, cpy2, g1, g2, g3]
  refine ⟨rfl, rfl, k1, by simp [upd2, cpy2], hR.delC hn hnb hc hf k1 (by simp [upd2]) (by simp [upd2, cpy2]) (fun r hr => ?_) (fun r k hr hk => ?_)⟩
  · rw [upd2_ne (by decide)]
    unfold cpy2 sk
    rw [if_neg (by omega)]
    by_cases g : r < c
    · rw [if_pos g, if_neg (by omega)]
    · rw [if_neg g, if_pos ⟨rfl, by omega, by omega⟩, show c + 1 + (r - c) = r + 1 by omega]
  · rw [upd2_ne (by decide)]
    have e : ∀ j, cpy2 M 6 6 (c + 1) c (nc - c - 1) 7 j = M 7 j := fun j => by simp [cpy2]
    unfold sk
    by_cases g : r < c
    · rw [if_pos g, ← e]
      show (if _ then _ else _) = _
      rw [if_neg (by omega)]
    · rw [if_neg g, ← e]
      show (if _ then _ else _) = _
      rw [if_pos ⟨rfl, by omega, by omega⟩, show 9 * (c + 1) + (9 * r + k - 9 * c) = 9 * (r + 1) + k by omega]
theorem rm_comm {b c : Nat} (hb : b < nb) (hn : nb ≤ 12) : rmC (rmB V nb b) nc c = rmB (rmC V nc c) nb b := by
  have e10 : ∀ k, k ≠ 10 → ¬ (18 + 8 * b ≤ k ∧ k < 18 + 8 * (nb - 1)) → rmB V nb b k = V k := fun k g1 g2 => by unfold rmB; rw [if_neg g1, if_neg g2]
  have e12 : ∀ k, k ≠ 12 → k < 114 → rmC V nc c k = V k := fun k g1 g2 => rmC_off g1 (Or.inl g2)
  funext k
  by_cases h10 : k = 10
  · rw [h10, rmB_10, rmC_off (by decide) (Or.inl (by decide)), rmB_10]
  by_cases h12 : k = 12
  · rw [h12, rmC_12, rmB_off (by decide) (Or.inl (by decide)), rmC_12]
  by_cases hs : 18 + 8 * b ≤ k ∧ k < 18 + 8 * (nb - 1)
  · rw [rmC_off h12 (Or.inl (by omega))]
    unfold rmB
    rw [if_neg h10, if_pos hs, if_neg h10, if_pos hs, e12 _ (by omega) (by omega)]
  · have : rmB (rmC V nc c) nb b k = rmC V nc c k := by unfold rmB; rw [if_neg h10, if_neg hs]
    rw [this]
    unfold rmC
    rw [if_neg h12, if_neg h12]
    by_cases hq : 114 + 10 * c ≤ k ∧ k < 114 + 10 * (nc - 1)
    · rw [if_pos hq, if_pos hq, e10 _ (by omega) (by omega)]
    · rw [if_neg hq, if_neg hq, e10 _ h10 hs]
/-- a count and the money paid -/
def cntV (V : Nat → Int) (k : Nat) (p : Int) : Nat → Int := up (up V k (w32 (V k + 1))) 17 (w32 (V 17 + p))
theorem WF.cnt (hW : WF V nb nc t) {k : Nat} {p : Int} (hk : 14 ≤ k ∧ k < 17) : WF (cntV V k p) nb nc t := by
  have e : ∀ j, j < 14 ∨ 18 ≤ j → cntV V k p j = V j := fun j g => by unfold cntV; rw [up_off (by omega), up_off (by omega)]
  obtain ⟨v0, v1, v2, v3, v4, -⟩ := hW.2.1
  refine hW.head (Nat.le_refl _) (fun j g => e j (by omega)) (e _ (by omega)) (e _ (by omega)) (e _ (by omega)) (e _ (by omega)) ?_
  rw [e _ (by omega), e _ (by omega), e _ (by omega), e _ (by omega)]
  exact ⟨v0, v1, v2, v3, fun i hi => by rw [e _ (by omega)]; exact v4 i hi⟩
def sDeliver (a : At) (x : Int) : Int × At := if rkC a.V a.nc x < a.nc then
    (if a.V (114 + 10 * rkC a.V a.nc x + 9) = 0 then (-10003, a) else (pDel a.V (rkC a.V a.nc x) (a.V 0), ((cntV (rmC (rmB a.V a.nb (rkB a.V a.nb (a.V (114 + 10 * rkC a.V a.nc x + 9)))) a.nc (rkC a.V a.nc x)) 14 (pDel a.V (rkC a.V a.nc x) (a.V 0)), a.nb - 1, a.nc - 1), (sv a).2))) else (-10001, a)
theorem OfRel.cnt {M : Me} {V : Nat → Int} {nb nc : Nat} (hR : OfRel M 1 V nb nc) {p : Int} : OfRel (upd2 (upd2 M 1 7 (w32 (V 14 + 1))) 1 10 (w32 (V 17 + p))) 1 (cntV V 14 p) nb nc ∧ OfRel (upd2 (upd2 M 1 8 (w32 (V 15 + 1))) 1 10 (w32 (V 17 + p))) 1 (cntV V 15 p) nb nc := by
  obtain ⟨f0, f1, f2, f3, f4, f5, f6, f7⟩ := hR.1
  constructor
  · refine hR.head (fun k g1 g2 => by rw [upd2_ne (by omega), upd2_ne (by omega)]) (fun j g => by unfold cntV; rw [up_off (by omega), up_off (by omega)]) (by unfold cntV; rw [up_off (by omega), up_off (by omega)]) (by unfold cntV; rw [up_off (by omega), up_off (by omega)]) ?_ (fun j hj => ?_)
    · unfold cntV
      simp only [upd2, up]
      exact ⟨f0, f1, f2, f3, rfl, f5, f6, rfl⟩
    · unfold cntV
      rw [upd2_ne (by decide), upd2_ne (by decide), up_off (by omega), up_off (by omega)]
      exact hR.2.1 j hj
  · refine hR.head (fun k g1 g2 => by rw [upd2_ne (by omega), upd2_ne (by omega)]) (fun j g => by unfold cntV; rw [up_off (by omega), up_off (by omega)]) (by unfold cntV; rw [up_off (by omega), up_off (by omega)]) (by unfold cntV; rw [up_off (by omega), up_off (by omega)]) ?_ (fun j hj => ?_)
    · unfold cntV
      simp only [upd2, up]
      exact ⟨f0, f1, f2, f3, f4, rfl, f6, rfl⟩
    · unfold cntV
      rw [upd2_ne (by decide), upd2_ne (by decide), up_off (by omega), up_off (by omega)]
      exact hR.2.1 j hj
theorem c_deliver (hC : CR M a) (hS : SO a t) (x : Int) : Wp zS0 tX8_deliver none 0 [zr 0, zi x, zn, zn] [] M h (Cs (sDeliver a x) M h) := by
  have hK := hC.cs hS
  have hW := hS.1
  have hnb : a.nb ≤ 12 := hW.1.2.2.1
  have hnc : a.nc ≤ 10 := hW.1.2.2.2
  have v0 := hW.2.1.1
  unfold sDeliver
  refine Wp.g1 rfl ?_
  refine Wp.calli rfl (c_rowC hK x) ?_
  refine Wp.g1 rfl ?_
  by_cases hk : rkC a.V a.nc x < a.nc
  · rw [if_pos hk, if_pos hk]
    generalize rkC a.V a.nc x = c at *
    refine Wp.brt rfl (by omega) ?_
    refine Wp.g1 rfl ?_
    refine Wp.calli rfl (o_freeC hK hk) ?_
    by_cases g0 : a.V (114 + 10 * c + 9) = 0
    · rw [if_pos g0, if_pos g0]
      refine Wp.brf rfl (by decide) ?_
      refine Wp.g1 rfl ?_
      exact Cs.no hC (Wp.rei rfl rfl rfl rfl)
    · rw [if_neg g0, if_neg g0]
      refine Wp.brt rfl (by decide) ?_
      refine Wp.g1 rfl ?_
      refine Wp.call rfl (cr_save hC hS) (fun v M1 h1 q => ?_)
      obtain ⟨rfl, rfl, q1, q2⟩ := q
      have hR : OfRel M1 1 a.V a.nb a.nc := q2.1
      obtain ⟨a1, a2, a3, a4, a5⟩ := id hR
      have hw2 : M1 2 0 = 8 := q2.2.1.1
      have hw5 : M1 5 0 = 9 := q2.2.1.2
      have hK1 : CS M1 a.V a.nb a.nc t := ⟨hR, hw2, hw5, hW⟩
      obtain ⟨r1, r2⟩ := rk_of hW hk g0
      have ep : pt a.V c = a.V (114 + 10 * c + 9) := by unfold pt; rw [if_neg g0]
      refine Wp.g1 rfl ?_
      rw [a1.1]
      refine Wp.calli rfl (c_payD hK1 c (a.V 0) hk (by omega)) ?_
      refine Wp.g1 rfl ?_
      have k5 := m5_partner c a.nc M1 h1 hw5 a3.2.2.1 hnc hk
      rw [show M1 7 (9 * c + 8) = pt a.V c from (a5 c hk).2.2, ep] at k5
      refine Wp.calli rfl k5 ?_
      have k6 := c_rowB (h := h1) hK1 (a.V (114 + 10 * c + 9))
      rw [if_pos r1] at k6
      refine Wp.calli rfl k6 ?_
      generalize rkB a.V a.nb (a.V (114 + 10 * c + 9)) = b at *
      refine Wp.call rfl (o_rmB hR hw2 hnb r1) (fun v M2 h2 q => ?_)
      obtain ⟨rfl, rfl, q3, q4, q5⟩ := q
      refine Wp.g1 rfl ?_
      refine Wp.call rfl (o_rmC (c := c) q5 (by rw [q3 5 (by decide) (by decide) (by decide)]; exact hw5) hnc (by omega) hk (fun r hr => ?_)) (fun v M3 h3 q => ?_)
      · rw [rmB_off (by omega) (by omega), show rmB a.V a.nb b (18 + 8 * r) = a.V (18 + 8 * sk b r) from rmB_sk (k := 0) (by omega) (by omega), ← r2]
        intro e
        exact sk_ne b r (hW.2.2.2.2.1 _ _ r1 (sk_lt (by omega)) e).symm
      · obtain ⟨rfl, rfl, q6, q7, q8⟩ := q
        have e14 : rmC (rmB a.V a.nb b) a.nc c 14 = a.V 14 := by rw [rmC_off (by decide) (Or.inl (by decide)), rmB_off (by decide) (Or.inl (by decide))]
        have e17 : rmC (rmB a.V a.nb b) a.nc c 17 = a.V 17 := by rw [rmC_off (by decide) (Or.inl (by decide)), rmB_off (by decide) (Or.inl (by decide))]
        have hR3 := q8.cnt (p := pDel a.V c (a.V 0))
        refine Wp.g1 rfl ?_
        rw [show M3 1 7 = rmC (rmB a.V a.nb b) a.nc c 14 from q8.1.2.2.2.2.1]
        rw [upd2_off (M := M3) (k := 1) (j := 7) (i := 10) (by decide), show M3 1 10 = rmC (rmB a.V a.nb b) a.nc c 17 from q8.1.2.2.2.2.2.2.2]
        refine Wp.re rfl ⟨rfl, rfl, fun k g => ?_, CR.office q2 (fun k g => ?_) ?_ ?_ hR3.1⟩
        · rw [upd2_ne (by omega), upd2_ne (by omega), q6 k (by omega) (by omega) (by omega), q3 k (by omega) (by omega) (by omega)]; exact q1 k g
        · rw [upd2_ne (by omega), upd2_ne (by omega), q6 k (by omega) (by omega) (by omega), q3 k (by omega) (by omega) (by omega)]
        · rw [upd2_ne (by omega), upd2_ne (by omega), q6 2 (by omega) (by omega) (by omega), q4]
        · rw [upd2_ne (by omega), upd2_ne (by omega), q7, q3 5 (by omega) (by omega) (by omega)]
  · rw [if_neg hk, if_neg hk]
    refine Wp.brf rfl (by decide) ?_
    refine Wp.g1 rfl ?_
    exact Cs.no hC (Wp.rei rfl rfl rfl rfl)
theorem s_deliver {t' : Nat} (hS : SO a t) (ht : t ≤ t') (x : Int) : SO (sDeliver a x).2 t' := by
  unfold sDeliver
  by_cases b : rkC a.V a.nc x < a.nc
  · rw [if_pos b]
    split
    · exact hS.mono ht
    · next g0 =>
      generalize rkC a.V a.nc x = c at *
      obtain ⟨r1, r2⟩ := rk_of hS.1 b g0
      have hW' := hS.1.mono ht
      refine SO.sv hS ht (WF.cnt ?_ (by omega))
      rw [rm_comm r1 hW'.1.2.2.1]
      refine (hW'.delC (Nat.le_refl _) b).delB (Nat.le_refl _) r1 (fun r hr => ?_)
      rw [rmC_sk (by omega) (by omega), rmC_off (by omega) (Or.inl (by have : a.nb ≤ 12 := hW'.1.2.2.1; omega)), r2]
      intro e
      exact sk_ne c r (hW'.2.2.2.2.2.2 _ _ (sk_lt (by omega)) b e (by rw [e]; exact g0))
  · rw [if_neg b]; exact hS.mono ht
def sGiveUp (a : At) (x : Int) : Int × At := if rkC a.V a.nc x < a.nc then
    (if a.V (114 + 10 * rkC a.V a.nc x + 9) = 0 ∧ 21 ≤ a.V 0 - a.V (114 + 10 * rkC a.V a.nc x + 8) then (pGiv a.V (rkC a.V a.nc x), ((cntV (rmC a.V a.nc (rkC a.V a.nc x)) 15 (pGiv a.V (rkC a.V a.nc x)), a.nb, a.nc - 1), (sv a).2)) else (-10003, a)) else (-10001, a)
theorem c_giveUp (hC : CR M a) (hS : SO a t) (x : Int) : Wp zS0 tX8_giveUp none 0 [zr 0, zi x, zn, zn, zn] [] M h (Cs (sGiveUp a x) M h) := by
  have hK := hC.cs hS
  have hW := hS.1
  have hnb : a.nb ≤ 12 := hW.1.2.2.1
  have hnc : a.nc ≤ 10 := hW.1.2.2.2
  have v0 := hW.2.1.1
  unfold sGiveUp
  refine Wp.g1 rfl ?_
  refine Wp.calli rfl (c_rowC hK x) ?_
  refine Wp.g1 rfl ?_
  by_cases hk : rkC a.V a.nc x < a.nc
  · rw [if_pos hk, if_pos hk]
    generalize rkC a.V a.nc x = c at *
    have hc8 := (hW.2.2.2.1 c hk).2.2.2.2.2.2.2.2.2.1
    refine Wp.brt rfl (by omega) ?_
    refine Wp.g1 rfl ?_
    have k5 := m5_get c 7 a.nc M h hK.2.2.1 hK.1.2.2.1.2.2.1 hnc hk (by omega)
    rw [show M 7 (9 * c + 7) = a.V (114 + 10 * c + 8) from (hK.1.2.2.2.2 c hk).2.1 7 (by omega)] at k5
    refine Wp.calli rfl k5 ?_
    refine Wp.g1 rfl ?_
    rw [hK.1.1.1, w32_id (x := a.V 0 - a.V (114 + 10 * c + 8)) ⟨by omega, by omega⟩]
    refine Wp.calli rfl (o_freeC hK hk) ?_
    by_cases g0 : a.V (114 + 10 * c + 9) = 0
    · rw [if_pos g0]
      refine Wp.brf rfl (by decide) ?_
      refine Wp.g1 rfl ?_
      by_cases g1 : 21 ≤ a.V 0 - a.V (114 + 10 * c + 8)
      · rw [if_pos ⟨g0, g1⟩]
        refine Wp.brt rfl (by omega) ?_
        refine Wp.g1 rfl ?_
        refine Wp.call rfl (cr_save hC hS) (fun v M1 h1 q => ?_)
        obtain ⟨rfl, rfl, q1, q2⟩ := q
        have hR : OfRel M1 1 a.V a.nb a.nc := q2.1
        have hw5 : M1 5 0 = 9 := q2.2.1.2
        have hK1 : CS M1 a.V a.nb a.nc t := ⟨hR, q2.2.1.1, hw5, hW⟩
        refine Wp.g1 rfl ?_
        refine Wp.calli rfl (c_payG hK1 c hk) ?_
        refine Wp.g1 rfl ?_
        refine Wp.call rfl (o_rmC (c := c) hR hw5 hnc hnb hk (fun r hr => by have := (hW.2.2.1 r hr).1; omega)) (fun v M3 h3 q => ?_)
        obtain ⟨rfl, rfl, q6, q7, q8⟩ := q
        have hR3 := q8.cnt (p := pGiv a.V c)
        refine Wp.g1 rfl ?_
        rw [show M3 1 8 = rmC a.V a.nc c 15 from q8.1.2.2.2.2.2.1]
        rw [upd2_off (M := M3) (k := 1) (j := 8) (i := 10) (by decide), show M3 1 10 = rmC a.V a.nc c 17 from q8.1.2.2.2.2.2.2.2]
        refine Wp.re rfl ⟨rfl, rfl, fun k g => ?_, CR.office q2 (fun k g => ?_) ?_ ?_ hR3.2⟩
        · rw [upd2_ne (by omega), upd2_ne (by omega), q6 k (by omega) (by omega) (by omega)]; exact q1 k g
        · rw [upd2_ne (by omega), upd2_ne (by omega), q6 k (by omega) (by omega) (by omega)]
        · rw [upd2_ne (by omega), upd2_ne (by omega), q6 2 (by omega) (by omega) (by omega)]
        · rw [upd2_ne (by omega), upd2_ne (by omega), q7]
      · rw [if_neg (fun q => g1 q.2)]
        refine Wp.brf rfl (by omega) ?_
        refine Wp.g1 rfl ?_
        exact Cs.no hC (Wp.rei rfl rfl rfl rfl)
    · rw [if_neg g0, if_neg (fun q => g0 q.1)]
      refine Wp.brt rfl (by decide) ?_
      refine Wp.g1 rfl ?_
      exact Cs.no hC (Wp.rei rfl rfl rfl rfl)
  · rw [if_neg hk, if_neg hk]
    refine Wp.brf rfl (by decide) ?_
    refine Wp.g1 rfl ?_
    exact Cs.no hC (Wp.rei rfl rfl rfl rfl)
theorem s_giveUp {t' : Nat} (hS : SO a t) (ht : t ≤ t') (x : Int) : SO (sGiveUp a x).2 t' := by
  unfold sGiveUp
  by_cases b : rkC a.V a.nc x < a.nc
  · rw [if_pos b]
    split
    · exact SO.sv hS ht (WF.cnt (hS.1.delC ht b) (by omega))
    · exact hS.mono ht
  · rw [if_neg b]; exact hS.mono ht
def sAuction (a : At) (x : Int) : Int × At := if rkB a.V a.nb x < a.nb then
    (if cw a.V a.nc (rkB a.V a.nb x) = -10006 ∧ 90 ≤ a.V 0 - a.V (18 + 8 * rkB a.V a.nb x + 7) then (((a.nb - 1 : Nat) : Int), ((up (rmB a.V a.nb (rkB a.V a.nb x)) 16 (w32 (a.V 16 + 1)), a.nb - 1, a.nc), (sv a).2)) else (-10003, a)) else (-10001, a)
theorem c_auction (hC : CR M a) (hS : SO a t) (x : Int) : Wp zS0 tX8_auction none 0 [zr 0, zi x, zn, zn] [] M h (Cs (sAuction a x) M h) := by
  have hK := hC.cs hS
  have hW := hS.1
  have hnb : a.nb ≤ 12 := hW.1.2.2.1
  have v0 := hW.2.1.1
  unfold sAuction
  refine Wp.g1 rfl ?_
  refine Wp.calli rfl (c_rowB hK x) ?_
  refine Wp.g1 rfl ?_
  by_cases hk : rkB a.V a.nb x < a.nb
  · rw [if_pos hk, if_pos hk]
    generalize rkB a.V a.nb x = b at *
    have hb7 := (hW.2.2.1 b hk).2.2.2.2.2.2.2.2
    refine Wp.brt rfl (by omega) ?_
    refine Wp.g1 rfl ?_
    have k5 := m2_get b 6 a.nb M h hK.2.1 hK.1.2.2.1.1 hnb hk (by omega)
    rw [show M 4 (8 * b + 6) = a.V (18 + 8 * b + 7) from (hK.1.2.2.2.1 b hk).2.1 6 (by omega)] at k5
    refine Wp.calli rfl k5 ?_
    refine Wp.g1 rfl ?_
    rw [hK.1.1.1, w32_id (x := a.V 0 - a.V (18 + 8 * b + 7)) ⟨by omega, by omega⟩]
    refine Wp.calli rfl (o_freeB hK hk) ?_
    by_cases g0 : cw a.V a.nc b = -10006
    · rw [if_pos g0]
      refine Wp.brf rfl (by decide) ?_
      refine Wp.g1 rfl ?_
      by_cases g1 : 90 ≤ a.V 0 - a.V (18 + 8 * b + 7)
      · rw [if_pos ⟨g0, g1⟩]
        refine Wp.brt rfl (by omega) ?_
        refine Wp.g1 rfl ?_
        refine Wp.call rfl (cr_save hC hS) (fun v M1 h1 q => ?_)
        obtain ⟨rfl, rfl, q1, q2⟩ := q
        have hR : OfRel M1 1 a.V a.nb a.nc := q2.1
        refine Wp.g1 rfl ?_
        refine Wp.call rfl (o_rmB hR q2.2.1.1 hnb hk) (fun v M3 h3 q => ?_)
        obtain ⟨rfl, rfl, q6, q7, q8⟩ := q
        refine Wp.g1 rfl ?_
        rw [show M3 1 9 = rmB a.V a.nb b 16 from q8.1.2.2.2.2.2.2.1, rmB_off (j := 16) (by decide) (Or.inl (by decide))]
        refine Wp.calli rfl (m2_rows _ _) ?_
        refine Wp.re rfl ⟨?_, rfl, fun k g => ?_, CR.office q2 (fun k g => ?_) ?_ ?_ ?_⟩
        · rw [upd2_ne (by decide), q8.2.2.1.1]
        · rw [upd2_ne (by omega), q6 k (by omega) (by omega) (by omega)]; exact q1 k g
        · rw [upd2_ne (by omega), q6 k (by omega) (by omega) (by omega)]
        · rw [upd2_ne (by omega), q7]
        · rw [upd2_ne (by omega), q6 5 (by omega) (by omega) (by omega)]
        · obtain ⟨f0, f1, f2, f3, f4, f5, f6, f7⟩ := q8.1
          refine q8.head (fun k g1 g2 => by rw [upd2_ne (by omega)]) (fun j g => up_off (by omega)) (up_off (by omega)) (up_off (by omega)) ?_ (fun j hj => ?_)
          · simp only [upd2, up]
            exact ⟨f0, f1, f2, f3, f4, f5, rfl, f7⟩
          · rw [upd2_ne (by decide), up_off (by omega)]
            exact q8.2.1 j hj
      · rw [if_neg (fun q => g1 q.2)]
        refine Wp.brf rfl (by omega) ?_
        refine Wp.g1 rfl ?_
        exact Cs.no hC (Wp.rei rfl rfl rfl rfl)
    · rw [if_neg g0, if_neg (fun q => g0 q.1)]
      refine Wp.brt rfl (by decide) ?_
      refine Wp.g1 rfl ?_
      exact Cs.no hC (Wp.rei rfl rfl rfl rfl)
  · rw [if_neg hk, if_neg hk]
    refine Wp.brf rfl (by decide) ?_
    refine Wp.g1 rfl ?_
    exact Cs.no hC (Wp.rei rfl rfl rfl rfl)
theorem s_auction {t' : Nat} (hS : SO a t) (ht : t ≤ t') (x : Int) : SO (sAuction a x).2 t' := by
  unfold sAuction
  by_cases b : rkB a.V a.nb x < a.nb
  · rw [if_pos b]
    split
    · next q =>
      have hW' := hS.1.delB ht b ((cw_free hS.1 _).mp q.1)
      obtain ⟨v0, v1, v2, v3, v4, -⟩ := hW'.2.1
      refine SO.sv hS ht (hW'.head (Nat.le_refl _) (fun j g => up_off (by omega)) (up_off (by omega)) (up_off (by omega)) (up_off (by omega)) (up_off (by omega)) ?_)
      repeat rw [up_off (by omega)]
      exact ⟨v0, v1, v2, v3, fun i hi => by rw [up_off (by omega)]; exact v4 i hi⟩
    · exact hS.mono ht
  · rw [if_neg b]; exact hS.mono ht
end GOING
end
section
/-! matching all: the greatest pair, one after the other -/
section ALL
variable {M : Me} {h : Ml} {a : At} {V : Nat → Int} {nb nc t : Nat}
theorem bp_spec (f : Nat → Int) : ∀ n, bv f n ≠ -1 → bp f n < n ∧ f (bp f n) = bv f n ∧ (∀ i, i < n → f i ≤ bv f n) ∧ ∀ i, i < bp f n → f i < bv f n := by
  intro n
  induction n with
  | zero => intro h; exact absurd rfl h
  | succ n ih =>
    intro h
    by_cases g : bv f n < f n
    · have e1 : bv f (n + 1) = f n := by unfold bv; rw [if_pos g]
      have e2 : bp f (n + 1) = n := by unfold bp; rw [if_pos g]
      have hb : ∀ i, i < n → f i ≤ bv f n := by
        intro i hi
        by_cases g2 : bv f n = -1
        · have : ∀ m, bv f m = -1 → ∀ i, i < m → f i ≤ -1 := by
            intro m
            induction m with
            | zero => intro _ i hi; omega
            | succ m ihm =>
              intro hm i hi
              have ge := bv_ge f m
              unfold bv at hm
              by_cases g3 : bv f m < f m
              · rw [if_pos g3] at hm; omega
              · rw [if_neg g3] at hm
                by_cases e : i = m
                · subst e; omega
                · exact ihm hm i (by omega)
          rw [g2]
          exact this n g2 i hi
        · exact (ih g2).2.2.1 i hi
      rw [e1, e2]
      refine ⟨by omega, rfl, fun i hi => ?_, fun i hi => ?_⟩
      · by_cases e : i = n
        · subst e; exact Int.le_refl _
        · have := hb i (by omega); omega
      · have := hb i hi; omega
    · have e1 : bv f (n + 1) = bv f n := by
        show (if bv f n < f n then f n else bv f n) = _
        rw [if_neg g]
      have e2 : bp f (n + 1) = bp f n := by
        show (if bv f n < f n then n else bp f n) = _
        rw [if_neg g]
      rw [e1] at h
      obtain ⟨h1, h2, h3, h4⟩ := ih h
      rw [e1, e2]
      refine ⟨by omega, h2, fun i hi => ?_, h4⟩
      by_cases e : i = n
      · subst e; omega
      · exact h3 i (by omega)
theorem bv_none (f : Nat → Int) : ∀ n, bv f n = -1 → ∀ i, i < n → f i ≤ -1 := by
  intro n
  induction n with
  | zero => intro _ i hi; omega
  | succ n ih =>
    intro hm i hi
    have ge := bv_ge f n
    unfold bv at hm
    by_cases g3 : bv f n < f n
    · rw [if_pos g3] at hm; omega
    · rw [if_neg g3] at hm
      by_cases e : i = n
      · subst e; omega
      · exact ih hm i (by omega)
/-- the greatest score of a pair that could be matched, its claim and bag, and the state with them matched -/
def bs (V : Nat → Int) (nb nc : Nat) : Int := bv (gM V nb nc) 120
def bc (V : Nat → Int) (nb nc : Nat) : Nat := bp (gM V nb nc) 120 / 12
def bb (V : Nat → Int) (nb nc : Nat) : Nat := bp (gM V nb nc) 120 % 12
def jn (V : Nat → Int) (nb nc : Nat) : Nat → Int := up V (114 + 10 * bc V nb nc + 9) (V (18 + 8 * bb V nb nc))
theorem bs_facts (hb : bs V nb nc ≠ -1) : bc V nb nc < nc ∧ V (114 + 10 * bc V nb nc + 9) = 0 ∧ bb V nb nc < nb ∧ cw V nc (bb V nb nc) = -10006 ∧ gF V nb nc (bc V nb nc) (bb V nb nc) = bs V nb nc := by
  obtain ⟨h1, h2, -⟩ := bp_spec _ _ hb
  have h3 : gF V nb nc (bc V nb nc) (bb V nb nc) = bs V nb nc := h2
  have h4 : gF V nb nc (bc V nb nc) (bb V nb nc) ≠ -1 := by rw [h3]; exact hb
  unfold gF at h4
  by_cases g : bc V nb nc < nc ∧ V (114 + 10 * bc V nb nc + 9) = 0
  · rw [if_pos g] at h4
    unfold lkG at h4
    by_cases g2 : bb V nb nc < nb ∧ cw V nc (bb V nb nc) = -10006 ∧ V (114 + 10 * bc V nb nc + 8) ≤ V (18 + 8 * bb V nb nc + 7) ∧ V 1 ≤ scI V (bc V nb nc) (bb V nb nc) 0
    · exact ⟨g.1, g.2, g2.1, g2.2.1, h3⟩
    · rw [if_neg g2] at h4; exact absurd rfl h4
  · rw [if_neg g] at h4; exact absurd rfl h4
theorem scP_up {c b q : Nat} {x : Int} (hb : b < 12) (i : Nat) : scP (up V (114 + 10 * q + 9) x) c b i = scP V c b i := by
  unfold scP
  split <;> repeat rw [up_off (by omega)]
theorem scI_up {c b q : Nat} {x : Int} (hb : b < 12) (i : Nat) : scI (up V (114 + 10 * q + 9) x) c b i = scI V c b i := by
  have e : scP (up V (114 + 10 * q + 9) x) c b = scP V c b := funext (fun i => scP_up hb i)
  unfold scI
  rw [e]
theorem gF_join (hW : WF V nb nc t) {c b : Nat} (hc : c < nc) (hb : b < nb) (h0 : V (114 + 10 * c + 9) = 0) (hf : cw V nc b = -10006) (c' b' : Nat) : gF (up V (114 + 10 * c + 9) (V (18 + 8 * b))) nb nc c' b' = if c' = c ∨ b' = b then -1 else gF V nb nc c' b' := by
  have hnb := hW.1.2.2.1
  have hfree := (cw_free hW b).mp hf
  have hpos := (hW.2.2.1 b hb).1
  by_cases e : c' = c
  · rw [if_pos (Or.inl e), e]
    unfold gF
    rw [up_at, if_neg (by omega)]
  · by_cases e2 : b' = b
    · rw [if_pos (Or.inr e2), e2]
      have k1 : up V (114 + 10 * c + 9) (V (18 + 8 * b)) (18 + 8 * b) = V (18 + 8 * b) := up_off (by omega)
      have := cw_some (V := up V (114 + 10 * c + 9) (V (18 + 8 * b))) (r := b) hc (by rw [up_at, k1]) (fun q hq hqc => by rw [up_off (by omega), k1]; exact hfree q hq)
      rw [up_off (by omega)] at this
      have hp := (hW.2.2.2.1 c hc).1
      unfold gF lkG
      rw [this, if_neg (c := b < nb ∧ _) (fun q => by have := q.2.1; omega)]
      split <;> rfl
    · rw [if_neg (by omega)]
      unfold gF
      rw [up_off (by omega)]
      by_cases g : c' < nc ∧ V (114 + 10 * c' + 9) = 0
      · rw [if_pos g, if_pos g]
        unfold lkG
        by_cases gb : b' < nb
        · have hne : V (18 + 8 * b) ≠ V (18 + 8 * b') := fun q => e2 (hW.2.2.2.2.1 b' b gb hb q.symm)
          have hpr := (hW.2.2.1 b' gb).1
          have ecw : cw (up V (114 + 10 * c + 9) (V (18 + 8 * b))) nc b' = cw V nc b' := cw_same (up_off (by omega)) (fun q hq => by
            by_cases eq : q = c
            · rw [eq, up_at, h0]
              exact ⟨fun g => absurd g hne, fun g => by omega⟩
            · rw [up_off (by omega)]) (fun q hq => up_off (by omega))
          rw [ecw, up_off (by omega), up_off (by omega), up_off (by omega), scI_up (by omega)]
        · rw [if_neg (fun q => gb q.1), if_neg (fun q => gb q.1)]
      · rw [if_neg g, if_neg g]
theorem gM_jn (hW : WF V nb nc t) (hb : bs V nb nc ≠ -1) : gM (jn V nb nc) nb nc = stk (gM V nb nc) := by
  obtain ⟨h1, h2, h3, h4, h5⟩ := bs_facts hb
  funext i
  exact gF_join hW h1 h3 h2 h4 _ _
theorem WF.jn (hW : WF V nb nc t) (hb : bs V nb nc ≠ -1) : WF (jn V nb nc) nb nc t := by
  obtain ⟨h1, h2, h3, h4, h5⟩ := bs_facts hb
  exact hW.setM (Nat.le_refl _) h1 (Or.inr ⟨_, h3, rfl, (cw_free hW _).mp h4⟩)
/-- matching until there is none, at most n times -/
def mA (nb nc : Nat) : Nat → (Nat → Int) → Nat × (Nat → Int)
  | 0, V => (0, V)
  | n + 1, V => if bs V nb nc = -1 then (0, V) else ((mA nb nc n (jn V nb nc)).1 + 1, (mA nb nc n (jn V nb nc)).2)
theorem mA_step {n : Nat} {V : Nat → Int} (g : bs V nb nc ≠ -1) : mA nb nc (n + 1) V = ((mA nb nc n (jn V nb nc)).1 + 1, (mA nb nc n (jn V nb nc)).2) := by
  show (if bs V nb nc = -1 then (0, V) else _) = _
  rw [if_neg g]
theorem mA_le : ∀ (n : Nat) (V : Nat → Int), (mA nb nc n V).1 ≤ n := by
  intro n
  induction n with
  | zero => intro V; exact Nat.le_refl _
  | succ n ih =>
    intro V
    unfold mA
    split
    · exact Nat.zero_le _
    · exact Nat.succ_le_succ (ih _)
theorem mA_WF : ∀ (n : Nat) {V : Nat → Int}, WF V nb nc t → WF (mA nb nc n V).2 nb nc t := by
  intro n
  induction n with
  | zero => intro V h; exact h
  | succ n ih =>
    intro V h
    unfold mA
    split
    · exact h
    · next g => exact ih (h.jn g)
def sMatchAll (a : At) : Int × At := (((mA a.nb a.nc 10 a.V).1 : Int), (((mA a.nb a.nc 10 a.V).2, a.nb, a.nc), (sv a).2))
theorem s_matchAll {t' : Nat} (hS : SO a t) (ht : t ≤ t') : SO (sMatchAll a).2 t' := SO.sv hS ht (mA_WF 10 (hS.1.mono ht))
theorem c_matchAll (hC : CR M a) (hS : SO a t) : Wp zS0 tX8_matchAll none 0 [zr 0, zn] [] M h (Cs (sMatchAll a) M h) := by
  have hW := hS.1
  have loop : ∀ d n : Nat, n + d = 10 → ∀ (M' : Me) (V : Nat → Int), CR M' ((V, a.nb, a.nc), (sv a).2) → WF V a.nb a.nc t → (∀ k, 74 ≤ k → M' k = M k) → (∀ i, i < 120 → M' 64 i = gM V a.nb a.nc i) → (n + (mA a.nb a.nc d V).1 = (mA a.nb a.nc 10 a.V).1 ∧ (mA a.nb a.nc d V).2 = (mA a.nb a.nc 10 a.V).2) →
      Wp zS0 tX8_matchAll none 28 [zr 0, zi n] [] M' h (Cs (sMatchAll a) M h) := by
    intro d
    induction d with
    | zero =>
      intro n hn M' V hC' hW' hk hg he
      refine Wp.g1 rfl ?_
      refine Wp.brt rfl (by omega) ?_
      refine Wp.g1 rfl ?_
      refine Wp.re rfl ⟨?_, rfl, hk, ?_⟩
      · show _ = some (zi ((mA a.nb a.nc 10 a.V).1 : Int))
        rw [← he.1, show (mA a.nb a.nc 0 V).1 = 0 from rfl, show n + 0 = 10 from hn]
        rfl
      · show CR M' (((mA a.nb a.nc 10 a.V).2, a.nb, a.nc), (sv a).2)
        rw [← he.2]; exact hC'
    | succ d ih =>
      intro n hn M' V hC' hW' hk hg he
      obtain ⟨c1, c2⟩ := bv_congr 120 hg
      refine Wp.g1 rfl ?_
      refine Wp.brf rfl (by omega) ?_
      refine Wp.g1 rfl ?_
      refine Wp.call rfl (m_takeGreatest M' h) (fun v M1 h1 q => ?_)
      obtain ⟨rfl, rfl, q1, q2, q3⟩ := q
      rw [c1, c2] at q3
      rw [c1]
      refine Wp.g1 rfl ?_
      have hC1 : CR M1 ((V, a.nb, a.nc), (sv a).2) := hC'.kept (fun k g => q1 k (by omega) (by omega))
      by_cases g : bs V a.nb a.nc = -1
      · refine Wp.brf rfl (fun q => q g) ?_
        refine Wp.g1 rfl ?_
        have e : mA a.nb a.nc (d + 1) V = (0, V) := by unfold mA; rw [if_pos g]
        rw [e] at he
        refine Wp.re rfl ⟨?_, rfl, fun k g => (q1 k (by omega) (by omega)).trans (hk k g), ?_⟩
        · show _ = some (zi ((mA a.nb a.nc 10 a.V).1 : Int))
          rw [← he.1]; rfl
        · show CR M1 (((mA a.nb a.nc 10 a.V).2, a.nb, a.nc), (sv a).2)
          rw [← he.2]; exact hC1
      · refine Wp.brt rfl g ?_
        refine Wp.g1 rfl ?_
        obtain ⟨q4, q5, q6⟩ := q3 g
        obtain ⟨f1, f2, f3, f4, f5⟩ := bs_facts g
        rw [q4, q5]
        have hK1 : CS M1 V a.nb a.nc t := ⟨hC1.1, hC1.2.1.1, hC1.2.1.2, hW'⟩
        refine Wp.call rfl (o_join hK1 f1 f3 f2 f4) (fun v M2 h2 q => ?_)
        obtain ⟨rfl, rfl, q7, q8⟩ := q
        refine Wp.gt 28 rfl ?_
        rw [w32_s (by omega)]
        have e : mA a.nb a.nc (d + 1) V = ((mA a.nb a.nc d (jn V a.nb a.nc)).1 + 1, (mA a.nb a.nc d (jn V a.nb a.nc)).2) := mA_step g
        rw [e] at he
        refine ih (n + 1) (by omega) M2 (jn V a.nb a.nc) ?_ (hW'.jn g) (fun k g => ?_) (fun i hi => ?_) ⟨?_, he.2⟩
        · exact CR.office hC1 (fun k g => q7 k (by omega) (by omega)) (by rw [q7 2 (by decide) (by decide)]) (by rw [q7 5 (by decide) (by decide)]) q8
        · rw [q7 k (by omega) (by omega), q1 k (by omega) (by omega)]; exact hk k g
        · rw [q7 64 (by decide) (by decide), q6 i hi, hg i hi, gM_jn hW' g]
          rfl
        · have := he.1
          show n + 1 + _ = _
          omega
  refine Wp.g1 rfl ?_
  refine Wp.call rfl (cr_save hC hS) (fun v M1 h1 q => ?_)
  obtain ⟨rfl, rfl, q1, q2⟩ := q
  refine Wp.g1 rfl ?_
  refine Wp.call rfl (m_fill q2.1 q2.2.1.1 q2.2.1.2 hW) (fun v M2 h2 q => ?_)
  obtain ⟨rfl, rfl, q3, q4⟩ := q
  refine Wp.gt 28 rfl ?_
  refine loop 10 0 (by omega) M2 a.V (q2.kept (fun k g => q3 k (by omega) (by omega))) hW (fun k g => (q3 k (by omega) (by omega)).trans (q1 k g)) (fun i hi => ?_) ⟨by rw [Nat.zero_add], rfl⟩
  have := q4 (i / 12) (i % 12) (by omega) (by omega)
  rw [show 12 * (i / 12) + i % 12 = i by omega] at this
  exact this
end ALL
end
section
/-! the class's best sum: reached columns, sums -/
theorem nI_or (a b : Nat) : nI a ||| nI b = nI (a ||| b) := by
  apply Int32.toBitVec_inj.1
  show BitVec.ofNat 32 a ||| BitVec.ofNat 32 b = BitVec.ofNat 32 (a ||| b)
  apply BitVec.eq_of_getLsbD_eq
  intro i hi
  simp [hi]
theorem bOr_nat {a b : Nat} (ha : a < 2 ^ 31) (hb : b < 2 ^ 31) : bOr (a : Int) (b : Int) = ((a ||| b : Nat) : Int) := by
  show (nI a ||| nI b).toInt = _
  rw [nI_or, nI_toInt (Nat.or_lt_two_pow ha hb)]
theorem sh_amt : ∀ j : Nat, j < 13 → ((Int32.ofInt (j : Int) &&& 31).toBitVec.smod 32).toNat = j := by decide +kernel
theorem bShr_nat {m j : Nat} (hm : m < 2 ^ 31) (hj : j < 13) : bShr (m : Int) (j : Int) = ((m >>> j : Nat) : Int) := by
  show ((nI m).toBitVec.sshiftRight ((Int32.ofInt (j : Int) &&& 31).toBitVec.smod 32).toNat).toInt = _
  rw [sh_amt j hj, BitVec.toInt_sshiftRight]
  have e : (nI m).toBitVec.toInt = (m : Int) := nI_toInt hm
  rw [e]
  rfl
theorem ib_nat {m j : Nat} (hm : m < 2 ^ 31) (hj : j < 13) : ib (m : Int) (j : Int) = if m.testBit j then 1 else 0 := by
  unfold ib
  rw [bShr_nat hm hj, show (1 : Int) = ((1 : Nat) : Int) from rfl, bAnd_nat (by decide)]
  have : (m >>> j &&& 1) = if m.testBit j then 1 else 0 := by
    rw [Nat.and_comm]
    unfold Nat.testBit
    have h2 : 1 &&& m >>> j = (m >>> j) % 2 := Nat.one_and_eq_mod_two _
    rw [h2]
    rcases Nat.mod_two_eq_zero_or_one (m >>> j) with e | e <;> rw [e] <;> rfl
  rw [this]
  split <;> rfl
theorem bShl_pow : ∀ j : Nat, j < 13 → bShl 1 (j : Int) = ((2 ^ j : Nat) : Int) := by decide +kernel
/-- the mask with a column more -/
theorem mask_add {m j : Nat} (hm : m < 2 ^ 13) (hj : j < 13) : bOr (m : Int) (bShl 1 (j : Int)) = ((m ||| 2 ^ j : Nat) : Int) ∧ m ||| 2 ^ j < 2 ^ 13 ∧ ∀ k, (m ||| 2 ^ j).testBit k = (m.testBit k || decide (j = k)) := by
  have hp : 2 ^ j < 2 ^ 13 := Nat.pow_lt_pow_right (by decide) hj
  refine ⟨?_, Nat.or_lt_two_pow hm hp, fun k => ?_⟩
  · rw [bShl_pow j hj, bOr_nat (by omega) (by omega)]
  · rw [Nat.testBit_or, Nat.testBit_two_pow]
theorem sumI_add (f g : Nat → Int) : ∀ n, sumI (fun i => f i + g i) n = sumI f n + sumI g n := by
  intro n
  induction n with
  | zero => rfl
  | succ n ih =>
    show sumI (fun i => f i + g i) n + (f n + g n) = sumI f n + f n + (sumI g n + g n)
    rw [ih]; omega
theorem sumI_zero : ∀ n, sumI (fun _ => 0) n = 0 := by
  intro n
  induction n with
  | zero => rfl
  | succ n ih =>
    show sumI (fun _ => 0) n + 0 = 0
    rw [ih]; rfl
theorem sumI_swap (f : Nat → Nat → Int) : ∀ n m, sumI (fun i => sumI (f i) m) n = sumI (fun j => sumI (fun i => f i j) n) m := by
  intro n
  induction n with
  | zero => intro m; exact (sumI_zero m).symm
  | succ n ih =>
    intro m
    show sumI (fun i => sumI (f i) m) n + sumI (f n) m = sumI (fun j => sumI (fun i => f i j) n + f n j) m
    rw [ih m, sumI_add]
theorem sumI_one {f : Nat → Int} {k : Nat} : ∀ n, k < n → (∀ j, j < n → j ≠ k → f j = 0) → sumI f n = f k := by
  intro n
  induction n with
  | zero => intro h; omega
  | succ n ih =>
    intro hk hz
    show sumI f n + f n = f k
    by_cases e : k = n
    · subst e
      have : sumI f k = 0 := by
        rw [← sumI_zero k]
        exact sumI_congr k (fun j hj => hz j (by omega) (by omega))
      rw [this, Int.zero_add]
    · rw [ih (by omega) (fun j hj hn => hz j (by omega) hn), hz n (by omega) (by omega), Int.add_zero]
theorem sumI_le {f g : Nat → Int} : ∀ n, (∀ j, j < n → f j ≤ g j) → sumI f n ≤ sumI g n := by
  intro n
  induction n with
  | zero => intro _; exact Int.le_refl _
  | succ n ih =>
    intro h
    have h1 := ih (fun j hj => h j (by omega))
    have h2 := h n (by omega)
    show sumI f n + f n ≤ sumI g n + g n
    omega
/-- a sum over owned columns is a sum over their owners -/
theorem sumI_own {w : Nat → Nat} {f : Nat → Int} {n m : Nat} (hw : ∀ b, b < n → w b < m) (h0 : f 0 = 0) (hj : ∀ b b', b < n → b' < n → w b = w b' → w b ≠ 0 → b = b') (pl : Nat → Prop) (hd : ∀ c, pl c ↔ ∃ b, b < n ∧ w b = c ∧ c ≠ 0) (dp : ∀ c, Decidable (pl c)) : sumI (fun b => f (w b)) n = sumI (fun c => @ite _ (pl c) (dp c) (f c) 0) m := by
  have e1 : sumI (fun b => f (w b)) n = sumI (fun b => sumI (fun c => if w b = c then f c else 0) m) n := sumI_congr n (fun b hb => by
    rw [sumI_one (k := w b) m (hw b hb) (fun j _ hne => if_neg (fun q => hne q.symm)), if_pos rfl])
  rw [e1, sumI_swap]
  refine sumI_congr m (fun c hc => ?_)
  by_cases hp : pl c
  · obtain ⟨b, b1, b2, b3⟩ := (hd c).mp hp
    rw [if_pos hp, sumI_one (k := b) n b1 (fun j h1 hne => if_neg (fun q => hne (hj j b h1 b1 (q.trans b2.symm) (by omega)))), if_pos b2]
  · rw [if_neg hp]
    have e0 : sumI (fun b => if w b = c then f c else 0) n = sumI (fun _ => 0) n := sumI_congr n (fun b hb => by
      by_cases e : w b = c
      · rw [if_pos e]
        by_cases ec : c = 0
        · rw [ec]; exact h0
        · exact absurd ((hd c).mpr ⟨b, hb, e, ec⟩) hp
      · rw [if_neg e])
    rw [e0, sumI_zero]
end
section
/-! the class's best sum: relaxing, the nearest, the prices -/
def gn (M : Me) (c b : Nat) : Int := max (M 64 (12 * (c - 1) + (b - 1))) 0
theorem w32_p {n : Nat} (h : 1 ≤ n) (h2 : n < 1000000) : w32 ((n : Int) - 1) = ((n - 1 : Nat) : Int) := by
  rw [w32_id ⟨by omega, by omega⟩]; omega
theorem m_gainA (c b : Nat) (hc : 1 ≤ c ∧ c ≤ 10) (hb : 1 ≤ b ∧ b ≤ 12) (M : Me) (h : Ml) : Wp zS0 tX0_gain none 0 [zr 63, zi c, zi b] [] M h (Ri (gn M c b) M h) := by
  refine Wp.g1 rfl ?_
  rw [w32_p (n := c) hc.1 (by omega), w32_p (n := b) hb.1 (by omega)]
  refine Wp.calli rfl (m_gainN (c - 1) (b - 1) (by omega) (by omega) M h) ?_
  refine Wp.g1 rfl ?_
  exact Wp.rei rfl rfl rfl rfl
theorem m_gainA0 (b : Nat) (hb : 1 ≤ b ∧ b ≤ 12) (M : Me) (h : Ml) : Wp zS0 tX0_gain none 0 [zr 63, zi 0, zi b] [] M h (Ri 0 M h) := by
  refine Wp.g1 rfl ?_
  rw [w32_p (n := b) hb.1 (by omega), show w32 (0 - 1) = -1 from by decide]
  have k := m_gain (-1) ((b - 1 : Nat) : Int) M h
  rw [if_neg (by omega)] at k
  refine Wp.calli rfl k ?_
  refine Wp.g1 rfl ?_
  exact Wp.rei rfl (by decide) rfl rfl
theorem m_isReached (m j : Nat) (M : Me) (h : Ml) (hm : M 65 5 = (m : Int)) (hl : m < 2 ^ 13) (hj : j < 13) : Wp zS0 tX0_isReached none 0 [zr 65, zi j] [] M h (Ri (if m.testBit j then 1 else 0) M h) := by
  have e : bAnd (bShr (M 65 5) (j : Int)) 1 = if m.testBit j then 1 else 0 := by
    rw [hm]; exact ib_nat (by omega) hj
  refine Wp.g1 rfl ?_
  rw [e]
  cases m.testBit j
  · refine Wp.brt rfl (by decide) ?_
    refine Wp.g1 rfl ?_
    exact Wp.rei rfl rfl rfl rfl
  · refine Wp.brf rfl (by decide) ?_
    refine Wp.g1 rfl ?_
    exact Wp.rei rfl rfl rfl rfl
/-- what a bag costs a claim -/
def cst (M : Me) (c b : Nat) : Int := -gn M c b - M 66 c - M 67 b
theorem m_relax (m col c : Nat) (M : Me) (h : Ml) (hm : M 65 5 = (m : Int)) (hl : m < 2 ^ 13) (hcol : col ≤ 12) (hc : M 68 col = (c : Int)) (hc1 : 1 ≤ c ∧ c ≤ 10) (hg : ∀ b, 1 ≤ b → b ≤ 12 → -100000 ≤ gn M c b ∧ gn M c b ≤ 100000) (hp : -100000 ≤ M 66 c ∧ M 66 c ≤ 100000) (hq : ∀ b, 1 ≤ b → b ≤ 12 → -100000 ≤ M 67 b ∧ M 67 b ≤ 100000) :
    Wp zS0 tX0_relax none 0 [zr 65, zr 63, zi col, zn, zn, zn] [] M h (fun v M' h' => v = none ∧ h' = h ∧ (∀ k, k ≠ 69 → k ≠ 70 → M' k = M k) ∧ ∀ b, 1 ≤ b → b ≤ 12 → (m.testBit b = false ∧ cst M c b < M 70 b ∧ M' 70 b = cst M c b ∧ M' 69 b = (col : Int)) ∨ (¬ (m.testBit b = false ∧ cst M c b < M 70 b) ∧ M' 70 b = M 70 b ∧ M' 69 b = M 69 b)) := by
  have loop : ∀ d b : Nat, b + d = 13 → 1 ≤ b → ∀ (M' : Me) (x : ZV), (∀ k, k ≠ 69 → k ≠ 70 → M' k = M k) → (∀ i, b ≤ i → M' 70 i = M 70 i ∧ M' 69 i = M 69 i) → (∀ i, 1 ≤ i → i < b → (m.testBit i = false ∧ cst M c i < M 70 i ∧ M' 70 i = cst M c i ∧ M' 69 i = (col : Int)) ∨ (¬ (m.testBit i = false ∧ cst M c i < M 70 i) ∧ M' 70 i = M 70 i ∧ M' 69 i = M 69 i)) →
      Wp zS0 tX0_relax none 21 [zr 65, zr 63, zi col, zi c, zi b, x] [] M' h (fun v M' h' => v = none ∧ h' = h ∧ (∀ k, k ≠ 69 → k ≠ 70 → M' k = M k) ∧ ∀ b, 1 ≤ b → b ≤ 12 → (m.testBit b = false ∧ cst M c b < M 70 b ∧ M' 70 b = cst M c b ∧ M' 69 b = (col : Int)) ∨ (¬ (m.testBit b = false ∧ cst M c b < M 70 b) ∧ M' 70 b = M 70 b ∧ M' 69 b = M 69 b)) := by
    intro d
    induction d with
    | zero =>
      intro b hb _ M' x hk ho hn
      refine Wp.g1 rfl ?_
      refine Wp.brt rfl (by omega) ?_
      exact Wp.re rfl ⟨rfl, rfl, hk, fun i h1 h2 => hn i h1 (by omega)⟩
    | succ d ih =>
      intro b hb hb1 M' x hk ho hn
      have g1 := hg b hb1 (by omega)
      have g2 := hq b hb1 (by omega)
      refine Wp.g1 rfl ?_
      refine Wp.brf rfl (by omega) ?_
      refine Wp.g1 rfl ?_
      refine Wp.calli rfl (m_gainA c b hc1 ⟨hb1, by omega⟩ M' h) ?_
      rw [show gn M' c b = gn M c b by unfold gn; rw [hk 64 (by decide) (by decide)]]
      refine Wp.g1 rfl ?_
      refine Wp.ld rfl rfl c rfl (by omega) ?_
      refine Wp.g1 rfl ?_
      refine Wp.ld rfl rfl b rfl (by omega) ?_
      refine Wp.g1 rfl ?_
      rw [hk 66 (by decide) (by decide), hk 67 (by decide) (by decide)]
      rw [w32_id (x := -gn M c b) ⟨by omega, by omega⟩, w32_id (x := -gn M c b - M 66 c) ⟨by omega, by omega⟩, w32_id (x := -gn M c b - M 66 c - M 67 b) ⟨by omega, by omega⟩]
      rw [show -gn M c b - M 66 c - M 67 b = cst M c b from rfl]
      refine Wp.calli rfl (m_isReached m b M' h (by rw [hk 65 (by decide) (by decide)]; exact hm) hl (by omega)) ?_
      have nxt : ∀ (M2 : Me), (∀ k, k ≠ 69 → k ≠ 70 → M2 k = M k) → (∀ i, i ≠ b → M2 70 i = M' 70 i ∧ M2 69 i = M' 69 i) → ((m.testBit b = false ∧ cst M c b < M 70 b ∧ M2 70 b = cst M c b ∧ M2 69 b = (col : Int)) ∨ (¬ (m.testBit b = false ∧ cst M c b < M 70 b) ∧ M2 70 b = M 70 b ∧ M2 69 b = M 69 b)) → Wp zS0 tX0_relax none 91 [zr 65, zr 63, zi col, zi c, zi b, zi (cst M c b)] [] M2 h (fun v M' h' => v = none ∧ h' = h ∧ (∀ k, k ≠ 69 → k ≠ 70 → M' k = M k) ∧ ∀ b, 1 ≤ b → b ≤ 12 → (m.testBit b = false ∧ cst M c b < M 70 b ∧ M' 70 b = cst M c b ∧ M' 69 b = (col : Int)) ∨ (¬ (m.testBit b = false ∧ cst M c b < M 70 b) ∧ M' 70 b = M 70 b ∧ M' 69 b = M 69 b)) := by
        intro M2 k1 k2 k3
        refine Wp.gt 21 rfl ?_
        rw [w32_s (n := b) (by omega)]
        refine ih (b + 1) (by omega) (by omega) M2 _ k1 (fun i hi => ?_) (fun i h1 h2 => ?_)
        · rw [(k2 i (by omega)).1, (k2 i (by omega)).2]
          exact ho i (by omega)
        · by_cases e : i = b
          · subst e; exact k3
          · rw [(k2 i e).1, (k2 i e).2]
            exact hn i h1 (by omega)
      cases hr : m.testBit b
      · refine Wp.brf rfl (by decide) ?_
        refine Wp.g1 rfl ?_
        refine Wp.ld rfl rfl b rfl (by omega) ?_
        rw [(ho b (Nat.le_refl _)).1]
        refine Wp.br rfl (fun c0 => ?_) (fun c0 => ?_)
        · exact nxt M' hk (fun i _ => ⟨rfl, rfl⟩) (Or.inr ⟨fun q => by have := q.2; omega, ho b (Nat.le_refl _)⟩)
        · refine Wp.g1 rfl ?_
          refine Wp.sto rfl rfl b rfl (by omega) ?_
          refine Wp.g1 rfl ?_
          refine Wp.sto rfl rfl b rfl (by omega) ?_
          refine nxt _ (fun k k1 k2 => by rw [upd2_ne k1, upd2_ne k2]; exact hk k k1 k2) (fun i hi => ?_) (Or.inl ⟨hr, by omega, ?_, ?_⟩)
          · rw [upd2_ne (by decide), upd2_off hi, upd2_off hi, upd2_ne (by decide)]
            exact ⟨rfl, rfl⟩
          · rw [upd2_ne (by decide), upd2_at]
          · rw [upd2_at]
      · refine Wp.brt rfl (by decide) ?_
        exact nxt M' hk (fun i _ => ⟨rfl, rfl⟩) (Or.inr ⟨fun q => Bool.false_ne_true (q.1.symm.trans hr), ho b (Nat.le_refl _)⟩)
  refine Wp.g1 rfl ?_
  refine Wp.ld rfl rfl col rfl (by omega) ?_
  refine Wp.g1 rfl ?_
  rw [hc]
  refine Wp.calli rfl (m_outside _ _ _ M h) ?_
  rw [if_neg (by omega)]
  refine Wp.brt rfl (by decide) ?_
  refine Wp.gt 21 rfl ?_
  exact loop 12 1 (by omega) (by omega) M _ (fun _ _ _ => rfl) (fun _ _ => ⟨rfl, rfl⟩) (fun i h1 h2 => by omega)
theorem m_nearest (m : Nat) (M : Me) (h : Ml) (hm : M 65 5 = (m : Int)) (hl : m < 2 ^ 13) (he : ∃ b, 1 ≤ b ∧ b ≤ 12 ∧ m.testBit b = false) :
    Wp zS0 tX0_nearest none 0 [zr 65, zn, zn] [] M h (fun v M' h' => M' = M ∧ h' = h ∧ ∃ k : Nat, v = some (zi k) ∧ 1 ≤ k ∧ k ≤ 12 ∧ m.testBit k = false ∧ ∀ b, 1 ≤ b → b ≤ 12 → m.testBit b = false → M 70 k ≤ M 70 b) := by
  have loop : ∀ d b : Nat, b + d = 13 → 1 ≤ b → ∀ k : Nat, ((k = 0 ∧ ∀ i, 1 ≤ i → i < b → m.testBit i = true) ∨ (1 ≤ k ∧ k ≤ 12 ∧ m.testBit k = false ∧ ∀ i, 1 ≤ i → i < b → m.testBit i = false → M 70 k ≤ M 70 i)) →
      Wp zS0 tX0_nearest none 4 [zr 65, zi k, zi b] [] M h (fun v M' h' => M' = M ∧ h' = h ∧ ∃ k : Nat, v = some (zi k) ∧ 1 ≤ k ∧ k ≤ 12 ∧ m.testBit k = false ∧ ∀ b, 1 ≤ b → b ≤ 12 → m.testBit b = false → M 70 k ≤ M 70 b) := by
    intro d
    induction d with
    | zero =>
      intro b hb _ k hk
      refine Wp.g1 rfl ?_
      refine Wp.brt rfl (by omega) ?_
      refine Wp.g1 rfl ?_
      rcases hk with ⟨-, hk⟩ | ⟨k1, k2, k3, k4⟩
      · obtain ⟨i, i1, i2, i3⟩ := he
        rw [hk i i1 (by omega)] at i3
        cases i3
      · exact Wp.re rfl ⟨rfl, rfl, k, rfl, k1, k2, k3, fun i i1 i2 i3 => k4 i i1 (by omega) i3⟩
    | succ d ih =>
      intro b hb hb1 k hk
      refine Wp.g1 rfl ?_
      refine Wp.brf rfl (by omega) ?_
      refine Wp.g1 rfl ?_
      refine Wp.calli rfl (m_isReached m b M h hm hl (by omega)) ?_
      cases hr : m.testBit b
      · refine Wp.brf rfl (by decide) ?_
        refine Wp.g1 rfl ?_
        have take : (∀ i, 1 ≤ i → i < b → m.testBit i = false → M 70 b ≤ M 70 i) → Wp zS0 tX0_nearest none 37 [zr 65, zi k, zi b] [] M h (fun v M' h' => M' = M ∧ h' = h ∧ ∃ k : Nat, v = some (zi k) ∧ 1 ≤ k ∧ k ≤ 12 ∧ m.testBit k = false ∧ ∀ b, 1 ≤ b → b ≤ 12 → m.testBit b = false → M 70 k ≤ M 70 b) := by
          intro hle
          refine Wp.gt 4 rfl ?_
          rw [w32_s (n := b) (by omega)]
          refine ih (b + 1) (by omega) (by omega) b (Or.inr ⟨hb1, by omega, hr, fun i i1 i2 i3 => ?_⟩)
          by_cases e : i = b
          · subst e; exact Int.le_refl _
          · exact hle i i1 (by omega) i3
        rcases hk with ⟨k0, hk⟩ | ⟨k1, k2, k3, k4⟩
        · subst k0
          refine Wp.brt rfl (by decide) ?_
          exact take (fun i i1 i2 i3 => by rw [hk i i1 i2] at i3; cases i3)
        · refine Wp.brf rfl (by omega) ?_
          refine Wp.g1 rfl ?_
          refine Wp.ld rfl rfl b rfl (by omega) ?_
          refine Wp.g1 rfl ?_
          refine Wp.ld rfl rfl k rfl (by omega) ?_
          refine Wp.br rfl (fun c0 => ?_) (fun c0 => ?_)
          · refine Wp.gt 4 rfl ?_
            rw [w32_s (n := b) (by omega)]
            refine ih (b + 1) (by omega) (by omega) k (Or.inr ⟨k1, k2, k3, fun i i1 i2 i3 => ?_⟩)
            by_cases e : i = b
            · subst e; exact c0
            · exact k4 i i1 (by omega) i3
          · exact take (fun i i1 i2 i3 => by have := k4 i i1 i2 i3; omega)
      · refine Wp.brt rfl (by decide) ?_
        refine Wp.gt 4 rfl ?_
        rw [w32_s (n := b) (by omega)]
        refine ih (b + 1) (by omega) (by omega) k ?_
        rcases hk with ⟨k0, hk⟩ | ⟨k1, k2, k3, k4⟩
        · refine Or.inl ⟨k0, fun i i1 i2 => ?_⟩
          by_cases e : i = b
          · subst e; exact hr
          · exact hk i i1 (by omega)
        · refine Or.inr ⟨k1, k2, k3, fun i i1 i2 i3 => ?_⟩
          by_cases e : i = b
          · subst e; rw [hr] at i3; cases i3
          · exact k4 i i1 (by omega) i3
  refine Wp.gt 4 rfl ?_
  exact loop 12 1 (by omega) (by omega) 0 (Or.inl ⟨rfl, fun i h1 h2 => by omega⟩)
theorem m_shift (m : Nat) (ch : Int) (w : Nat → Nat) (M : Me) (h : Ml) (hm : M 65 5 = (m : Int)) (hl : m < 2 ^ 13) (hw : ∀ j, j ≤ 12 → M 68 j = (w j : Int) ∧ w j ≤ 10) (hj : ∀ i j, i ≤ 12 → j ≤ 12 → m.testBit i = true → m.testBit j = true → w i = w j → i = j) (hc : -200000 ≤ ch ∧ ch ≤ 200000) (hs : ∀ b, 1 ≤ b → b ≤ 12 → m.testBit b = false → -1000000 ≤ M 70 b ∧ M 70 b ≤ 1100000000) (hp : ∀ c, c ≤ 10 → -1000000 ≤ M 66 c ∧ M 66 c ≤ 1000000) (hq : ∀ b, 1 ≤ b → b ≤ 12 → -1000000 ≤ M 67 b ∧ M 67 b ≤ 1000000) (h0 : m.testBit 0 = true) :
    Wp zS0 tX0_shiftPrices none 0 [zr 65, zi ch, zn, zn] [] M h (fun v M' h' => v = none ∧ h' = h ∧ (∀ k, k ≠ 66 → k ≠ 67 → k ≠ 70 → M' k = M k) ∧ (∀ b, 1 ≤ b → b ≤ 12 → M' 70 b = if m.testBit b then M 70 b else M 70 b - ch) ∧ (∀ b, 1 ≤ b → b ≤ 12 → M' 67 b = if m.testBit b then M 67 b - ch else M 67 b) ∧ (∀ j, j ≤ 12 → m.testBit j = true → M' 66 (w j) = M 66 (w j) + ch) ∧ ∀ c, c ≤ 10 → (∀ j, j ≤ 12 → m.testBit j = true → w j ≠ c) → M' 66 c = M 66 c) := by
  have loop : ∀ d b : Nat, b + d = 13 → ∀ (M' : Me) (x : ZV), (∀ k, k ≠ 66 → k ≠ 67 → k ≠ 70 → M' k = M k) → (∀ i, 1 ≤ i → i ≤ 12 → M' 70 i = if i < b ∧ m.testBit i = false then M 70 i - ch else M 70 i) → (∀ i, 1 ≤ i → i ≤ 12 → M' 67 i = if i < b ∧ m.testBit i = true then M 67 i - ch else M 67 i) → (∀ j, j < b → m.testBit j = true → M' 66 (w j) = M 66 (w j) + ch) → (∀ c, c ≤ 10 → (∀ j, j < b → m.testBit j = true → w j ≠ c) → M' 66 c = M 66 c) →
      Wp zS0 tX0_shiftPrices none 2 [zr 65, zi ch, zi b, x] [] M' h (fun v M' h' => v = none ∧ h' = h ∧ (∀ k, k ≠ 66 → k ≠ 67 → k ≠ 70 → M' k = M k) ∧ (∀ b, 1 ≤ b → b ≤ 12 → M' 70 b = if m.testBit b then M 70 b else M 70 b - ch) ∧ (∀ b, 1 ≤ b → b ≤ 12 → M' 67 b = if m.testBit b then M 67 b - ch else M 67 b) ∧ (∀ j, j ≤ 12 → m.testBit j = true → M' 66 (w j) = M 66 (w j) + ch) ∧ ∀ c, c ≤ 10 → (∀ j, j ≤ 12 → m.testBit j = true → w j ≠ c) → M' 66 c = M 66 c) := by
    intro d
    induction d with
    | zero =>
      intro b hb M' x hk h70 h67 h66 h66'
      refine Wp.g1 rfl ?_
      refine Wp.brt rfl (by omega) ?_
      refine Wp.re rfl ⟨rfl, rfl, hk, fun i i1 i2 => ?_, fun i i1 i2 => ?_, fun j j1 j2 => h66 j (by omega) j2, fun c c1 c2 => h66' c c1 (fun j j1 j2 => c2 j (by omega) j2)⟩
      · rw [h70 i i1 i2]
        cases m.testBit i
        · rw [if_pos ⟨by omega, rfl⟩]; rfl
        · rw [if_neg (fun q => Bool.false_ne_true q.2.symm)]; rfl
      · rw [h67 i i1 i2]
        cases m.testBit i
        · rw [if_neg (fun q => Bool.false_ne_true q.2)]; rfl
        · rw [if_pos ⟨by omega, rfl⟩]; rfl
    | succ d ih =>
      intro b hb M' x hk h70 h67 h66 h66'
      have hwb := hw b (by omega)
      refine Wp.g1 rfl ?_
      refine Wp.brf rfl (by omega) ?_
      refine Wp.g1 rfl ?_
      refine Wp.ld rfl rfl b rfl (by omega) ?_
      refine Wp.g1 rfl ?_
      rw [hk 68 (by decide) (by decide) (by decide), hwb.1]
      refine Wp.calli rfl (m_isReached m b M' h (by rw [hk 65 (by decide) (by decide) (by decide)]; exact hm) hl (by omega)) ?_
      cases hr : m.testBit b
      · have hb1 : 1 ≤ b := by
          by_cases e : b = 0
          · subst e; rw [h0] at hr; cases hr
          · omega
        have s1 := hs b hb1 (by omega) hr
        refine Wp.brf rfl (by decide) ?_
        refine Wp.g1 rfl ?_
        refine Wp.ld rfl rfl b rfl (by omega) ?_
        refine Wp.g1 rfl ?_
        rw [h70 b hb1 (by omega), if_neg (fun q => by omega), w32_id (x := M 70 b - ch) ⟨by omega, by omega⟩]
        refine Wp.sto rfl rfl b rfl (by omega) ?_
        refine Wp.gt 2 rfl ?_
        rw [w32_s (n := b) (by omega)]
        refine ih (b + 1) (by omega) _ _ (fun k k1 k2 k3 => by rw [upd2_ne k3]; exact hk k k1 k2 k3) (fun i i1 i2 => ?_) (fun i i1 i2 => ?_) (fun j j1 j2 => ?_) (fun c c1 c2 => ?_)
        · by_cases e : i = b
          · subst e; rw [upd2_at, if_pos ⟨by omega, hr⟩]
          · rw [upd2_off e, h70 i i1 i2]
            by_cases g : i < b ∧ m.testBit i = false
            · rw [if_pos g, if_pos ⟨by omega, g.2⟩]
            · rw [if_neg g, if_neg (fun q => g ⟨by omega, q.2⟩)]
        · rw [upd2_ne (by decide), h67 i i1 i2]
          by_cases g : i < b ∧ m.testBit i = true
          · rw [if_pos g, if_pos ⟨by omega, g.2⟩]
          · rw [if_neg g, if_neg (fun q => g ⟨by
              by_cases e : i = b
              · subst e; exact absurd (hr.symm.trans q.2) Bool.false_ne_true
              · omega, q.2⟩)]
        · rw [upd2_ne (by decide)]
          by_cases e : j = b
          · subst e; exact absurd (hr.symm.trans j2) Bool.false_ne_true
          · exact h66 j (by omega) j2
        · rw [upd2_ne (by decide)]
          exact h66' c c1 (fun j j1 j2 => c2 j (by omega) j2)
      · refine Wp.brt rfl (by decide) ?_
        refine Wp.g1 rfl ?_
        refine Wp.calli rfl (m_outside _ _ _ M' h) ?_
        rw [if_neg (by omega)]
        refine Wp.brf rfl (by decide) ?_
        refine Wp.g1 rfl ?_
        refine Wp.ld rfl rfl (w b) rfl (by omega) ?_
        have fresh : ∀ j, j < b → m.testBit j = true → w j ≠ w b := fun j j1 j2 e => by
          have := hj j b (by omega) (by omega) j2 hr e
          omega
        have p1 := hp (w b) hwb.2
        refine Wp.g1 rfl ?_
        rw [h66' (w b) hwb.2 fresh, w32_id (x := M 66 (w b) + ch) ⟨by omega, by omega⟩]
        refine Wp.sto rfl rfl (w b) rfl (by omega) ?_
        refine Wp.g1 rfl ?_
        refine Wp.ld rfl rfl b rfl (by omega) ?_
        refine Wp.g1 rfl ?_
        refine Wp.sto rfl rfl b rfl (by omega) ?_
        refine Wp.gt 2 rfl ?_
        rw [w32_s (n := b) (by omega), upd2_ne (by decide : (67 : Nat) ≠ 66)]
        refine ih (b + 1) (by omega) _ _ (fun k k1 k2 k3 => by rw [upd2_ne k2, upd2_ne k1]; exact hk k k1 k2 k3) (fun i i1 i2 => ?_) (fun i i1 i2 => ?_) (fun j j1 j2 => ?_) (fun c c1 c2 => ?_)
        · rw [upd2_ne (by decide), upd2_ne (by decide), h70 i i1 i2]
          by_cases g : i < b ∧ m.testBit i = false
          · rw [if_pos g, if_pos ⟨by omega, g.2⟩]
          · rw [if_neg g, if_neg (fun q => g ⟨by
              by_cases e : i = b
              · subst e; exact absurd (q.2.symm.trans hr) Bool.false_ne_true
              · omega, q.2⟩)]
        · by_cases e : i = b
          · subst e
            have q1 := hq i i1 i2
            rw [upd2_at, h67 i i1 i2, if_neg (fun q => by omega), if_pos ⟨by omega, hr⟩, w32_id ⟨by omega, by omega⟩]
          · rw [upd2_off e, upd2_ne (by decide), h67 i i1 i2]
            by_cases g : i < b ∧ m.testBit i = true
            · rw [if_pos g, if_pos ⟨by omega, g.2⟩]
            · rw [if_neg g, if_neg (fun q => g ⟨by omega, q.2⟩)]
        · rw [upd2_ne (by decide)]
          by_cases e : j = b
          · subst e; rw [upd2_at]
          · rw [upd2_off (fresh j (by omega) j2)]
            exact h66 j (by omega) j2
        · rw [upd2_ne (by decide), upd2_off (fun q => c2 b (by omega) hr q.symm)]
          exact h66' c c1 (fun j j1 j2 => c2 j (by omega) j2)
  refine Wp.gt 2 rfl ?_
  exact loop 13 0 (by omega) M _ (fun _ _ _ _ => rfl) (fun i _ _ => by rw [if_neg (by omega)]) (fun i _ _ => by rw [if_neg (by omega)]) (fun j hj' => by omega) (fun c _ _ => rfl)
end
section
/-! the class's best sum: filling, handing on, the state between placements -/
theorem m_fillA_66 (x : Int) (M : Me) (h : Ml) : Wp zS0 tJ7_fill_53178 none 0 [zr 66, zi x, zn, zn] [] M h (fun v M' h' => v = none ∧ h' = h ∧ (∀ k, k ≠ 66 → M' k = M k) ∧ ∀ i, i < 11 → M' 66 i = x) := by
  have loop : ∀ d i : Nat, i + d = 11 → ∀ (M' : Me), (∀ k, k ≠ 66 → M' k = M k) → (∀ j, j < i → M' 66 j = x) → Wp zS0 tJ7_fill_53178 none 5 [zr 66, zi x, zi i, zi 11] [] M' h (fun v M' h' => v = none ∧ h' = h ∧ (∀ k, k ≠ 66 → M' k = M k) ∧ ∀ i, i < 11 → M' 66 i = x) := by
    intro d
    induction d with
    | zero =>
      intro i hi M' hk hv
      refine Wp.g1 rfl ?_
      refine Wp.brt rfl (by omega) ?_
      exact Wp.re rfl ⟨rfl, rfl, hk, fun j hj => hv j (by omega)⟩
    | succ d ih =>
      intro i hi M' hk hv
      refine Wp.g1 rfl ?_
      refine Wp.brf rfl (by omega) ?_
      refine Wp.g1 rfl ?_
      refine Wp.sto rfl rfl i rfl (by omega) ?_
      refine Wp.gt 5 rfl ?_
      rw [w32_s (n := i) (by omega)]
      refine ih (i + 1) (by omega) _ (fun k g => by rw [upd2_ne g]; exact hk k g) (fun j hj => ?_)
      by_cases e : j = i
      · subst e; rw [upd2_at]
      · rw [upd2_off e]; exact hv j (by omega)
  refine Wp.gt 5 rfl ?_
  exact loop 11 0 (by omega) M (fun _ _ => rfl) (fun j hj => by omega)
theorem m_fillA_67 (x : Int) (M : Me) (h : Ml) : Wp zS0 tJ7_fill_53178 none 0 [zr 67, zi x, zn, zn] [] M h (fun v M' h' => v = none ∧ h' = h ∧ (∀ k, k ≠ 67 → M' k = M k) ∧ ∀ i, i < 13 → M' 67 i = x) := by
  have loop : ∀ d i : Nat, i + d = 13 → ∀ (M' : Me), (∀ k, k ≠ 67 → M' k = M k) → (∀ j, j < i → M' 67 j = x) → Wp zS0 tJ7_fill_53178 none 5 [zr 67, zi x, zi i, zi 13] [] M' h (fun v M' h' => v = none ∧ h' = h ∧ (∀ k, k ≠ 67 → M' k = M k) ∧ ∀ i, i < 13 → M' 67 i = x) := by
    intro d
    induction d with
    | zero =>
      intro i hi M' hk hv
      refine Wp.g1 rfl ?_
      refine Wp.brt rfl (by omega) ?_
      exact Wp.re rfl ⟨rfl, rfl, hk, fun j hj => hv j (by omega)⟩
    | succ d ih =>
      intro i hi M' hk hv
      refine Wp.g1 rfl ?_
      refine Wp.brf rfl (by omega) ?_
      refine Wp.g1 rfl ?_
      refine Wp.sto rfl rfl i rfl (by omega) ?_
      refine Wp.gt 5 rfl ?_
      rw [w32_s (n := i) (by omega)]
      refine ih (i + 1) (by omega) _ (fun k g => by rw [upd2_ne g]; exact hk k g) (fun j hj => ?_)
      by_cases e : j = i
      · subst e; rw [upd2_at]
      · rw [upd2_off e]; exact hv j (by omega)
  refine Wp.gt 5 rfl ?_
  exact loop 13 0 (by omega) M (fun _ _ => rfl) (fun j hj => by omega)
theorem m_fillA_68 (x : Int) (M : Me) (h : Ml) : Wp zS0 tJ7_fill_53178 none 0 [zr 68, zi x, zn, zn] [] M h (fun v M' h' => v = none ∧ h' = h ∧ (∀ k, k ≠ 68 → M' k = M k) ∧ ∀ i, i < 13 → M' 68 i = x) := by
  have loop : ∀ d i : Nat, i + d = 13 → ∀ (M' : Me), (∀ k, k ≠ 68 → M' k = M k) → (∀ j, j < i → M' 68 j = x) → Wp zS0 tJ7_fill_53178 none 5 [zr 68, zi x, zi i, zi 13] [] M' h (fun v M' h' => v = none ∧ h' = h ∧ (∀ k, k ≠ 68 → M' k = M k) ∧ ∀ i, i < 13 → M' 68 i = x) := by
    intro d
    induction d with
    | zero =>
      intro i hi M' hk hv
      refine Wp.g1 rfl ?_
      refine Wp.brt rfl (by omega) ?_
      exact Wp.re rfl ⟨rfl, rfl, hk, fun j hj => hv j (by omega)⟩
    | succ d ih =>
      intro i hi M' hk hv
      refine Wp.g1 rfl ?_
      refine Wp.brf rfl (by omega) ?_
      refine Wp.g1 rfl ?_
      refine Wp.sto rfl rfl i rfl (by omega) ?_
      refine Wp.gt 5 rfl ?_
      rw [w32_s (n := i) (by omega)]
      refine ih (i + 1) (by omega) _ (fun k g => by rw [upd2_ne g]; exact hk k g) (fun j hj => ?_)
      by_cases e : j = i
      · subst e; rw [upd2_at]
      · rw [upd2_off e]; exact hv j (by omega)
  refine Wp.gt 5 rfl ?_
  exact loop 13 0 (by omega) M (fun _ _ => rfl) (fun j hj => by omega)
theorem m_fillA_70 (x : Int) (M : Me) (h : Ml) : Wp zS0 tJ7_fill_53178 none 0 [zr 70, zi x, zn, zn] [] M h (fun v M' h' => v = none ∧ h' = h ∧ (∀ k, k ≠ 70 → M' k = M k) ∧ ∀ i, i < 13 → M' 70 i = x) := by
  have loop : ∀ d i : Nat, i + d = 13 → ∀ (M' : Me), (∀ k, k ≠ 70 → M' k = M k) → (∀ j, j < i → M' 70 j = x) → Wp zS0 tJ7_fill_53178 none 5 [zr 70, zi x, zi i, zi 13] [] M' h (fun v M' h' => v = none ∧ h' = h ∧ (∀ k, k ≠ 70 → M' k = M k) ∧ ∀ i, i < 13 → M' 70 i = x) := by
    intro d
    induction d with
    | zero =>
      intro i hi M' hk hv
      refine Wp.g1 rfl ?_
      refine Wp.brt rfl (by omega) ?_
      exact Wp.re rfl ⟨rfl, rfl, hk, fun j hj => hv j (by omega)⟩
    | succ d ih =>
      intro i hi M' hk hv
      refine Wp.g1 rfl ?_
      refine Wp.brf rfl (by omega) ?_
      refine Wp.g1 rfl ?_
      refine Wp.sto rfl rfl i rfl (by omega) ?_
      refine Wp.gt 5 rfl ?_
      rw [w32_s (n := i) (by omega)]
      refine ih (i + 1) (by omega) _ (fun k g => by rw [upd2_ne g]; exact hk k g) (fun j hj => ?_)
      by_cases e : j = i
      · subst e; rw [upd2_at]
      · rw [upd2_off e]; exact hv j (by omega)
  refine Wp.gt 5 rfl ?_
  exact loop 13 0 (by omega) M (fun _ _ => rfl) (fun j hj => by omega)
theorem m_handOn (Q : Nat → (Nat → Nat) → Prop) (bf tm w0 : Nat → Nat) (last : Nat) (M : Me) (h : Ml) (hw : ∀ j, j ≤ 12 → M 68 j = (w0 j : Int)) (hQ : Q last w0) (ht : tm last ≤ 12)
    (hstep : ∀ col w, Q col w → 1 ≤ col → col ≤ 12 ∧ bf col ≤ 12 ∧ M 69 col = (bf col : Int) ∧ tm (bf col) < tm col ∧ Q (bf col) (fun j => if j = col then w (bf col) else w j)) :
    Wp zS0 tX0_handOn none 0 [zr 65, zi last, zn, zn, zn] [] M h (fun v M' h' => v = none ∧ h' = h ∧ (∀ k, k ≠ 68 → M' k = M k) ∧ ∃ w : Nat → Nat, (∀ j, j ≤ 12 → M' 68 j = (w j : Int)) ∧ Q 0 w) := by
  have loop : ∀ d s : Nat, s + d = 13 → ∀ (M' : Me) (col : Nat) (w : Nat → Nat) (x : ZV), (∀ k, k ≠ 68 → M' k = M k) → (∀ j, j ≤ 12 → M' 68 j = (w j : Int)) → Q col w → tm col + s ≤ 12 → Wp zS0 tX0_handOn none 4 [zr 65, zi last, zi col, zi s, x] [] M' h (fun v M' h' => v = none ∧ h' = h ∧ (∀ k, k ≠ 68 → M' k = M k) ∧ ∃ w : Nat → Nat, (∀ j, j ≤ 12 → M' 68 j = (w j : Int)) ∧ Q 0 w) := by
    intro d
    induction d with
    | zero => intro s hs M' col w x hk hw' hq htm; omega
    | succ d ih =>
      intro s hs M' col w x hk hw' hq htm
      refine Wp.g1 rfl ?_
      refine Wp.brf rfl (by omega) ?_
      refine Wp.g1 rfl ?_
      by_cases hc : col = 0
      · subst hc
        refine Wp.brt rfl (by decide) ?_
        exact Wp.re rfl ⟨rfl, rfl, hk, w, hw', hq⟩
      · obtain ⟨c1, c2, c3, c4, c5⟩ := hstep col w hq (by omega)
        refine Wp.brf rfl (by omega) ?_
        refine Wp.g1 rfl ?_
        refine Wp.brf rfl (by omega) ?_
        refine Wp.g1 rfl ?_
        refine Wp.ld rfl rfl col rfl (by omega) ?_
        rw [hk 69 (by decide), c3]
        refine Wp.g1 rfl ?_
        refine Wp.calli rfl (m_outside _ _ _ M' h) ?_
        rw [if_neg (by omega)]
        refine Wp.brt rfl (by decide) ?_
        refine Wp.g1 rfl ?_
        refine Wp.ld rfl rfl (bf col) rfl (by omega) ?_
        rw [hw' (bf col) c2]
        refine Wp.sto rfl rfl col rfl (by omega) ?_
        refine Wp.gt 4 rfl ?_
        rw [w32_s (n := s) (by omega)]
        refine ih (s + 1) (by omega) _ (bf col) _ _ (fun k g => by rw [upd2_ne g]; exact hk k g) (fun j hj => ?_) c5 (by omega)
        by_cases e : j = col
        · rw [if_pos e, e, upd2_at]
        · rw [if_neg e, upd2_off e]; exact hw' j hj
  refine Wp.gt 4 rfl ?_
  exact loop 13 0 (by omega) M last w0 _ (fun _ _ => rfl) hw hQ (by omega)
/-- between placements -/
def HI (M : Me) (w : Nat → Nat) : Prop :=
  (∀ b, 1 ≤ b → b ≤ 12 → w b ≤ 10) ∧ (∀ b b', 1 ≤ b → b ≤ 12 → 1 ≤ b' → b' ≤ 12 → w b = w b' → w b ≠ 0 → b = b') ∧
  (∀ b0 b, 1 ≤ b0 → b0 ≤ 12 → 1 ≤ b → b ≤ 12 → w b0 ≠ 0 → 0 ≤ cst M (w b0) b) ∧ (∀ b, 1 ≤ b → b ≤ 12 → w b ≠ 0 → cst M (w b) b = 0) ∧
  (∀ b, 1 ≤ b → b ≤ 12 → M 67 b ≤ 0 ∧ (w b = 0 → M 67 b = 0)) ∧ ∀ c b, 1 ≤ c → c ≤ 10 → 1 ≤ b → b ≤ 12 → 0 ≤ gn M c b ∧ gn M c b ≤ 9600
theorem own_free {w : Nat → Nat} (h1 : ∀ b, 1 ≤ b → b ≤ 12 → w b ≤ 10) (h2 : ∀ b b', 1 ≤ b → b ≤ 12 → 1 ≤ b' → b' ≤ 12 → w b = w b' → w b ≠ 0 → b = b') : ∃ b, 1 ≤ b ∧ b ≤ 12 ∧ w b = 0 := by
  by_cases hno : ∃ b, 1 ≤ b ∧ b ≤ 12 ∧ w b = 0
  · exact hno
  · exfalso
    have hz : ∀ i, i < 12 → w (i + 1) ≠ 0 := fun i hi e => hno ⟨i + 1, by omega, by omega, e⟩
    have k := sumI_own (w := fun i => w (i + 1)) (f := fun c => if c = 0 then 0 else 1) (n := 12) (m := 11) (fun b hb => by have := h1 (b + 1) (by omega) (by omega); show w (b + 1) < 11; omega) rfl
      (fun b b' hb hb' e hne => by have := h2 (b + 1) (b' + 1) (by omega) (by omega) (by omega) (by omega) e hne; omega) (fun c => ∃ b, b < 12 ∧ w (b + 1) = c ∧ c ≠ 0) (fun c => Iff.rfl) (fun c => Classical.propDecidable _)
    have e1 : sumI (fun b => if w (b + 1) = 0 then (0 : Int) else 1) 12 = sumI (fun _ => 1) 12 := sumI_congr 12 (fun i hi => if_neg (hz i hi))
    have e2 : sumI (fun _ => (1 : Int)) 12 = 12 := by decide
    have e3 : sumI (fun c => if c = 0 then (0 : Int) else 1) 11 = 10 := by decide
    have e4 := sumI_le (f := fun c => @ite _ (∃ b, b < 12 ∧ w (b + 1) = c ∧ c ≠ 0) (Classical.propDecidable _) (if c = 0 then (0 : Int) else 1) 0) (g := fun c => if c = 0 then (0 : Int) else 1) 11 (fun j hj => by
      by_cases g : ∃ b, b < 12 ∧ w (b + 1) = j ∧ j ≠ 0
      · rw [if_pos g]; exact Int.le_refl _
      · rw [if_neg g]; split <;> omega)
    rw [e1, e2] at k
    omega
theorem HI.bd {M : Me} {w : Nat → Nat} (hI : HI M w) : (∀ b, 1 ≤ b → b ≤ 12 → -9600 ≤ M 67 b ∧ M 67 b ≤ 0) ∧ ∀ b, 1 ≤ b → b ≤ 12 → w b ≠ 0 → -9600 ≤ M 66 (w b) ∧ M 66 (w b) ≤ 0 := by
  obtain ⟨hW, hJ, hF, hT, hN, hG⟩ := hI
  obtain ⟨f, f1, f2, f3⟩ := own_free hW hJ
  have hf := (hN f f1 f2).2 f3
  have hp : ∀ b, 1 ≤ b → b ≤ 12 → w b ≠ 0 → -9600 ≤ M 66 (w b) ∧ M 66 (w b) ≤ 0 ∧ -9600 ≤ M 67 b := fun b b1 b2 b3 => by
    have g1 := hF b f b1 b2 f1 f2 b3
    have g2 := hT b b1 b2 b3
    have g3 := hG (w b) f (by omega) (hW b b1 b2) f1 f2
    have g4 := hG (w b) b (by omega) (hW b b1 b2) b1 b2
    have g5 := hN b b1 b2
    unfold cst at g1 g2
    omega
  refine ⟨fun b b1 b2 => ?_, fun b b1 b2 b3 => ⟨(hp b b1 b2 b3).1, (hp b b1 b2 b3).2.1⟩⟩
  by_cases e : w b = 0
  · rw [(hN b b1 b2).2 e]; omega
  · exact ⟨(hp b b1 b2 e).2.2, (hN b b1 b2).1⟩
end
section
/-! the class's best sum: a claim is placed -/
def wz (c0 : Nat) (w : Nat → Nat) : Nat → Nat := fun j => if j = 0 then c0 else w j
def cntm (m : Nat) : Int := sumI (fun i => if m.testBit (i + 1) then 1 else 0) 12
theorem cntm_add {m m' k : Nat} (hk : 1 ≤ k ∧ k ≤ 12) (h0 : m.testBit k = false) (hb : ∀ j, m'.testBit j = (m.testBit j || decide (k = j))) : cntm m' = cntm m + 1 := by
  have e : cntm m' = sumI (fun i => (if m.testBit (i + 1) then 1 else 0) + (if i = k - 1 then 1 else 0)) 12 := sumI_congr 12 (fun i hi => by
    rw [hb]
    by_cases g : i = k - 1
    · have : k = i + 1 := by omega
      subst this
      rw [h0, if_pos g]
      simp
    · rw [if_neg g, show decide (k = i + 1) = false from decide_eq_false (by omega)]
      simp)
  rw [e, sumI_add, sumI_one (f := fun i => if i = k - 1 then (1 : Int) else 0) (k := k - 1) 12 (by omega) (fun j _ hne => if_neg hne), if_pos rfl]
  rfl
theorem cntm_le {m f : Nat} (hf : 1 ≤ f ∧ f ≤ 12) (h0 : m.testBit f = false) : cntm m ≤ 11 := by
  have e1 := sumI_le (f := fun i => (if m.testBit (i + 1) then 1 else 0) + (if i = f - 1 then 1 else 0)) (g := fun _ => (1 : Int)) 12 (fun j hj => by
    by_cases g : j = f - 1
    · have : f = j + 1 := by omega
      subst this
      show (if m.testBit (j + 1) then (1 : Int) else 0) + _ ≤ 1
      rw [h0, if_pos g]
      decide
    · rw [if_neg g]
      cases m.testBit (j + 1) <;> decide)
  rw [sumI_add, sumI_one (f := fun i => if i = f - 1 then (1 : Int) else 0) (k := f - 1) 12 (by omega) (fun j _ hne => if_neg hne), if_pos rfl, show sumI (fun _ => (1 : Int)) 12 = 12 by decide] at e1
  unfold cntm
  omega
def HU (M : Me) (w : Nat → Nat) (c0 : Nat) : Prop := M 66 0 = 0 ∧ ∀ c, 1 ≤ c → c ≤ 10 → c ≠ c0 → (∀ b, 1 ≤ b → b ≤ 12 → w b ≠ c) → M 66 c = 0
/-- in a placement, with r + 1 columns reached and the slacks of the others known -/
def HB (M : Me) (w : Nat → Nat) (c0 r m : Nat) (bf tm : Nat → Nat) : Prop :=
  HI M w ∧ HU M w c0 ∧ (-9600 ≤ M 66 c0 ∧ M 66 c0 ≤ 0) ∧ (m < 2 ^ 13 ∧ m.testBit 0 = true ∧ M 65 5 = (m : Int) ∧ cntm m = r) ∧
  ((r = 0 → ∀ j, 1 ≤ j → j ≤ 12 → m.testBit j = false) ∧ (1 ≤ r → ∀ b, 1 ≤ b → b ≤ 12 → 0 ≤ cst M c0 b)) ∧ (∀ j, j ≤ 12 → M 68 j = (wz c0 w j : Int)) ∧
  (∀ j, 1 ≤ j → j ≤ 12 → m.testBit j = true → w j ≠ 0 ∧ bf j ≤ 12 ∧ m.testBit (bf j) = true ∧ M 69 j = (bf j : Int) ∧ cst M (wz c0 w (bf j)) j = 0 ∧ tm (bf j) < tm j) ∧
  (∀ j, j ≤ 12 → m.testBit j = true → tm j ≤ r) ∧
  ∀ b, 1 ≤ b → b ≤ 12 → m.testBit b = false → bf b ≤ 12 ∧ m.testBit (bf b) = true ∧ M 69 b = (bf b : Int) ∧ M 70 b = cst M (wz c0 w (bf b)) b ∧ ∀ j, j ≤ 12 → m.testBit j = true → M 70 b ≤ cst M (wz c0 w j) b
theorem HB.facts {M : Me} {w : Nat → Nat} {c0 r m : Nat} {bf tm : Nat → Nat} (hB : HB M w c0 r m bf tm) (h0 : 1 ≤ c0 ∧ c0 ≤ 10) (hu : ∀ b, 1 ≤ b → b ≤ 12 → w b ≠ c0) :
    (∀ j, j ≤ 12 → m.testBit j = true → 1 ≤ wz c0 w j ∧ wz c0 w j ≤ 10 ∧ -9600 ≤ M 66 (wz c0 w j) ∧ M 66 (wz c0 w j) ≤ 0) ∧ (∀ i j, i ≤ 12 → j ≤ 12 → m.testBit i = true → m.testBit j = true → wz c0 w i = wz c0 w j → i = j) ∧ (∀ c, c ≤ 10 → -9600 ≤ M 66 c ∧ M 66 c ≤ 0) ∧ ∀ j b, j ≤ 12 → m.testBit j = true → 1 ≤ b → b ≤ 12 → -9600 ≤ cst M (wz c0 w j) b ∧ cst M (wz c0 w j) b ≤ 19200 := by
  obtain ⟨hI, hU, hP, hM, hR, hO, hX, hT, hS⟩ := hB
  obtain ⟨b1, b2⟩ := hI.bd
  obtain ⟨hW, hJ, hF, hTt, hN, hG⟩ := hI
  have a1 : ∀ j, j ≤ 12 → m.testBit j = true → 1 ≤ wz c0 w j ∧ wz c0 w j ≤ 10 ∧ -9600 ≤ M 66 (wz c0 w j) ∧ M 66 (wz c0 w j) ≤ 0 := fun j j1 j2 => by
    unfold wz
    by_cases e : j = 0
    · rw [if_pos e]; exact ⟨h0.1, h0.2, hP⟩
    · rw [if_neg e]
      have g := (hX j (by omega) j1 j2).1
      have g2 := b2 j (by omega) j1 g
      have g3 := hW j (by omega) j1
      exact ⟨by omega, g3, g2⟩
  refine ⟨a1, fun i j i1 j1 i2 j2 e => ?_, fun c hc => ?_, fun j b j1 j2 c1 c2 => ?_⟩
  · unfold wz at e
    by_cases e1 : i = 0
    · by_cases e2 : j = 0
      · omega
      · rw [if_pos e1, if_neg e2] at e
        exact absurd e.symm (hu j (by omega) j1)
    · by_cases e2 : j = 0
      · rw [if_neg e1, if_pos e2] at e
        exact absurd e (hu i (by omega) i1)
      · rw [if_neg e1, if_neg e2] at e
        exact hJ i j (by omega) i1 (by omega) j1 e (hX i (by omega) i1 i2).1
  · by_cases e0 : c = 0
    · rw [e0, hU.1]; omega
    · by_cases e1 : c = c0
      · rw [e1]; exact hP
      · by_cases e2 : ∀ b, 1 ≤ b → b ≤ 12 → w b ≠ c
        · rw [hU.2 c (by omega) hc e1 e2]; omega
        · have : ∃ b, 1 ≤ b ∧ b ≤ 12 ∧ w b = c := by
            apply Classical.byContradiction
            intro hn
            exact e2 (fun b g1 g2 g3 => hn ⟨b, g1, g2, g3⟩)
          obtain ⟨b, g1, g2, g3⟩ := this
          have := b2 b g1 g2 (by omega)
          rw [g3] at this
          exact this
  · have g1 := a1 j j1 j2
    have g2 := b1 b c1 c2
    have g3 := hG (wz c0 w j) b g1.1 g1.2.1 c1 c2
    unfold cst
    omega
/-- after the prices have moved by the least slack -/
theorem HB.shift {M M' : Me} {w : Nat → Nat} {c0 r m k : Nat} {bf tm : Nat → Nat} (hB : HB M w c0 r m bf tm) (h0 : 1 ≤ c0 ∧ c0 ≤ 10) (hu : ∀ b, 1 ≤ b → b ≤ 12 → w b ≠ c0) (hk : 1 ≤ k ∧ k ≤ 12 ∧ m.testBit k = false) (hmin : ∀ b, 1 ≤ b → b ≤ 12 → m.testBit b = false → M 70 k ≤ M 70 b)
    (e1 : ∀ i, i ≠ 66 → i ≠ 67 → i ≠ 70 → M' i = M i) (e70 : ∀ b, 1 ≤ b → b ≤ 12 → M' 70 b = if m.testBit b then M 70 b else M 70 b - M 70 k) (e67 : ∀ b, 1 ≤ b → b ≤ 12 → M' 67 b = if m.testBit b then M 67 b - M 70 k else M 67 b)
    (e66 : ∀ j, j ≤ 12 → m.testBit j = true → M' 66 (wz c0 w j) = M 66 (wz c0 w j) + M 70 k) (e66' : ∀ c, c ≤ 10 → (∀ j, j ≤ 12 → m.testBit j = true → wz c0 w j ≠ c) → M' 66 c = M 66 c) :
    HB M' w c0 r m bf tm ∧ (∀ b, 1 ≤ b → b ≤ 12 → 0 ≤ cst M' c0 b) ∧ cst M' (wz c0 w (bf k)) k = 0 := by
  obtain ⟨f1, f2, f3, f4⟩ := hB.facts h0 hu
  obtain ⟨hI, hU, hP, hM, hR, hO, hX, hT, hS⟩ := hB
  obtain ⟨bd1, bd2⟩ := hI.bd
  obtain ⟨hW, hJ, hF, hTt, hN, hG⟩ := hI
  obtain ⟨f, ff1, ff2, ff3⟩ := own_free hW hJ
  have hff : m.testBit f = false := by
    cases hr : m.testBit f
    · rfl
    · exact absurd ff3 (hX f ff1 ff2 hr).1
  have hkS := hS k hk.1 hk.2.1 hk.2.2
  have gne : ∀ c b, gn M' c b = gn M c b := fun c b => by unfold gn; rw [e1 64 (by decide) (by decide) (by decide)]
  -- the change is not below 0 once a bag is reached
  have hch : 1 ≤ r → 0 ≤ M 70 k := fun hr => by
    rw [hkS.2.2.2.1]
    unfold wz
    by_cases e : bf k = 0
    · rw [if_pos e]; exact hR.2 hr k hk.1 hk.2.1
    · rw [if_neg e]; exact hF (bf k) k (by omega) hkS.1 hk.1 hk.2.1 (hX _ (by omega) hkS.1 hkS.2.1).1
  have hrb : ∀ b, 1 ≤ b → b ≤ 12 → m.testBit b = true → 1 ≤ r := fun b b1 b2 b3 => by
    by_cases e : r = 0
    · rw [hR.1 e b b1 b2] at b3; cases b3
    · omega
  have cRR : ∀ j b, j ≤ 12 → m.testBit j = true → 1 ≤ b → b ≤ 12 → m.testBit b = true → cst M' (wz c0 w j) b = cst M (wz c0 w j) b := fun j b j1 j2 b1 b2 b3 => by
    unfold cst
    rw [gne, e66 j j1 j2, e67 b b1 b2, if_pos b3]; omega
  have cRU : ∀ j b, j ≤ 12 → m.testBit j = true → 1 ≤ b → b ≤ 12 → m.testBit b = false → cst M' (wz c0 w j) b = cst M (wz c0 w j) b - M 70 k := fun j b j1 j2 b1 b2 b3 => by
    unfold cst
    rw [gne, e66 j j1 j2, e67 b b1 b2, if_neg (by rw [b3]; decide)]; omega
  have cU : ∀ c b, c ≤ 10 → (∀ j, j ≤ 12 → m.testBit j = true → wz c0 w j ≠ c) → 1 ≤ b → b ≤ 12 → cst M' c b = cst M c b + (if m.testBit b then M 70 k else 0) := fun c b c1 c2 b1 b2 => by
    unfold cst
    rw [gne, e66' c c1 c2, e67 b b1 b2]
    cases m.testBit b
    · rw [if_neg (by decide), if_neg (by decide)]; omega
    · rw [if_pos rfl, if_pos rfl]; omega
  have ureach : ∀ b0, 1 ≤ b0 → b0 ≤ 12 → w b0 ≠ 0 → m.testBit b0 = false → ∀ j, j ≤ 12 → m.testBit j = true → wz c0 w j ≠ w b0 := fun b0 g1 g2 g3 g4 j j1 j2 e => by
    unfold wz at e
    by_cases ej : j = 0
    · rw [if_pos ej] at e; exact hu b0 g1 g2 e.symm
    · rw [if_neg ej] at e
      have := hJ b0 j g1 g2 (by omega) j1 e.symm g3
      rw [this, j2] at g4; cases g4
  have wzb : ∀ b, 1 ≤ b → wz c0 w b = w b := fun b b1 => by unfold wz; rw [if_neg (by omega)]
  have wz0 : wz c0 w 0 = c0 := rfl
  have c0pos : ∀ b, 1 ≤ b → b ≤ 12 → 0 ≤ cst M' c0 b := fun b b1 b2 => by
    cases hr : m.testBit b
    · have g1 := cRU 0 b (by omega) hM.2.1 b1 b2 hr
      rw [wz0] at g1
      have g2 := (hS b b1 b2 hr).2.2.2.2 0 (by omega) hM.2.1
      rw [wz0] at g2
      have g3 := hmin b b1 b2 hr
      omega
    · have g1 := cRR 0 b (by omega) hM.2.1 b1 b2 hr
      rw [wz0] at g1
      rw [g1]
      exact hR.2 (hrb b b1 b2 hr) b b1 b2
  refine ⟨⟨⟨hW, hJ, fun b0 b g1 g2 b1 b2 g3 => ?_, fun b b1 b2 g3 => ?_, fun b b1 b2 => ?_, fun c b c1 c2 b1 b2 => by rw [gne]; exact hG c b c1 c2 b1 b2⟩, ⟨?_, fun c c1 c2 c3 c4 => ?_⟩, ?_, ⟨hM.1, hM.2.1, by rw [e1 65 (by decide) (by decide) (by decide)]; exact hM.2.2.1, hM.2.2.2⟩, ⟨hR.1, fun _ => c0pos⟩, fun j hj => by rw [e1 68 (by decide) (by decide) (by decide)]; exact hO j hj, fun j j1 j2 j3 => ?_, hT, fun b b1 b2 b3 => ?_⟩, c0pos, ?_⟩
  · cases hr0 : m.testBit b0
    · rw [cU (w b0) b (hW b0 g1 g2) (ureach b0 g1 g2 g3 hr0) b1 b2]
      have := hF b0 b g1 g2 b1 b2 g3
      cases hr : m.testBit b
      · rw [if_neg (by decide)]; omega
      · rw [if_pos rfl]
        have := hch (hrb b b1 b2 hr)
        omega
    · rw [← wzb b0 g1]
      cases hr : m.testBit b
      · rw [cRU b0 b g2 hr0 b1 b2 hr]
        have g4 := (hS b b1 b2 hr).2.2.2.2 b0 g2 hr0
        have g5 := hmin b b1 b2 hr
        omega
      · rw [cRR b0 b g2 hr0 b1 b2 hr, wzb b0 g1]
        exact hF b0 b g1 g2 b1 b2 g3
  · cases hr : m.testBit b
    · rw [cU (w b) b (hW b b1 b2) (ureach b b1 b2 g3 hr) b1 b2, hr, if_neg (by decide), hTt b b1 b2 g3]; rfl
    · rw [← wzb b b1, cRR b b b2 hr b1 b2 hr, wzb b b1]
      exact hTt b b1 b2 g3
  · have g := hN b b1 b2
    rw [e67 b b1 b2]
    cases hr : m.testBit b
    · rw [if_neg (by decide)]; exact g
    · rw [if_pos rfl]
      have := hch (hrb b b1 b2 hr)
      exact ⟨by omega, fun e => absurd e (hX b b1 b2 hr).1⟩
  · rw [e66' 0 (by omega) (fun j j1 j2 => by have := (f1 j j1 j2).1; omega)]
    exact hU.1
  · rw [e66' c c2 (fun j j1 j2 => ?_)]
    · exact hU.2 c c1 c2 c3 c4
    · by_cases e : j = 0
      · rw [e, wz0]; exact fun q => c3 q.symm
      · rw [wzb j (by omega)]; exact c4 j (by omega) j1
  · have g1 := e66 0 (by omega) hM.2.1
    rw [wz0] at g1
    have g2 := (hS f ff1 ff2 hff).2.2.2.2 0 (by omega) hM.2.1
    rw [wz0] at g2
    have g3 := hmin f ff1 ff2 hff
    have g4 := (hN f ff1 ff2).2 ff3
    have g5 := hG c0 f h0.1 h0.2 ff1 ff2
    rw [g1]
    refine ⟨?_, by unfold cst at g2; omega⟩
    by_cases er : r = 0
    · have g6 : bf k = 0 := by
        by_cases e : bf k = 0
        · exact e
        · exfalso
          have := hR.1 er (bf k) (by omega) hkS.1
          rw [this] at hkS
          exact Bool.false_ne_true hkS.2.1
      have g7 := hkS.2.2.2.1
      rw [g6, wz0] at g7
      have g8 := hG c0 k h0.1 h0.2 hk.1 hk.2.1
      have g9 := bd1 k hk.1 hk.2.1
      unfold cst at g7
      omega
    · have := hch (by omega)
      omega
  · obtain ⟨x1, x2, x3, x4, x5, x6⟩ := hX j j1 j2 j3
    exact ⟨x1, x2, x3, by rw [e1 69 (by decide) (by decide) (by decide)]; exact x4, by rw [cRR _ _ x2 x3 j1 j2 j3]; exact x5, x6⟩
  · obtain ⟨x1, x2, x3, x4, x5⟩ := hS b b1 b2 b3
    refine ⟨x1, x2, by rw [e1 69 (by decide) (by decide) (by decide)]; exact x3, ?_, fun j j1 j2 => ?_⟩
    · rw [e70 b b1 b2, if_neg (by rw [b3]; decide), cRU _ _ x1 x2 b1 b2 b3, x4]
    · rw [e70 b b1 b2, if_neg (by rw [b3]; decide), cRU j b j1 j2 b1 b2 b3]
      have := x5 j j1 j2
      omega
  · rw [cRU _ _ hkS.1 hkS.2.1 hk.1 hk.2.1 hk.2.2, ← hkS.2.2.2.1]
    omega
end
section
/-! the class's best sum: placing -/
theorem HI.kept {M M' : Me} {w : Nat → Nat} (h : HI M w) (hk : ∀ k, k = 64 ∨ k = 66 ∨ k = 67 → M' k = M k) : HI M' w := by
  unfold HI cst gn at h ⊢
  rw [hk 64 (by omega), hk 66 (by omega), hk 67 (by omega)]
  exact h
theorem cst_kept {M M' : Me} (hk : ∀ k, k = 64 ∨ k = 66 ∨ k = 67 → M' k = M k) (c b : Nat) : cst M' c b = cst M c b := by
  unfold cst gn
  rw [hk 64 (by omega), hk 66 (by omega), hk 67 (by omega)]
/-- the columns of a placement handed on: the claim stands among the others -/
theorem HB.hand {M : Me} {h : Ml} {w : Nat → Nat} {c0 r m k : Nat} {bf tm : Nat → Nat} (hB : HB M w c0 r m bf tm) (h0 : 1 ≤ c0 ∧ c0 ≤ 10) (hu : ∀ b, 1 ≤ b → b ≤ 12 → w b ≠ c0) (hk : 1 ≤ k ∧ k ≤ 12 ∧ m.testBit k = false) (hwk : w k = 0) (hr : r ≤ 11) (hF0 : ∀ b, 1 ≤ b → b ≤ 12 → 0 ≤ cst M c0 b) (ht0 : cst M (wz c0 w (bf k)) k = 0) :
    Wp zS0 tX0_handOn none 0 [zr 65, zi k, zn, zn, zn] [] M h (fun v M' h' => v = none ∧ h' = h ∧ (∀ k, k ≠ 68 → M' k = M k) ∧ ∃ w' : Nat → Nat, (∀ j, 1 ≤ j → j ≤ 12 → M' 68 j = (w' j : Int)) ∧ HI M w' ∧ HU M w' 0 ∧ ∀ c, 1 ≤ c → ((∃ b, 1 ≤ b ∧ b ≤ 12 ∧ w' b = c) ↔ ((∃ b, 1 ≤ b ∧ b ≤ 12 ∧ w b = c) ∨ c = c0))) := by
  obtain ⟨f1, f2, f3, f4⟩ := hB.facts h0 hu
  obtain ⟨hI, hU, hP, hM, hR, hO, hX, hT, hS⟩ := hB
  obtain ⟨hW, hJ, hF, hTt, hN, hG⟩ := hI
  have hkS := hS k hk.1 hk.2.1 hk.2.2
  have wz0 : wz c0 w 0 = c0 := rfl
  have wzb : ∀ b, 1 ≤ b → wz c0 w b = w b := fun b b1 => by unfold wz; rw [if_neg (by omega)]
  have main := m_handOn (fun col w' => (col = k ∨ m.testBit col = true) ∧ col ≤ 12 ∧ (∀ j, j ≤ 12 → m.testBit j = true → (if j = k then r + 1 else tm j) ≤ (if col = k then r + 1 else tm col) → w' j = wz c0 w j) ∧
      (∀ b, 1 ≤ b → b ≤ 12 → w' b ≤ 10) ∧ (∀ b b', 1 ≤ b → b ≤ 12 → 1 ≤ b' → b' ≤ 12 → b ≠ col → b' ≠ col → w' b = w' b' → w' b ≠ 0 → b = b') ∧
      (∀ b, 1 ≤ b → b ≤ 12 → b ≠ col → w' b ≠ 0 → cst M (w' b) b = 0) ∧ (∀ b, 1 ≤ b → b ≤ 12 → b ≠ col → w' b = 0 → M 67 b = 0) ∧
      ∀ c, 1 ≤ c → ((∃ b, 1 ≤ b ∧ b ≤ 12 ∧ b ≠ col ∧ w' b = c) ↔ ((∃ b, 1 ≤ b ∧ b ≤ 12 ∧ w b = c) ∨ (col = 0 ∧ c = c0))))
    bf (fun j => if j = k then r + 1 else tm j) (wz c0 w) k M h hO ?_ ?_ ?_
  · refine main.imp (fun v M' h' q => ?_)
    obtain ⟨q1, q2, q3, w', q4, -, -, -, q5, q6, q7, q8, q9⟩ := q
    have q9' : ∀ c, 1 ≤ c → ((∃ b, 1 ≤ b ∧ b ≤ 12 ∧ w' b = c) ↔ ((∃ b, 1 ≤ b ∧ b ≤ 12 ∧ w b = c) ∨ c = c0)) := fun c hc => by
      have := q9 c hc
      constructor
      · rintro ⟨b, b1, b2, b3⟩
        rcases this.mp ⟨b, b1, b2, by omega, b3⟩ with g | g
        · exact Or.inl g
        · exact Or.inr g.2
      · rintro (g | g)
        · obtain ⟨b, b1, b2, -, b3⟩ := this.mpr (Or.inl g)
          exact ⟨b, b1, b2, b3⟩
        · obtain ⟨b, b1, b2, -, b3⟩ := this.mpr (Or.inr ⟨rfl, g⟩)
          exact ⟨b, b1, b2, b3⟩
    refine ⟨q1, q2, q3, w', fun j j1 j2 => q4 j j2, ⟨q5, fun b b' b1 b2 b3 b4 => q6 b b' b1 b2 b3 b4 (by omega) (by omega), fun b0 b g1 g2 b1 b2 g3 => ?_, fun b b1 b2 => q7 b b1 b2 (by omega), fun b b1 b2 => ⟨(hN b b1 b2).1, q8 b b1 b2 (by omega)⟩, hG⟩, ⟨hU.1, fun c c1 c2 c3 c4 => ?_⟩, q9'⟩
    · rcases (q9' (w' b0) (by omega)).mp ⟨b0, g1, g2, rfl⟩ with ⟨x, x1, x2, x3⟩ | g
      · rw [← x3]
        exact hF x b x1 x2 b1 b2 (by omega)
      · rw [g]; exact hF0 b b1 b2
    · refine hU.2 c c1 c2 (fun e => ?_) (fun b b1 b2 e => ?_)
      · obtain ⟨b, b1, b2, b3⟩ := (q9' c c1).mpr (Or.inr e)
        exact c4 b b1 b2 b3
      · obtain ⟨x, x1, x2, x3⟩ := (q9' c c1).mpr (Or.inl ⟨b, b1, b2, e⟩)
        exact c4 x x1 x2 x3
  · refine ⟨Or.inl rfl, hk.2.1, fun j _ _ _ => rfl, fun b b1 b2 => by rw [wzb b b1]; exact hW b b1 b2, fun b b' b1 b2 b3 b4 _ _ => by rw [wzb b b1, wzb b' b3]; exact hJ b b' b1 b2 b3 b4, fun b b1 b2 _ => by rw [wzb b b1]; exact hTt b b1 b2, fun b b1 b2 _ => by rw [wzb b b1]; exact (hN b b1 b2).2, fun c hc => ?_⟩
    constructor
    · rintro ⟨b, b1, b2, -, b3⟩
      rw [wzb b b1] at b3
      exact Or.inl ⟨b, b1, b2, b3⟩
    · rintro (⟨b, b1, b2, b3⟩ | ⟨g, -⟩)
      · exact ⟨b, b1, b2, fun e => by rw [e, hwk] at b3; omega, by rw [wzb b b1]; exact b3⟩
      · omega
  · show (if k = k then r + 1 else tm k) ≤ 12
    rw [if_pos rfl]; omega
  · rintro col w' ⟨p1, p2, p3, p4, p5, p6, p7, p8⟩ hc1
    -- the column ahead
    have ahead : bf col ≤ 12 ∧ M 69 col = (bf col : Int) ∧ m.testBit (bf col) = true ∧ (if bf col = k then r + 1 else tm (bf col)) < (if col = k then r + 1 else tm col) ∧ cst M (wz c0 w (bf col)) col = 0 := by
      have nek : ∀ j, m.testBit j = true → j ≠ k := fun j hj e => by rw [e, hk.2.2] at hj; cases hj
      by_cases ek : col = k
      · subst ek
        rw [if_pos rfl, if_neg (nek _ hkS.2.1)]
        exact ⟨hkS.1, hkS.2.2.1, hkS.2.1, by have := hT _ hkS.1 hkS.2.1; omega, ht0⟩
      · have hb : m.testBit col = true := p1.resolve_left ek
        obtain ⟨x1, x2, x3, x4, x5, x6⟩ := hX col hc1 p2 hb
        rw [if_neg ek, if_neg (nek _ x3)]
        exact ⟨x2, x4, x3, x6, x5⟩
    obtain ⟨y1, y2, y3, y4, y5⟩ := ahead
    have hne : bf col ≠ col := fun e => by rw [e] at y4; omega
    have hval : w' (bf col) = wz c0 w (bf col) := p3 _ y1 y3 (by omega)
    have hpos := f1 _ y1 y3
    refine ⟨p2, y1, y2, y4, Or.inr y3, y1, fun j j1 j2 j3 => ?_, fun b b1 b2 => ?_, fun b b' b1 b2 b3 b4 g1 g2 => ?_, fun b b1 b2 g1 => ?_, fun b b1 b2 g1 => ?_, fun c hc => ?_⟩
    · have : j ≠ col := fun e => by rw [e] at j3; omega
      show (if j = col then w' (bf col) else w' j) = _
      rw [if_neg this]
      exact p3 j j1 j2 (by omega)
    · show (if b = col then w' (bf col) else w' b) ≤ 10
      split
      · rw [hval]; exact hpos.2.1
      · exact p4 b b1 b2
    · -- one owner each
      have other : ∀ x, 1 ≤ x → x ≤ 12 → x ≠ col → x ≠ bf col → w' x ≠ w' (bf col) := fun x x1 x2 x3 x4 e => by
        by_cases ez : bf col = 0
        · rw [hval, ez, wz0] at e
          rcases (p8 c0 h0.1).mp ⟨x, x1, x2, x3, e⟩ with ⟨z, z1, z2, z3⟩ | ⟨z, -⟩
          · exact hu z z1 z2 z3
          · omega
        · have := p5 x (bf col) x1 x2 (by omega) y1 x3 hne e (by rw [e, hval]; omega)
          exact x4 this
      show (if b = col then w' (bf col) else w' b) = (if b' = col then w' (bf col) else w' b') → (if b = col then w' (bf col) else w' b) ≠ 0 → b = b'
      by_cases e1 : b = col
      · by_cases e2 : b' = col
        · intro _ _; omega
        · rw [if_pos e1, if_neg e2]
          intro e _
          exact absurd e.symm (other b' b3 b4 e2 g2)
      · by_cases e2 : b' = col
        · rw [if_neg e1, if_pos e2]
          intro e _
          exact absurd e (other b b1 b2 e1 g1)
        · rw [if_neg e1, if_neg e2]
          exact p5 b b' b1 b2 b3 b4 e1 e2
    · show (if b = col then w' (bf col) else w' b) ≠ 0 → cst M (if b = col then w' (bf col) else w' b) b = 0
      by_cases e1 : b = col
      · rw [if_pos e1, e1, hval]
        intro _; exact y5
      · rw [if_neg e1]
        exact p6 b b1 b2 e1
    · show (if b = col then w' (bf col) else w' b) = 0 → M 67 b = 0
      by_cases e1 : b = col
      · rw [if_pos e1, hval]
        intro e; omega
      · rw [if_neg e1]
        exact p7 b b1 b2 e1
    · show (∃ b, 1 ≤ b ∧ b ≤ 12 ∧ b ≠ bf col ∧ (if b = col then w' (bf col) else w' b) = c) ↔ _
      constructor
      · rintro ⟨b, b1, b2, b3, b4⟩
        by_cases e1 : b = col
        · rw [if_pos e1] at b4
          by_cases ez : bf col = 0
          · rw [hval, ez, wz0] at b4
            exact Or.inr ⟨ez, b4.symm⟩
          · rcases (p8 c hc).mp ⟨bf col, by omega, y1, hne, b4⟩ with g | ⟨g, -⟩
            · exact Or.inl g
            · omega
        · rw [if_neg e1] at b4
          rcases (p8 c hc).mp ⟨b, b1, b2, e1, b4⟩ with g | ⟨g, -⟩
          · exact Or.inl g
          · omega
      · rintro (g | ⟨g1, g2⟩)
        · obtain ⟨b, b1, b2, b3, b4⟩ := (p8 c hc).mpr (Or.inl g)
          by_cases e1 : b = bf col
          · exact ⟨col, hc1, p2, fun e => hne e.symm, by rw [if_pos rfl, ← e1]; exact b4⟩
          · exact ⟨b, b1, b2, e1, by rw [if_neg b3]; exact b4⟩
        · exact ⟨col, hc1, p2, fun e => hne e.symm, by rw [if_pos rfl, hval, g1, wz0]; exact g2.symm⟩
/-- another column is reached -/
theorem HB.next {M M' : Me} {w : Nat → Nat} {c0 r m m' k : Nat} {bf tm : Nat → Nat} (hB : HB M w c0 r m bf tm) (hF0 : ∀ b, 1 ≤ b → b ≤ 12 → 0 ≤ cst M c0 b) (hk : 1 ≤ k ∧ k ≤ 12 ∧ m.testBit k = false) (hwk : w k ≠ 0) (ht0 : cst M (wz c0 w (bf k)) k = 0)
    (hm : m' < 2 ^ 13) (hb : ∀ j, m'.testBit j = (m.testBit j || decide (k = j))) (e65 : M' 65 5 = (m' : Int)) (e1 : ∀ i, i ≠ 65 → i ≠ 69 → i ≠ 70 → M' i = M i)
    (hx : ∀ b, 1 ≤ b → b ≤ 12 → (m'.testBit b = false ∧ cst M (w k) b < M 70 b ∧ M' 70 b = cst M (w k) b ∧ M' 69 b = (k : Int)) ∨ (¬ (m'.testBit b = false ∧ cst M (w k) b < M 70 b) ∧ M' 70 b = M 70 b ∧ M' 69 b = M 69 b)) :
    ∃ bf' tm', HB M' w c0 (r + 1) m' bf' tm' := by
  obtain ⟨hI, hU, hP, hM, hR, hO, hX, hT, hS⟩ := hB
  have hkS := hS k hk.1 hk.2.1 hk.2.2
  have kc : ∀ c b, cst M' c b = cst M c b := cst_kept (fun i hi => e1 i (by omega) (by omega) (by omega))
  have bT : ∀ j, m.testBit j = true → m'.testBit j = true := fun j hj => by rw [hb, hj]; rfl
  have bF : ∀ j, m'.testBit j = true → j ≠ k → m.testBit j = true := fun j hj hne => by
    rw [hb, show decide (k = j) = false from decide_eq_false (fun e => hne e.symm)] at hj
    cases hq : m.testBit j
    · rw [hq] at hj; cases hj
    · rfl
  have bK : m'.testBit k = true := by rw [hb, hk.2.2]; simp
  have bU : ∀ j, m'.testBit j = false → m.testBit j = false ∧ j ≠ k := fun j hj => by
    constructor
    · cases hq : m.testBit j
      · rfl
      · rw [bT j hq] at hj; cases hj
    · intro e; rw [e, bK] at hj; cases hj
  have nek : ∀ j, m.testBit j = true → j ≠ k := fun j hj e => by rw [e, hk.2.2] at hj; cases hj
  have wzk : wz c0 w k = w k := by unfold wz; rw [if_neg (by omega)]
  refine ⟨fun b => if m'.testBit b = false ∧ cst M (w k) b < M 70 b then k else bf b, fun j => if j = k then r + 1 else tm j, hI.kept (fun i hi => e1 i (by omega) (by omega) (by omega)), ?_, ?_, ⟨hm, bT 0 hM.2.1, e65, ?_⟩, ⟨fun e => by omega, fun _ b b1 b2 => by rw [kc]; exact hF0 b b1 b2⟩, fun j hj => by rw [e1 68 (by decide) (by decide) (by decide)]; exact hO j hj, fun j j1 j2 j3 => ?_, fun j j1 j2 => ?_, fun b b1 b2 b3 => ?_⟩
  · unfold HU
    rw [e1 66 (by decide) (by decide) (by decide)]
    exact hU
  · rw [e1 66 (by decide) (by decide) (by decide)]
    exact hP
  · rw [cntm_add ⟨hk.1, hk.2.1⟩ hk.2.2 hb, hM.2.2.2]
    omega
  · have e69 : M' 69 j = M 69 j := by
      rcases hx j j1 j2 with ⟨g, -⟩ | ⟨-, -, g⟩
      · rw [j3] at g; cases g
      · exact g
    have ebf : (if m'.testBit j = false ∧ cst M (w k) j < M 70 j then k else bf j) = bf j := if_neg (fun q => by rw [j3] at q; cases q.1)
    show w j ≠ 0 ∧ (if m'.testBit j = false ∧ cst M (w k) j < M 70 j then k else bf j) ≤ 12 ∧ m'.testBit (if m'.testBit j = false ∧ cst M (w k) j < M 70 j then k else bf j) = true ∧ M' 69 j = ((if m'.testBit j = false ∧ cst M (w k) j < M 70 j then k else bf j : Nat) : Int) ∧ cst M' (wz c0 w (if m'.testBit j = false ∧ cst M (w k) j < M 70 j then k else bf j)) j = 0 ∧ (if (if m'.testBit j = false ∧ cst M (w k) j < M 70 j then k else bf j) = k then r + 1 else tm (if m'.testBit j = false ∧ cst M (w k) j < M 70 j then k else bf j)) < (if j = k then r + 1 else tm j)
    rw [ebf, kc, e69]
    by_cases ek : j = k
    · subst ek
      rw [if_pos rfl, if_neg (nek _ hkS.2.1)]
      exact ⟨hwk, hkS.1, bT _ hkS.2.1, hkS.2.2.1, ht0, by have := hT _ hkS.1 hkS.2.1; omega⟩
    · obtain ⟨x1, x2, x3, x4, x5, x6⟩ := hX j j1 j2 (bF j j3 ek)
      rw [if_neg ek, if_neg (nek _ x3)]
      exact ⟨x1, x2, bT _ x3, x4, x5, x6⟩
  · show (if j = k then r + 1 else tm j) ≤ r + 1
    split
    · exact Nat.le_refl _
    · next ek =>
      have := hT j j1 (bF j j2 ek)
      omega
  · obtain ⟨u1, u2⟩ := bU b b3
    obtain ⟨x1, x2, x3, x4, x5⟩ := hS b b1 b2 u1
    show (if m'.testBit b = false ∧ cst M (w k) b < M 70 b then k else bf b) ≤ 12 ∧ m'.testBit (if m'.testBit b = false ∧ cst M (w k) b < M 70 b then k else bf b) = true ∧ M' 69 b = ((if m'.testBit b = false ∧ cst M (w k) b < M 70 b then k else bf b : Nat) : Int) ∧ M' 70 b = cst M' (wz c0 w (if m'.testBit b = false ∧ cst M (w k) b < M 70 b then k else bf b)) b ∧ ∀ j, j ≤ 12 → m'.testBit j = true → M' 70 b ≤ cst M' (wz c0 w j) b
    rcases hx b b1 b2 with ⟨g1, g2, g3, g4⟩ | ⟨g1, g2, g3⟩
    · rw [if_pos ⟨g1, g2⟩, kc, wzk, g3, g4]
      refine ⟨hk.2.1, bK, rfl, rfl, fun j j1 j2 => ?_⟩
      rw [kc]
      by_cases ek : j = k
      · rw [ek, wzk]; exact Int.le_refl _
      · have := x5 j j1 (bF j j2 ek)
        omega
    · rw [if_neg g1, kc, g2, g3]
      refine ⟨x1, bT _ x2, x3, x4, fun j j1 j2 => ?_⟩
      rw [kc]
      by_cases ek : j = k
      · rw [ek, wzk]
        have : ¬ cst M (w k) b < M 70 b := fun q => g1 ⟨b3, q⟩
        omega
      · exact x5 j j1 (bF j j2 ek)
end
section
/-! the class's best sum -/
theorem bit1 : ∀ j : Nat, j < 13 → 1 ≤ j → (1 : Nat).testBit j = false := by decide
theorem HB.start {M M1 M' : Me} {w : Nat → Nat} {c0 : Nat} (hI : HI M w) (hU : HU M w 0) (h0 : 1 ≤ c0 ∧ c0 ≤ 10) (hu : ∀ b, 1 ≤ b → b ≤ 12 → w b ≠ c0) (e1 : ∀ k, k = 64 ∨ k = 66 ∨ k = 67 → M1 k = M k) (e65 : M1 65 5 = 1) (e68 : ∀ j, j ≤ 12 → M1 68 j = (wz c0 w j : Int)) (e70 : ∀ b, 1 ≤ b → b ≤ 12 → M1 70 b = 1000000000)
    (k1 : ∀ k, k ≠ 69 → k ≠ 70 → M' k = M1 k) (hx : ∀ b, 1 ≤ b → b ≤ 12 → ((1 : Nat).testBit b = false ∧ cst M1 c0 b < M1 70 b ∧ M' 70 b = cst M1 c0 b ∧ M' 69 b = ((0 : Nat) : Int)) ∨ (¬ ((1 : Nat).testBit b = false ∧ cst M1 c0 b < M1 70 b) ∧ M' 70 b = M1 70 b ∧ M' 69 b = M1 69 b)) :
    HB M' w c0 0 1 (fun _ => 0) (fun _ => 0) := by
  have kk : ∀ k, k = 64 ∨ k = 66 ∨ k = 67 → M' k = M k := fun k hk => by rw [k1 k (by omega) (by omega)]; exact e1 k hk
  have k2 : ∀ k, k = 64 ∨ k = 66 ∨ k = 67 → M' k = M1 k := fun k hk => k1 k (by omega) (by omega)
  obtain ⟨bd1, bd2⟩ := hI.bd
  have p0 : M 66 c0 = 0 := hU.2 c0 h0.1 h0.2 (by omega) hu
  refine ⟨hI.kept kk, ⟨?_, fun c c1 c2 _ c4 => ?_⟩, ?_, ⟨by decide, by decide, ?_, by decide⟩, ⟨fun _ j j1 j2 => bit1 j (by omega) j1, fun g => by omega⟩, fun j hj => ?_, fun j j1 j2 j3 => ?_, fun _ _ _ => Nat.le_refl _, fun b b1 b2 b3 => ?_⟩
  · rw [kk 66 (by omega)]; exact hU.1
  · rw [kk 66 (by omega)]; exact hU.2 c c1 c2 (by omega) c4
  · rw [kk 66 (by omega), p0]; omega
  · rw [k1 65 (by decide) (by decide)]; exact e65
  · rw [k1 68 (by decide) (by decide)]; exact e68 j hj
  · rw [bit1 j (by omega) j1] at j3; cases j3
  · have hc : cst M1 c0 b < M1 70 b := by
      rw [e70 b b1 b2]
      have g1 := hI.2.2.2.2.2 c0 b h0.1 h0.2 b1 b2
      have g2 := bd1 b b1 b2
      have g3 : cst M1 c0 b = cst M c0 b := cst_kept e1 c0 b
      rw [g3]
      unfold cst
      omega
    rcases hx b b1 b2 with ⟨g1, g2, g3, g4⟩ | ⟨g1, -, -⟩
    · refine ⟨Nat.zero_le _, (show (1 : Nat).testBit 0 = true by decide), g4, ?_, fun j j1 j2 => ?_⟩
      · rw [cst_kept k2, g3]; rfl
      · have : j = 0 := by
          by_cases e : j = 0
          · exact e
          · rw [bit1 j (by omega) (by omega)] at j2; cases j2
        rw [cst_kept k2, g3, this]
        exact Int.le_refl _
    · exact absurd ⟨bit1 b (by omega) b1, hc⟩ g1
def Plc (M : Me) (h : Ml) (w : Nat → Nat) (c0 : Nat) : Option ZV → Me → Ml → Prop := fun v M' h' => v = none ∧ h' = h ∧ (∀ k, k < 65 ∨ 71 ≤ k → M' k = M k) ∧ ∃ w' : Nat → Nat, (∀ j, 1 ≤ j → j ≤ 12 → M' 68 j = (w' j : Int)) ∧ HI M' w' ∧ HU M' w' 0 ∧ ∀ c, 1 ≤ c → ((∃ b, 1 ≤ b ∧ b ≤ 12 ∧ w' b = c) ↔ ((∃ b, 1 ≤ b ∧ b ≤ 12 ∧ w b = c) ∨ c = c0))
theorem m_place {M : Me} {h : Ml} {w : Nat → Nat} {c0 : Nat} (hI : HI M w) (hU : HU M w 0) (h0 : 1 ≤ c0 ∧ c0 ≤ 10) (hu : ∀ b, 1 ≤ b → b ≤ 12 → w b ≠ c0) (hw : ∀ j, 1 ≤ j → j ≤ 12 → M 68 j = (w j : Int)) :
    Wp zS0 tX0_place none 0 [zr 65, zr 63, zi c0, zn, zn] [] M h (Plc M h w c0) := by
  obtain ⟨f, ff1, ff2, ff3⟩ := own_free hI.1 hI.2.1
  have loop : ∀ d r : Nat, r + d = 12 → ∀ (m : Nat) (bf tm : Nat → Nat) (col : Nat) (M' : Me), HB M' w c0 r m bf tm → (∀ k, k < 65 ∨ 71 ≤ k → M' k = M k) → Wp zS0 tX0_place none 51 [zr 65, zr 63, zi c0, zi col, zi r] [] M' h (Plc M h w c0) := by
    intro d
    induction d with
    | zero =>
      intro r hr m bf tm col M' hB hk
      exfalso
      obtain ⟨hI', hU', hP, hM, hR, hO, hX, hT, hS⟩ := hB
      have hff : m.testBit f = false := by
        cases hr : m.testBit f
        · rfl
        · exact absurd ff3 (hX f ff1 ff2 hr).1
      have := cntm_le ⟨ff1, ff2⟩ hff
      rw [hM.2.2.2] at this
      omega
    | succ d ih =>
      intro r hr m bf tm col M' hB hkk
      obtain ⟨f1, f2, f3, f4⟩ := hB.facts h0 hu
      obtain ⟨hI', hU', hP, hM, hR, hO, hX, hT, hS⟩ := id hB
      obtain ⟨bd1, bd2⟩ := hI'.bd
      have hff : m.testBit f = false := by
        cases hr : m.testBit f
        · rfl
        · exact absurd ff3 (hX f ff1 ff2 hr).1
      have hcnt := cntm_le ⟨ff1, ff2⟩ hff
      rw [hM.2.2.2] at hcnt
      refine Wp.g1 rfl ?_
      refine Wp.call rfl (m_nearest m M' h hM.2.2.1 hM.1 ⟨f, ff1, ff2, hff⟩) (fun v M1 h1 q => ?_)
      obtain ⟨rfl, rfl, k, rfl, k1, k2, k3, k4⟩ := q
      have hkS := hS k k1 k2 k3
      have hb := f4 (bf k) k hkS.1 hkS.2.1 k1 k2
      rw [← hkS.2.2.2.1] at hb
      refine Wp.g1 rfl ?_
      refine Wp.brf rfl (by omega) ?_
      refine Wp.g1 rfl ?_
      refine Wp.brt rfl (by omega) ?_
      refine Wp.g1 rfl ?_
      refine Wp.ld rfl rfl k rfl (by omega) ?_
      refine Wp.call rfl (m_shift m (M1 70 k) (wz c0 w) M1 h1 hM.2.2.1 hM.1 (fun j hj => ⟨hO j hj, ?_⟩) f2 (by omega) (fun b b1 b2 b3 => ?_) (fun c hc => by have := f3 c hc; omega) (fun b b1 b2 => by have := bd1 b b1 b2; omega) hM.2.1) (fun v M2 h2 q => ?_)
      · unfold wz
        split
        · exact h0.2
        · exact hI'.1 j (by omega) hj
      · obtain ⟨x1, x2, x3, x4, x5⟩ := hS b b1 b2 b3
        have := f4 _ b x1 x2 b1 b2
        rw [← x4] at this
        omega
      · obtain ⟨rfl, rfl, q1, q2, q3, q4, q5⟩ := q
        obtain ⟨hB2, hF0, ht0⟩ := hB.shift h0 hu ⟨k1, k2, k3⟩ k4 q1 q2 q3 q4 q5
        have hO2 := hB2.2.2.2.2.2.1
        have hfr : ∀ i, i < 65 ∨ 71 ≤ i → M2 i = M i := fun i hi => by rw [q1 i (by omega) (by omega) (by omega)]; exact hkk i hi
        have e68 : M2 68 k = (w k : Int) := by
          rw [hO2 k k2]
          unfold wz
          rw [if_neg (by omega)]
        refine Wp.g1 rfl ?_
        refine Wp.ld rfl rfl k rfl (by omega) ?_
        rw [e68]
        by_cases hwk : w k = 0
        · refine Wp.brf rfl (by omega) ?_
          refine Wp.g1 rfl ?_
          refine Wp.call rfl (hB2.hand h0 hu ⟨k1, k2, k3⟩ hwk (by omega) hF0 ht0) (fun v M3 h3 q => ?_)
          obtain ⟨rfl, rfl, q6, w', q7, q8, q9, q10⟩ := q
          exact Wp.re rfl ⟨rfl, rfl, fun i hi => by rw [q6 i (by omega)]; exact hfr i hi, w', q7, q8.kept (fun i hi => q6 i (by omega)), by unfold HU; rw [q6 66 (by decide)]; exact q9, q10⟩
        · refine Wp.brt rfl (by omega) ?_
          obtain ⟨m1, m2, m3⟩ := mask_add (m := m) (j := k) hM.1 (by omega)
          have hM2 := hB2.2.2.2.1
          obtain ⟨g1, g2, g3, g4⟩ := hB2.facts h0 hu
          have bd2' := hB2.1.bd
          have hG2 := hB2.1.2.2.2.2.2
          have hwk10 := hI'.1 k k1 k2
          refine Wp.g1 rfl ?_
          rw [w32_s (n := r) (by omega)]
          have hcnt2 : (r : Int) + 1 ≤ 11 := by
            have := cntm_add (m' := m ||| 2 ^ k) ⟨k1, k2⟩ k3 m3
            have hff2 : (m ||| 2 ^ k).testBit f = false := by
              rw [m3, hff, show decide (k = f) = false from decide_eq_false (fun e => hwk (e ▸ ff3))]
              rfl
            have h3 := cntm_le ⟨ff1, ff2⟩ hff2
            rw [this, hM.2.2.2] at h3
            exact h3
          refine Wp.brf rfl (by omega) ?_
          refine Wp.g1 rfl ?_
          rw [hM2.2.2.1, m1]
          have uk : ∀ i, i ≠ 65 → upd2 M2 65 5 ((m ||| 2 ^ k : Nat) : Int) i = M2 i := fun i hi => upd2_ne hi
          have hgk : ∀ c b, gn (upd2 M2 65 5 ((m ||| 2 ^ k : Nat) : Int)) c b = gn M2 c b := fun c b => by unfold gn; rw [uk 64 (by decide)]
          refine Wp.call rfl (m_relax (m ||| 2 ^ k) k (w k) _ _ upd2_at m2 k2 (by rw [uk 68 (by decide)]; exact e68) ⟨by omega, hwk10⟩ (fun b b1 b2 => by rw [hgk]; have := hG2 (w k) b (by omega) hwk10 b1 b2; omega) (by rw [uk 66 (by decide)]; have := g3 (w k) hwk10; omega) (fun b b1 b2 => by rw [uk 67 (by decide)]; have := bd2'.1 b b1 b2; omega)) (fun v M3 h3 q => ?_)
          obtain ⟨rfl, rfl, q6, q7⟩ := q
          have hck : ∀ c b, cst (upd2 M2 65 5 ((m ||| 2 ^ k : Nat) : Int)) c b = cst M2 c b := cst_kept (fun i hi => uk i (by omega))
          obtain ⟨bf', tm', hB3⟩ := hB2.next (M' := M3) hF0 ⟨k1, k2, k3⟩ hwk ht0 m2 m3 (by rw [q6 65 (by decide) (by decide), upd2_at]) (fun i i1 i2 i3 => by rw [q6 i i2 i3]; exact uk i i1) (fun b b1 b2 => by
            have := q7 b b1 b2
            rw [hck, uk 70 (by decide), uk 69 (by decide)] at this
            exact this)
          exact ih (r + 1) (by omega) _ bf' tm' k M3 hB3 (fun i hi => by rw [q6 i (by omega) (by omega), uk i (by omega)]; exact hfr i hi)
  refine Wp.g1 rfl ?_
  refine Wp.call rfl (m_fillA_70 1000000000 M h) (fun v M1 h1 q => ?_)
  obtain ⟨rfl, rfl, q1, q2⟩ := q
  refine Wp.g1 rfl ?_
  refine Wp.sto rfl rfl 0 rfl (by decide) ?_
  refine Wp.g1 rfl ?_
  refine Wp.brf rfl (by decide) ?_
  refine Wp.g1 rfl ?_
  rw [upd2_at, show bOr 0 (bShl 1 0) = ((1 : Nat) : Int) by decide]
  have uk : ∀ i, i ≠ 65 → i ≠ 68 → i ≠ 70 → upd2 (upd2 (upd2 M1 68 0 (c0 : Int)) 65 5 0) 65 5 ((1 : Nat) : Int) i = M i := fun i i1 i2 i3 => by rw [upd2_ne i1, upd2_ne i1, upd2_ne i2]; exact q1 i i3
  have e70 : ∀ b, b ≤ 12 → upd2 (upd2 (upd2 M1 68 0 (c0 : Int)) 65 5 0) 65 5 ((1 : Nat) : Int) 70 b = 1000000000 := fun b hb => by rw [upd2_ne (by decide), upd2_ne (by decide), upd2_ne (by decide)]; exact q2 b (by omega)
  have e65 : upd2 (upd2 (upd2 M1 68 0 (c0 : Int)) 65 5 0) 65 5 ((1 : Nat) : Int) 65 5 = 1 := upd2_at
  have e68 : ∀ j, j ≤ 12 → upd2 (upd2 (upd2 M1 68 0 (c0 : Int)) 65 5 0) 65 5 ((1 : Nat) : Int) 68 j = (wz c0 w j : Int) := fun j hj => by
    rw [upd2_ne (by decide), upd2_ne (by decide)]
    unfold wz
    by_cases e : j = 0
    · rw [if_pos e, e, upd2_at]
    · rw [if_neg e, upd2_off e, q1 68 (by decide)]; exact hw j (by omega) hj
  generalize upd2 (upd2 (upd2 M1 68 0 (c0 : Int)) 65 5 0) 65 5 ((1 : Nat) : Int) = N at *
  obtain ⟨bd1, bd2⟩ := hI.bd
  have hG := hI.2.2.2.2.2
  have hgk : ∀ c b, gn N c b = gn M c b := fun c b => by unfold gn; rw [uk 64 (by decide) (by decide) (by decide)]
  have p0 : M 66 c0 = 0 := hU.2 c0 h0.1 h0.2 (by omega) hu
  refine Wp.call rfl (m_relax 1 0 c0 N _ e65 (by decide) (by decide) (e68 0 (by decide)) h0 (fun b b1 b2 => by rw [hgk]; have := hG c0 b h0.1 h0.2 b1 b2; omega) (by rw [uk 66 (by decide) (by decide) (by decide), p0]; decide) (fun b b1 b2 => by rw [uk 67 (by decide) (by decide) (by decide)]; have := bd1 b b1 b2; omega)) (fun v M3 h3 q => ?_)
  obtain ⟨rfl, rfl, q6, q7⟩ := q
  exact loop 12 0 (by omega) 1 _ _ 0 M3 (HB.start hI hU h0 hu (fun i hi => uk i (by omega) (by omega) (by omega)) e65 e68 (fun b _ b2 => e70 b b2) q6 q7) (fun i hi => by rw [q6 i (by omega) (by omega), uk i (by omega) (by omega) (by omega)])
end
section
/-! the class's best sum: all claims placed, and the sum -/
def Bst (M : Me) (h : Ml) : Option ZV → Me → Ml → Prop := fun v M' h' => h' = h ∧ (∀ k, k < 65 ∨ 71 ≤ k → M' k = M k) ∧ ∃ (N : Me) (w : Nat → Nat), HI N w ∧ (∀ c b, gn N c b = gn M c b) ∧ (∀ c, 1 ≤ c → c ≤ 10 → (∀ b, 1 ≤ b → b ≤ 12 → w b ≠ c) → ∀ b, b < 12 → M 64 (12 * (c - 1) + b) = -1) ∧ v = some (zi (sumI (fun i => if w (i + 1) = 0 then 0 else gn M (w (i + 1)) (i + 1)) 12))
theorem m_bestSum {M : Me} {h : Ml} (hg : ∀ c b, 1 ≤ c → c ≤ 10 → 1 ≤ b → b ≤ 12 → gn M c b ≤ 9600) : Wp zS0 tX0_bestSum none 0 [zr 65, zr 63, zn, zn] [] M h (Bst M h) := by
  have sumloop : ∀ d b : Nat, b + d = 13 → 1 ≤ b → ∀ (M' : Me) (w : Nat → Nat) (s : Int), (∀ k, k < 65 ∨ 71 ≤ k → M' k = M k) → (∀ j, 1 ≤ j → j ≤ 12 → M' 68 j = (w j : Int)) → HI M' w → (∀ c, 1 ≤ c → c ≤ 10 → (∀ b, 1 ≤ b → b ≤ 12 → w b ≠ c) → ∀ b, b < 12 → M 64 (12 * (c - 1) + b) = -1) → s = sumI (fun i => if w (i + 1) = 0 then 0 else gn M (w (i + 1)) (i + 1)) (b - 1) → 0 ≤ s → s ≤ 9600 * (b : Int) →
      Wp zS0 tX0_bestSum none 58 [zr 65, zr 63, zi s, zi b] [] M' h (Bst M h) := by
    intro d
    induction d with
    | zero =>
      intro b hb _ M' w s hk hw hI hu hs s0 s1
      refine Wp.g1 rfl ?_
      refine Wp.brt rfl (by omega) ?_
      refine Wp.g1 rfl ?_
      have e : b - 1 = 12 := by omega
      rw [e] at hs
      exact Wp.re rfl ⟨rfl, hk, M', w, hI, fun c b => by unfold gn; rw [hk 64 (by decide)], hu, by rw [hs]⟩
    | succ d ih =>
      intro b hb hb1 M' w s hk hw hI hu hs s0 s1
      have hgk : ∀ c b, gn M' c b = gn M c b := fun c b => by unfold gn; rw [hk 64 (by decide)]
      have e1 : sumI (fun i => if w (i + 1) = 0 then 0 else gn M (w (i + 1)) (i + 1)) b = s + (if w b = 0 then 0 else gn M (w b) b) := by
        obtain ⟨b', rfl⟩ : ∃ b', b = b' + 1 := ⟨b - 1, by omega⟩
        rw [hs]
        rfl
      refine Wp.g1 rfl ?_
      refine Wp.brf rfl (by omega) ?_
      refine Wp.g1 rfl ?_
      refine Wp.ld rfl rfl b rfl (by omega) ?_
      rw [hw b hb1 (by omega)]
      refine Wp.g1 rfl ?_
      by_cases ew : w b = 0
      · rw [ew]
        refine Wp.calli rfl (m_gainA0 b ⟨hb1, by omega⟩ M' h) ?_
        refine Wp.gt 58 rfl ?_
        rw [w32_s (n := b) (by omega), Int.add_zero, w32_id (x := s) ⟨by omega, by omega⟩]
        rw [if_pos ew, Int.add_zero] at e1
        exact ih (b + 1) (by omega) (by omega) M' w s hk hw hI hu (by rw [show b + 1 - 1 = b by omega, e1]) s0 (by omega)
      · have hw10 := hI.1 b hb1 (by omega)
        refine Wp.calli rfl (m_gainA (w b) b ⟨by omega, hw10⟩ ⟨hb1, by omega⟩ M' h) ?_
        refine Wp.gt 58 rfl ?_
        have g1 := hg (w b) b (by omega) hw10 hb1 (by omega)
        have g2 := (hI.2.2.2.2.2 (w b) b (by omega) hw10 hb1 (by omega)).1
        rw [hgk] at g2
        rw [hgk, w32_s (n := b) (by omega), w32_id (x := s + gn M (w b) b) ⟨by omega, by omega⟩]
        rw [if_neg ew] at e1
        exact ih (b + 1) (by omega) (by omega) M' w _ hk hw hI hu (by rw [show b + 1 - 1 = b by omega, e1]) (by omega) (by omega)
  have loop : ∀ d c : Nat, c + d = 11 → 1 ≤ c → ∀ (M' : Me) (w : Nat → Nat) (x : ZV), (∀ k, k < 65 ∨ 71 ≤ k → M' k = M k) → (∀ j, 1 ≤ j → j ≤ 12 → M' 68 j = (w j : Int)) → HI M' w → HU M' w 0 → (∀ b, 1 ≤ b → b ≤ 12 → w b < c) → (∀ c', 1 ≤ c' → c' < c → (∀ b, 1 ≤ b → b ≤ 12 → w b ≠ c') → ∀ b, b < 12 → M 64 (12 * (c' - 1) + b) = -1) →
      Wp zS0 tX0_bestSum none 26 [zr 65, zr 63, zi c, x] [] M' h (Bst M h) := by
    intro d
    induction d with
    | zero =>
      intro c hc _ M' w x hk hw hI hU hp hu
      refine Wp.g1 rfl ?_
      refine Wp.brt rfl (by omega) ?_
      refine Wp.gt 58 rfl ?_
      exact sumloop 12 1 (by omega) (by omega) M' w 0 hk hw hI (fun c' c1 c2 c3 => hu c' c1 (by omega) c3) rfl (by decide) (by decide)
    | succ d ih =>
      intro c hc hc1 M' w x hk hw hI hU hp hu
      refine Wp.g1 rfl ?_
      refine Wp.brf rfl (by omega) ?_
      refine Wp.g1 rfl ?_
      rw [w32_p hc1 (by omega)]
      refine Wp.call rfl (m_hasGain (c - 1) (by omega) M' h) (fun v M1 h1 q => ?_)
      obtain ⟨rfl, rfl, q⟩ := q
      rcases q with ⟨rfl, -⟩ | ⟨rfl, q⟩
      · refine Wp.brf rfl (by decide) ?_
        refine Wp.g1 rfl ?_
        refine Wp.call rfl (m_place hI hU ⟨hc1, by omega⟩ (fun b b1 b2 => by have := hp b b1 b2; omega) hw) (fun v M2 h2 q => ?_)
        obtain ⟨rfl, rfl, q1, w', q2, q3, q4, q5⟩ := q
        refine Wp.gt 26 rfl ?_
        rw [w32_s (n := c) (by omega)]
        refine ih (c + 1) (by omega) (by omega) M2 w' _ (fun k g => (q1 k g).trans (hk k g)) q2 q3 q4 (fun b b1 b2 => ?_) (fun c' g1 g2 g3 => ?_)
        · by_cases e : w' b = 0
          · omega
          · rcases (q5 (w' b) (by omega)).mp ⟨b, b1, b2, rfl⟩ with ⟨y, y1, y2, y3⟩ | g
            · have := hp y y1 y2; omega
            · omega
        · by_cases e : c' = c
          · obtain ⟨y, y1, y2, y3⟩ := (q5 c' g1).mpr (Or.inr e)
            exact absurd y3 (g3 y y1 y2)
          · refine hu c' g1 (by omega) (fun b b1 b2 b3 => ?_)
            obtain ⟨y, y1, y2, y3⟩ := (q5 c' g1).mpr (Or.inl ⟨b, b1, b2, b3⟩)
            exact g3 y y1 y2 y3
      · refine Wp.brt rfl (by decide) ?_
        refine Wp.gt 26 rfl ?_
        rw [w32_s (n := c) (by omega)]
        refine ih (c + 1) (by omega) (by omega) M1 w _ hk hw hI hU (fun b b1 b2 => by have := hp b b1 b2; omega) (fun c' g1 g2 g3 => ?_)
        by_cases e : c' = c
        · subst e
          intro b b1
          have := q b b1
          rw [hk 64 (by decide)] at this
          exact this
        · exact hu c' g1 (by omega) g3
  refine Wp.g1 rfl ?_
  refine Wp.call rfl (m_fillA_66 0 M h) (fun v M1 h1 q => ?_)
  obtain ⟨rfl, rfl, q1, q2⟩ := q
  refine Wp.g1 rfl ?_
  refine Wp.call rfl (m_fillA_67 0 M1 h1) (fun v M2 h2 q => ?_)
  obtain ⟨rfl, rfl, q3, q4⟩ := q
  refine Wp.g1 rfl ?_
  refine Wp.call rfl (m_fillA_68 0 M2 h2) (fun v M3 h3 q => ?_)
  obtain ⟨rfl, rfl, q5, q6⟩ := q
  refine Wp.gt 26 rfl ?_
  have e66 : ∀ c, c ≤ 10 → M3 66 c = 0 := fun c hc => by rw [q5 66 (by decide), q3 66 (by decide)]; exact q2 c (by omega)
  have e67 : ∀ b, b ≤ 12 → M3 67 b = 0 := fun b hb => by rw [q5 67 (by decide)]; exact q4 b (by omega)
  refine loop 10 1 (by omega) (by omega) M3 (fun _ => 0) _ (fun k g => by rw [q5 k (by omega), q3 k (by omega), q1 k (by omega)]) (fun j j1 j2 => q6 j (by omega)) ⟨fun b _ _ => Nat.zero_le _, fun b b' _ _ _ _ _ g => absurd rfl g, fun b0 b _ _ _ _ g => absurd rfl g, fun b _ _ g => absurd rfl g, fun b b1 b2 => ?_, fun c b c1 c2 b1 b2 => ?_⟩ ⟨e66 0 (by decide), fun c c1 c2 _ _ => e66 c c2⟩ (fun b _ _ => Nat.zero_lt_one) (fun c' g1 g2 => by omega)
  · rw [e67 b b2]
    exact ⟨Int.le_refl _, fun _ => rfl⟩
  · have e : gn M3 c b = gn M c b := by unfold gn; rw [q5 64 (by decide), q3 64 (by decide), q1 64 (by decide)]
    rw [e]
    refine ⟨?_, hg c b c1 c2 b1 b2⟩
    unfold gn
    omega
end
section
/-! the best sum over all sets of bags -/
def dpB (g : Nat → Int) (prev : Nat → Int) (set : Nat) : Nat → Int
  | 0 => prev set
  | n + 1 => if set.testBit n = true ∧ g n ≠ -1 then max (dpB g prev set n) (g n + prev (set ^^^ 2 ^ n)) else dpB g prev set n
def dpS (G : Nat → Nat → Int) (nb : Nat) : Nat → Nat → Int
  | 0, _ => 0
  | c + 1, set => dpB (G c) (dpS G nb c) set nb
def rBest (V : Nat → Int) (nb nc : Nat) : Int := dpS (gF V nb nc) nb nc (2 ^ nb - 1)
theorem tb_xor (s n j : Nat) : (s ^^^ 2 ^ n).testBit j = (s.testBit j ^^ decide (n = j)) := by rw [Nat.testBit_xor, Nat.testBit_two_pow]
theorem dp_le {G : Nat → Nat → Int} {nb : Nat} {P Q : Nat → Int} : ∀ c, (∀ i, i < c → 0 ≤ P i) → (∀ i b, i < c → b < nb → G i b ≠ -1 → G i b ≤ P i + Q b) → ∀ set, (∀ b, b < nb → 0 ≤ Q b) → dpS G nb c set ≤ sumI P c + sumI (fun b => if set.testBit b then Q b else 0) nb := by
  intro c
  induction c with
  | zero =>
    intro _ _ set hQ
    have : 0 ≤ sumI (fun b => if set.testBit b then Q b else 0) nb := by
      have := sumI_le (f := fun _ => (0 : Int)) (g := fun b => if set.testBit b then Q b else 0) nb (fun j hj => by
        have := hQ j hj
        show 0 ≤ if set.testBit j then Q j else 0
        split <;> omega)
      rw [sumI_zero] at this
      exact this
    show (0 : Int) ≤ 0 + _
    omega
  | succ c ih =>
    intro hP hG set hQ
    have ih' := ih (fun i hi => hP i (by omega)) (fun i b hi => hG i b (by omega))
    have hPc := hP c (by omega)
    have key : ∀ n, n ≤ nb → dpB (G c) (dpS G nb c) set n ≤ sumI P c + P c + sumI (fun b => if set.testBit b then Q b else 0) nb := by
      intro n
      induction n with
      | zero =>
        intro _
        have := ih' set hQ
        show dpS G nb c set ≤ _
        omega
      | succ n ihn =>
        intro hn
        have h1 := ihn (by omega)
        show (if set.testBit n = true ∧ G c n ≠ -1 then max (dpB (G c) (dpS G nb c) set n) (G c n + dpS G nb c (set ^^^ 2 ^ n)) else dpB (G c) (dpS G nb c) set n) ≤ _
        by_cases g : set.testBit n = true ∧ G c n ≠ -1
        · rw [if_pos g]
          have h2 := ih' (set ^^^ 2 ^ n) hQ
          have h3 := hG c n (by omega) (by omega) g.2
          have h4 : sumI (fun b => if set.testBit b then Q b else 0) nb = sumI (fun b => if (set ^^^ 2 ^ n).testBit b then Q b else 0) nb + Q n := by
            have e : sumI (fun b => if set.testBit b then Q b else 0) nb = sumI (fun b => (if (set ^^^ 2 ^ n).testBit b then Q b else 0) + (if b = n then Q n else 0)) nb := sumI_congr nb (fun b hb => by
              rw [tb_xor]
              by_cases eb : b = n
              · rw [eb, g.1]; simp
              · rw [show decide (n = b) = false from decide_eq_false (fun q => eb q.symm), if_neg eb]; simp)
            rw [e, sumI_add, sumI_one (f := fun b => if b = n then Q n else 0) (k := n) nb (by omega) (fun j _ hne => if_neg hne), if_pos rfl]
          omega
        · rw [if_neg g]; exact h1
    exact key nb (Nat.le_refl _)
theorem dpB_ge (g prev : Nat → Int) (set : Nat) : ∀ n, prev set ≤ dpB g prev set n ∧ ∀ b, b < n → set.testBit b = true → g b ≠ -1 → g b + prev (set ^^^ 2 ^ b) ≤ dpB g prev set n := by
  intro n
  induction n with
  | zero => exact ⟨Int.le_refl _, fun b hb => by omega⟩
  | succ n ih =>
    have e : dpB g prev set (n + 1) = if set.testBit n = true ∧ g n ≠ -1 then max (dpB g prev set n) (g n + prev (set ^^^ 2 ^ n)) else dpB g prev set n := rfl
    rw [e]
    refine ⟨?_, fun b hb h1 h2 => ?_⟩
    · split
      · have := ih.1; omega
      · exact ih.1
    · by_cases eb : b = n
      · subst eb
        rw [if_pos ⟨h1, h2⟩]
        omega
      · have := ih.2 b (by omega) h1 h2
        split <;> omega
def hC (G : Nat → Nat → Int) (w : Nat → Nat) (c : Nat) : Int := sumI (fun b => if w (b + 1) = c + 1 then max (G c b) 0 else 0) 12
theorem dp_ge {G : Nat → Nat → Int} {nb : Nat} {w : Nat → Nat} (hnb : nb ≤ 12) (hJ : ∀ b b', 1 ≤ b → b ≤ 12 → 1 ≤ b' → b' ≤ 12 → w b = w b' → w b ≠ 0 → b = b') (hG0 : ∀ c b, nb ≤ b → G c b = -1) (hGp : ∀ c b, G c b ≠ -1 → 0 ≤ G c b) : ∀ c set, (∀ c' b, c' < c → b < nb → w (b + 1) = c' + 1 → set.testBit b = true) → sumI (hC G w) c ≤ dpS G nb c set := by
  intro c
  induction c with
  | zero => intro set _; exact Int.le_refl _
  | succ c ih =>
    intro set hs
    show sumI (hC G w) c + hC G w c ≤ dpB (G c) (dpS G nb c) set nb
    obtain ⟨g1, g2⟩ := dpB_ge (G c) (dpS G nb c) set nb
    by_cases hx : ∃ b, b < nb ∧ w (b + 1) = c + 1 ∧ G c b ≠ -1
    · obtain ⟨b, b1, b2, b3⟩ := hx
      have h1 := g2 b b1 (hs c b (by omega) b1 b2) b3
      have h2 := ih (set ^^^ 2 ^ b) (fun c' b' k1 k2 k3 => by
        rw [tb_xor, hs c' b' (by omega) k2 k3, show decide (b = b') = false from decide_eq_false (fun e => by rw [← e, b2] at k3; omega)]
        rfl)
      have h3 : hC G w c = G c b := by
        have e : hC G w c = (if w (b + 1) = c + 1 then max (G c b) 0 else 0) := sumI_one (f := fun b => if w (b + 1) = c + 1 then max (G c b) 0 else 0) (k := b) 12 (by omega) (fun j j1 j2 => by
          refine if_neg (fun q => j2 ?_)
          have := hJ (j + 1) (b + 1) (by omega) (by omega) (by omega) (by omega) (q.trans b2.symm) (by omega)
          omega)
        rw [e, if_pos b2]
        have := hGp c b b3
        omega
      omega
    · have h2 := ih set (fun c' b' k1 => hs c' b' (by omega))
      have h3 : hC G w c = 0 := by
        have e : hC G w c = sumI (fun _ => 0) 12 := sumI_congr 12 (fun b hb => by
          by_cases q : w (b + 1) = c + 1
          · rw [if_pos q]
            have : G c b = -1 := by
              by_cases k : b < nb
              · exact Classical.byContradiction (fun k2 => hx ⟨b, k, q, k2⟩)
              · exact hG0 c b (by omega)
            rw [this]; decide
          · rw [if_neg q])
        rw [e, sumI_zero]
      omega
end
section
/-! the class's best sum is the sum over all sets of bags -/
theorem sumI_shift (f : Nat → Int) : ∀ n, sumI f (n + 1) = f 0 + sumI (fun i => f (i + 1)) n := by
  intro n
  induction n with
  | zero => show 0 + f 0 = f 0 + 0; omega
  | succ n ih =>
    show sumI f (n + 1) + f (n + 1) = f 0 + (sumI (fun i => f (i + 1)) n + f (n + 1))
    rw [ih]; omega
theorem sumI_tail {f : Nat → Int} {n : Nat} : ∀ d, (∀ j, n ≤ j → j < n + d → f j = 0) → sumI f (n + d) = sumI f n := by
  intro d
  induction d with
  | zero => intro _; rfl
  | succ d ih =>
    intro h
    show sumI f (n + d) + f (n + d) = sumI f n
    rw [ih (fun j h1 h2 => h j h1 (by omega)), h (n + d) (by omega) (by omega), Int.add_zero]
theorem sumI_mono {f : Nat → Int} {n : Nat} : ∀ d, (∀ j, j < n + d → 0 ≤ f j) → sumI f n ≤ sumI f (n + d) := by
  intro d
  induction d with
  | zero => intro _; exact Int.le_refl _
  | succ d ih =>
    intro h
    have h1 := ih (fun j hj => h j (by omega))
    have h2 := h (n + d) (by omega)
    show sumI f n ≤ sumI f (n + d) + f (n + d)
    omega
theorem gF_ge {V : Nat → Int} {nb nc t : Nat} (hW : WF V nb nc t) (c b : Nat) (h : gF V nb nc c b ≠ -1) : 0 ≤ gF V nb nc c b ∧ c < nc ∧ b < nb := by
  have h1 := hW.2.1.2.1
  unfold gF at h ⊢
  by_cases g : c < nc ∧ V (114 + 10 * c + 9) = 0
  · rw [if_pos g] at h ⊢
    unfold lkG at h ⊢
    by_cases g2 : b < nb ∧ cw V nc b = -10006 ∧ V (114 + 10 * c + 8) ≤ V (18 + 8 * b + 7) ∧ V 1 ≤ scI V c b 0
    · rw [if_pos g2]
      exact ⟨by omega, g.1, g2.1⟩
    · rw [if_neg g2] at h; exact absurd rfl h
  · rw [if_neg g] at h; exact absurd rfl h
theorem best_eq {M M' : Me} {h h' : Ml} {v : Option ZV} {V : Nat → Int} {nb nc t : Nat} (hW : WF V nb nc t) (hM : ∀ i, i < 120 → M 64 i = gM V nb nc i) (hB : Bst M h v M' h') : v = some (zi (rBest V nb nc)) := by
  obtain ⟨-, -, N, w, hI, hgn, hun, hv⟩ := hB
  obtain ⟨f, ff1, ff2, ff3⟩ := own_free hI.1 hI.2.1
  obtain ⟨bd1, bd2⟩ := hI.bd
  obtain ⟨hWw, hJ, hF, hT, hN, hG⟩ := hI
  have hnb := hW.1.2.2.1
  have hnc := hW.1.2.2.2
  have eM : ∀ c b, c < 10 → b < 12 → M 64 (12 * c + b) = gF V nb nc c b := fun c b hc hb => by
    rw [hM _ (by omega)]
    unfold gM
    rw [show (12 * c + b) / 12 = c by omega, show (12 * c + b) % 12 = b by omega]
  have eg : ∀ c b, c < 10 → b < 12 → gn N (c + 1) (b + 1) = max (gF V nb nc c b) 0 := fun c b hc hb => by
    rw [hgn, ← eM c b hc hb]
    rfl
  rw [hv]
  congr 3
  -- the sum by prices
  have hS1 : sumI (fun i => if w (i + 1) = 0 then 0 else gn M (w (i + 1)) (i + 1)) 12 = sumI (fun c => @ite _ (∃ b, b < 12 ∧ w (b + 1) = c + 1) (Classical.propDecidable _) (-N 66 (c + 1)) 0) 10 + sumI (fun b => -N 67 (b + 1)) 12 := by
    have e1 : sumI (fun i => if w (i + 1) = 0 then 0 else gn M (w (i + 1)) (i + 1)) 12 = sumI (fun i => (if w (i + 1) = 0 then 0 else -N 66 (w (i + 1))) + -N 67 (i + 1)) 12 := sumI_congr 12 (fun i hi => by
      by_cases e : w (i + 1) = 0
      · rw [if_pos e, if_pos e, (hN (i + 1) (by omega) (by omega)).2 e]; rfl
      · rw [if_neg e, if_neg e, ← hgn]
        have := hT (i + 1) (by omega) (by omega) e
        unfold cst at this
        omega)
    rw [e1, sumI_add]
    congr 1
    have k := sumI_own (w := fun i => w (i + 1)) (f := fun c => if c = 0 then 0 else -N 66 c) (n := 12) (m := 11) (fun b hb => by have := hWw (b + 1) (by omega) (by omega); show w (b + 1) < 11; omega) rfl
      (fun b b' hb hb' e hne => by have := hJ (b + 1) (b' + 1) (by omega) (by omega) (by omega) (by omega) e hne; omega) (fun c => ∃ b, b < 12 ∧ w (b + 1) = c ∧ c ≠ 0) (fun c => Iff.rfl) (fun c => Classical.propDecidable _)
    rw [k, sumI_shift]
    have z : (@ite _ (∃ b, b < 12 ∧ w (b + 1) = 0 ∧ (0 : Nat) ≠ 0) (Classical.propDecidable _) (if (0 : Nat) = 0 then (0 : Int) else -N 66 0) 0) = 0 := by
      split <;> rfl
    rw [z, Int.zero_add]
    refine sumI_congr 10 (fun c hc => ?_)
    by_cases g : ∃ b, b < 12 ∧ w (b + 1) = c + 1
    · obtain ⟨b, b1, b2⟩ := g
      rw [if_pos (c := ∃ b, b < 12 ∧ w (b + 1) = c + 1 ∧ c + 1 ≠ 0) ⟨b, b1, b2, by omega⟩, if_pos (c := ∃ b, b < 12 ∧ w (b + 1) = c + 1) ⟨b, b1, b2⟩, if_neg (by omega)]
    · rw [if_neg (c := ∃ b, b < 12 ∧ w (b + 1) = c + 1 ∧ c + 1 ≠ 0) (fun q => by obtain ⟨y, y1, y2, -⟩ := q; exact g ⟨y, y1, y2⟩), if_neg g]
  have hP : ∀ c, c < 10 → 0 ≤ @ite _ (∃ b, b < 12 ∧ w (b + 1) = c + 1) (Classical.propDecidable _) (-N 66 (c + 1)) 0 := fun c hc => by
    by_cases g : ∃ b, b < 12 ∧ w (b + 1) = c + 1
    · rw [if_pos g]
      obtain ⟨b, b1, b2⟩ := g
      have := bd2 (b + 1) (by omega) (by omega) (by omega)
      rw [b2] at this
      omega
    · rw [if_neg g]; exact Int.le_refl _
  have hQ : ∀ b, b < 12 → 0 ≤ -N 67 (b + 1) := fun b hb => by
    have := (hN (b + 1) (by omega) (by omega)).1
    omega
  have up : rBest V nb nc ≤ sumI (fun i => if w (i + 1) = 0 then 0 else gn M (w (i + 1)) (i + 1)) 12 := by
    rw [hS1]
    have k := dp_le (G := gF V nb nc) (nb := nb) (P := fun c => @ite _ (∃ b, b < 12 ∧ w (b + 1) = c + 1) (Classical.propDecidable _) (-N 66 (c + 1)) 0) (Q := fun b => -N 67 (b + 1)) nc (fun i hi => hP i (by omega)) (fun i b hi hb hne => by
      have g1 := (gF_ge hW i b hne).1
      by_cases g : ∃ b, b < 12 ∧ w (b + 1) = i + 1
      · rw [if_pos g]
        obtain ⟨y, y1, y2⟩ := g
        have g2 := hF (y + 1) (b + 1) (by omega) (by omega) (by omega) (by omega) (by omega)
        rw [y2] at g2
        unfold cst at g2
        rw [eg i b (by omega) (by omega)] at g2
        omega
      · exfalso
        have := hun (i + 1) (by omega) (by omega) (fun y y1 y2 y3 => g ⟨y - 1, by omega, by rw [show y - 1 + 1 = y by omega]; exact y3⟩) b (by omega)
        rw [show i + 1 - 1 = i by omega, eM i b (by omega) (by omega)] at this
        exact hne this) (2 ^ nb - 1) (fun b hb => hQ b (by omega))
    have k2 := sumI_mono (f := fun c => @ite _ (∃ b, b < 12 ∧ w (b + 1) = c + 1) (Classical.propDecidable _) (-N 66 (c + 1)) 0) (n := nc) (10 - nc) (fun j hj => hP j (by omega))
    rw [show nc + (10 - nc) = 10 by omega] at k2
    have k3 := sumI_mono (f := fun b => -N 67 (b + 1)) (n := nb) (12 - nb) (fun j hj => hQ j (by omega))
    rw [show nb + (12 - nb) = 12 by omega] at k3
    have k4 := sumI_le (f := fun b => if (2 ^ nb - 1).testBit b then -N 67 (b + 1) else 0) (g := fun b => -N 67 (b + 1)) nb (fun j hj => by
      have hqj := hQ j (by omega)
      show (if (2 ^ nb - 1).testBit j then -N 67 (j + 1) else 0) ≤ -N 67 (j + 1)
      by_cases g : (2 ^ nb - 1).testBit j = true
      · rw [if_pos g]; exact Int.le_refl _
      · rw [if_neg g]; exact hqj)
    unfold rBest
    omega
  have lo : sumI (fun i => if w (i + 1) = 0 then 0 else gn M (w (i + 1)) (i + 1)) 12 ≤ rBest V nb nc := by
    have e1 : sumI (fun i => if w (i + 1) = 0 then 0 else gn M (w (i + 1)) (i + 1)) 12 = sumI (fun i => sumI (fun c => if w (i + 1) = c + 1 then max (gF V nb nc c i) 0 else 0) 10) 12 := sumI_congr 12 (fun i hi => by
      by_cases e : w (i + 1) = 0
      · rw [if_pos e]
        have : sumI (fun c => if w (i + 1) = c + 1 then max (gF V nb nc c i) 0 else 0) 10 = sumI (fun _ => 0) 10 := sumI_congr 10 (fun c hc => if_neg (by omega))
        rw [this, sumI_zero]
      · have h10 := hWw (i + 1) (by omega) (by omega)
        rw [if_neg e, sumI_one (f := fun c => if w (i + 1) = c + 1 then max (gF V nb nc c i) 0 else 0) (k := w (i + 1) - 1) 10 (by omega) (fun j _ hne => if_neg (by omega)), if_pos (by omega), ← eg (w (i + 1) - 1) i (by omega) hi, hgn, show w (i + 1) - 1 + 1 = w (i + 1) by omega])
    rw [e1, sumI_swap]
    have k := dp_ge (G := gF V nb nc) (nb := nb) (w := w) hnb hJ (fun c b hb => Classical.byContradiction (fun q => by have := (gF_ge hW c b q).2.2; omega)) (fun c b q => (gF_ge hW c b q).1) nc (2 ^ nb - 1) (fun c' b _ hb _ => by rw [Nat.testBit_two_pow_sub_one]; exact decide_eq_true hb)
    have k2 := sumI_tail (f := hC (gF V nb nc) w) (n := nc) (10 - nc) (fun j j1 j2 => by
      have e : hC (gF V nb nc) w j = sumI (fun _ => 0) 12 := sumI_congr 12 (fun b hb => by
        have : gF V nb nc j b = -1 := Classical.byContradiction (fun q => by have := (gF_ge hW j b q).2.1; omega)
        rw [this]
        split <;> decide)
      rw [e, sumI_zero])
    rw [show nc + (10 - nc) = 10 by omega] at k2
    have k3 : sumI (fun j => sumI (fun i => if w (i + 1) = j + 1 then max (gF V nb nc j i) 0 else 0) 12) 10 = sumI (hC (gF V nb nc) w) 10 := rfl
    rw [k3, k2]
    exact k
  omega
end
section
/-! the class's best total -/
theorem c_bestTotal {M : Me} {h : Ml} {V : Nat → Int} {nb nc t : Nat} (hS : CS M V nb nc t) : Wp zS0 tX8_bestTotal none 0 [zr 0] [] M h (Qr (rBest V nb nc) M h) := by
  have hW := hS.2.2.2
  refine Wp.g1 rfl ?_
  refine Wp.call rfl (m_fill hS.1 hS.2.1 hS.2.2.1 hW) (fun v M1 h1 q => ?_)
  obtain ⟨rfl, rfl, q1, q2⟩ := q
  have e : ∀ i, i < 120 → M1 64 i = gM V nb nc i := fun i hi => by
    have := q2 (i / 12) (i % 12) (by omega) (by omega)
    rw [show 12 * (i / 12) + i % 12 = i by omega] at this
    exact this
  refine Wp.g1 rfl ?_
  refine Wp.call rfl (m_bestSum (M := M1) (fun c b c1 c2 b1 b2 => ?_)) (fun v M2 h2 q => ?_)
  · unfold gn
    rw [e _ (by omega)]
    have := gM_bd hW (12 * (c - 1) + (b - 1))
    omega
  · have hv := best_eq hW e q
    obtain ⟨rfl, q3, -⟩ := q
    subst hv
    exact Wp.re rfl ⟨rfl, rfl, fun k g => by rw [q3 k (by omega)]; exact q1 k (by omega) (by omega)⟩
end
section
/-! the law asks bags and claims by their numbers: they stand in rows, by their numbers -/
def SB (V : Nat → Int) (nb : Nat) : Prop := ∀ r q, r < q → q < nb → V (18 + 8 * r) < V (18 + 8 * q)
def SC (V : Nat → Int) (nc : Nat) : Prop := ∀ r q, r < q → q < nc → V (114 + 10 * r) < V (114 + 10 * q)
section ROWS
variable {V : Nat → Int} {nb nc t : Nat}
theorem rkB_at (hW : WF V nb nc t) {r : Nat} (hr : r < nb) : rkB V nb (V (18 + 8 * r)) = r := fnd_some (f := fun r => V (18 + 8 * r)) hr rfl (fun j hj e => by
  have := hW.2.2.2.2.1 j r (by omega) hr e
  omega)
theorem rkC_at (hS : SC V nc) {r : Nat} (hr : r < nc) : rkC V nc (V (114 + 10 * r)) = r := fnd_some (f := fun r => V (114 + 10 * r)) hr rfl (fun j hj e => by
  have := hS j r hj hr
  omega)
theorem rkB_no {x : Int} (h : ∀ r, r < nb → V (18 + 8 * r) ≠ x) : rkB V nb x = nb := fnd_none (f := fun r => V (18 + 8 * r)) h
theorem rkC_no {x : Int} (h : ∀ r, r < nc → V (114 + 10 * r) ≠ x) : rkC V nc x = nc := fnd_none (f := fun r => V (114 + 10 * r)) h
/-- what calls answer of the bag in row r, the claim in row r -/
theorem bag_at (hW : WF V nb nc t) {r : Nat} (hr : r < nb) {y : Nat} (hy : y < 7) : rBag V nb nc (V (18 + 8 * r)) (y : Int) = V (18 + 8 * r + 1 + y) := by
  unfold rBag
  rw [rkB_at hW hr, if_pos hr, if_neg (by omega), if_neg (by omega), Int.toNat_natCast]
theorem bag_7 (hW : WF V nb nc t) {r : Nat} (hr : r < nb) : rBag V nb nc (V (18 + 8 * r)) 7 = cw V nc r := by
  unfold rBag
  rw [rkB_at hW hr, if_pos hr, if_neg (by omega), if_pos rfl]
theorem bag_no {x y : Int} (h : ∀ r, r < nb → V (18 + 8 * r) ≠ x) : rBag V nb nc x y = -10001 := by
  unfold rBag
  rw [rkB_no h, if_neg (Nat.lt_irrefl _)]
theorem claim_at (hS : SC V nc) {r : Nat} (hr : r < nc) {y : Nat} (hy : y < 8) : rClaimOf V nc (V (114 + 10 * r)) (y : Int) = V (114 + 10 * r + 1 + y) := by
  unfold rClaimOf
  rw [rkC_at hS hr, if_pos hr, if_neg (by omega), if_neg (by omega), Int.toNat_natCast]
theorem claim_8 (hS : SC V nc) {r : Nat} (hr : r < nc) : rClaimOf V nc (V (114 + 10 * r)) 8 = pt V r := by
  unfold rClaimOf
  rw [rkC_at hS hr, if_pos hr, if_neg (by omega), if_pos rfl]
theorem claim_no {x y : Int} (h : ∀ r, r < nc → V (114 + 10 * r) ≠ x) : rClaimOf V nc x y = -10001 := by
  unfold rClaimOf
  rw [rkC_no h, if_neg (Nat.lt_irrefl _)]
theorem score_at (hW : WF V nb nc t) (hS : SC V nc) {c b : Nat} (hc : c < nc) (hb : b < nb) {z : Nat} (hz : z < 7) : rScore V nb nc (V (114 + 10 * c)) (V (18 + 8 * b)) (z : Int) = scN V c b z := by
  unfold rScore
  rw [rkC_at hS hc, rkB_at hW hb, if_pos ⟨hc, hb⟩, if_neg (by omega), Int.toNat_natCast]
/-- a matched bag's claim -/
theorem cw_claim {r : Nat} (h : cw V nc r ≠ -10006) : ∃ c, c < nc ∧ cw V nc r = V (114 + 10 * c) ∧ V (114 + 10 * c + 9) = V (18 + 8 * r) := by
  unfold cw at h ⊢
  rcases fnd_spec (f := fun c => V (114 + 10 * c + 9)) (x := V (18 + 8 * r)) (n := nc) with ⟨h1, h2, h3⟩ | ⟨h1, h2⟩
  · rw [if_pos h1]
    exact ⟨_, h1, rfl, h2⟩
  · rw [if_neg (by omega)] at h
    exact absurd rfl h
theorem pt_val {r : Nat} (h : V (114 + 10 * r + 9) ≠ 0) : pt V r = V (114 + 10 * r + 9) := if_neg h
/-- a matched claim's bag: its row, and that it is matched with this claim -/
theorem pt_bag (hW : WF V nb nc t) {c : Nat} (hc : c < nc) (h0 : V (114 + 10 * c + 9) ≠ 0) : ∃ b, b < nb ∧ V (18 + 8 * b) = V (114 + 10 * c + 9) ∧ cw V nc b = V (114 + 10 * c) := by
  obtain ⟨b, h1, h2⟩ := hW.2.2.2.2.2.1 c hc h0
  refine ⟨b, h1, h2, cw_some hc h2.symm (fun q hq hne e => hne ?_)⟩
  exact hW.2.2.2.2.2.2 q c hq hc (e.trans h2) (by rw [e, h2]; exact h0)
end ROWS
end
section
/-! the law's own: a part of the script, a rest, the number of a rank -/
def lo (v : Int) (n : Nat) : Nat := (bAnd v 2147483647).toNat % n
theorem bAnd_31 (x : Int) : ∃ k : Nat, k < 2147483648 ∧ bAnd x 2147483647 = (k : Int) := by
  unfold bAnd
  rw [show Int32.ofInt 2147483647 = (2147483647 : Int32) from rfl, pk_and (Int32.ofInt x) (m := 2147483647) 31 (by decide)]
  have h : (Int32.ofInt x).toBitVec.toNat % 2 ^ 31 < 2147483648 := Nat.mod_lt _ (by decide)
  exact ⟨_, h, nI_toInt (by omega)⟩
theorem lo_lt (v : Int) {n : Nat} (hn : 0 < n) : lo v n < n := Nat.mod_lt _ hn
theorem m_low (v : Int) (n : Nat) (hn : 0 < n) (M : Me) (h : Ml) : Wp zS0 tL_low none 0 [zi v, zi n] [] M h (Ri (lo v n) M h) := by
  obtain ⟨k, h1, h2⟩ := bAnd_31 v
  refine Wp.g1 rfl ?_
  refine Wp.rem rfl (by rw [h2]; omega) (by omega) ?_
  refine Wp.rei rfl ?_ rfl rfl
  unfold lo
  rw [h2, Int.toNat_natCast]
  rfl
theorem m_cell (L : Nat) (xs : Nat → Int) (k : Nat) (M : Me) (h : Ml) : Wp zS0 tL_cell (some (L, xs)) 0 [zs, zi k] [] M h (fun v M' h' => (∃ x, v = some (zi x)) ∧ M' = M ∧ h' = h) := by
  refine Wp.g1 rfl ?_
  refine Wp.br rfl (fun c0 => ?_) (fun c0 => ?_)
  · refine Wp.g1 rfl ?_
    exact Wp.re rfl ⟨⟨_, rfl⟩, rfl, rfl⟩
  · refine Wp.g1 rfl ?_
    refine Wp.lds rfl rfl k rfl (by omega) ?_
    refine Wp.g1 rfl ?_
    exact Wp.re rfl ⟨⟨_, rfl⟩, rfl, rfl⟩
section NTH
variable {M : Me} {h : Ml} {V : Nat → Int} {nb nc t : Nat}
theorem n_bag (hS : CS M V nb nc t) (hB : SB V nb) (h11 : V 11 ≤ 129) (r : Nat) (hr : r ≤ 12) : Wp zS0 tL_nth none 0 [zr 0, zi 1, zi r, zn, zn] [] M h (Qr (if r < nb then V (18 + 8 * r) else 0) M h) := by
  have hW := hS.2.2.2
  have loop : ∀ d k i : Nat, k + d = 130 → 1 ≤ k → (∀ q, q < i → V (18 + 8 * q) < k) → (∀ q, i ≤ q → q < nb → (k : Int) ≤ V (18 + 8 * q)) → i ≤ r → ∀ M' : Me, (∀ k, k < 61 ∨ k = 71 ∨ 74 ≤ k → M' k = M k) →
      Wp zS0 tL_nth none 5 [zr 0, zi 1, zi r, zi ((r - i : Nat) : Int), zi k] [] M' h (Qr (if r < nb then V (18 + 8 * r) else 0) M h) := by
    intro d
    induction d with
    | zero =>
      intro k i hd hk1 h1 h2 hi M' hk
      refine Wp.g1 rfl ?_
      refine Wp.brt rfl (by omega) ?_
      refine Wp.g1 rfl ?_
      refine Wp.re rfl ⟨?_, rfl, hk⟩
      rw [if_neg]
      intro q
      have e1 := h2 r hi q
      have e2 := (hW.2.2.1 r q).2.1
      omega
    | succ d ih =>
      intro k i hd hk1 h1 h2 hi M' hk
      refine Wp.g1 rfl ?_
      refine Wp.brf rfl (by omega) ?_
      refine Wp.g1 rfl ?_
      refine Wp.brf rfl (by omega) ?_
      refine Wp.g1 rfl ?_
      refine Wp.brf rfl (by decide) ?_
      refine Wp.g1 rfl ?_
      refine Wp.call rfl (c_bag (hS.kept (fun k g => hk k (Or.inl g))) _ _) (fun v M1 h1' q => ?_)
      obtain ⟨rfl, rfl, q3⟩ := q
      have hk1' : ∀ k, k < 61 ∨ k = 71 ∨ 74 ≤ k → M1 k = M k := fun k g => (q3 k g).trans (hk k g)
      refine Wp.g1 rfl ?_
      by_cases hx : i < nb ∧ V (18 + 8 * i) = (k : Int)
      · obtain ⟨hx1, hx2⟩ := hx
        have e : rBag V nb nc (k : Int) 0 = V (18 + 8 * i + 1) := by
          rw [← hx2]
          exact bag_at hW hx1 (y := 0) (by decide)
        rw [e]
        have g0 := (hW.2.2.1 i hx1).2.2.1
        refine Wp.brf rfl (by omega) ?_
        refine Wp.g1 rfl ?_
        by_cases hir : i = r
        · subst hir
          refine Wp.brf rfl (by omega) ?_
          refine Wp.g1 rfl ?_
          refine Wp.re rfl ⟨?_, rfl, hk1'⟩
          rw [if_pos hx1, hx2]
        · refine Wp.brt rfl (by omega) ?_
          refine Wp.gt 5 rfl ?_
          rw [w32_id (x := ((r - i : Nat) : Int) + -1) ⟨by omega, by omega⟩, w32_s (n := k) (by omega), show ((r - i : Nat) : Int) + -1 = ((r - (i + 1) : Nat) : Int) by omega]
          refine ih (k + 1) (i + 1) (by omega) (by omega) (fun q hq => ?_) (fun q hq1 hq2 => ?_) (by omega) M1 hk1'
          · by_cases e : q = i
            · subst e; omega
            · have := h1 q (by omega); omega
          · have := hB i q (by omega) hq2
            omega
      · have e : rBag V nb nc (k : Int) 0 = -10001 := bag_no (fun q hq e2 => by
          by_cases g : q < i
          · have := h1 q g; omega
          · by_cases g2 : q = i
            · subst g2; exact hx ⟨hq, e2⟩
            · have a1 := hB i q (by omega) hq
              have a2 := h2 i (Nat.le_refl _) (by omega)
              omega)
        rw [e]
        refine Wp.brt rfl rfl ?_
        refine Wp.gt 5 rfl ?_
        rw [w32_s (n := k) (by omega)]
        refine ih (k + 1) i (by omega) (by omega) (fun q hq => ?_) (fun q hq1 hq2 => ?_) hi M1 hk1'
        · have := h1 q hq; omega
        · have a1 := h2 q hq1 hq2
          by_cases g2 : q = i
          · subst g2
            have : V (18 + 8 * q) ≠ (k : Int) := fun e => hx ⟨hq2, e⟩
            omega
          · have a2 := hB i q (by omega) hq2
            have a3 := h2 i (Nat.le_refl _) (by omega)
            omega
  refine Wp.gt 5 rfl ?_
  exact loop 129 1 0 (by omega) (by omega) (fun q hq => by omega) (fun q _ hq => (hW.2.2.1 q hq).1) (by omega) M (fun k _ => rfl)
theorem n_claim (hS : CS M V nb nc t) (hB : SC V nc) (h13 : V 13 ≤ 129) (r : Nat) (hr : r ≤ 12) : Wp zS0 tL_nth none 0 [zr 0, zi 0, zi r, zn, zn] [] M h (Qr (if r < nc then V (114 + 10 * r) else 0) M h) := by
  have hW := hS.2.2.2
  have loop : ∀ d k i : Nat, k + d = 130 → 1 ≤ k → (∀ q, q < i → V (114 + 10 * q) < k) → (∀ q, i ≤ q → q < nc → (k : Int) ≤ V (114 + 10 * q)) → i ≤ r → ∀ M' : Me, (∀ k, k < 61 ∨ k = 71 ∨ 74 ≤ k → M' k = M k) →
      Wp zS0 tL_nth none 5 [zr 0, zi 0, zi r, zi ((r - i : Nat) : Int), zi k] [] M' h (Qr (if r < nc then V (114 + 10 * r) else 0) M h) := by
    intro d
    induction d with
    | zero =>
      intro k i hd hk1 h1 h2 hi M' hk
      refine Wp.g1 rfl ?_
      refine Wp.brt rfl (by omega) ?_
      refine Wp.g1 rfl ?_
      refine Wp.re rfl ⟨?_, rfl, hk⟩
      rw [if_neg]
      intro q
      have e1 := h2 r hi q
      have e2 := (hW.2.2.2.1 r q).2.1
      omega
    | succ d ih =>
      intro k i hd hk1 h1 h2 hi M' hk
      refine Wp.g1 rfl ?_
      refine Wp.brf rfl (by omega) ?_
      refine Wp.g1 rfl ?_
      refine Wp.brf rfl (by omega) ?_
      refine Wp.g1 rfl ?_
      refine Wp.brt rfl rfl ?_
      refine Wp.g1 rfl ?_
      refine Wp.call rfl (c_claimOf (hS.kept (fun k g => hk k (Or.inl g))) _ _) (fun v M1 h1' q => ?_)
      obtain ⟨rfl, rfl, q3⟩ := q
      have hk1' : ∀ k, k < 61 ∨ k = 71 ∨ 74 ≤ k → M1 k = M k := fun k g => (q3 k g).trans (hk k g)
      refine Wp.g1 rfl ?_
      by_cases hx : i < nc ∧ V (114 + 10 * i) = (k : Int)
      · obtain ⟨hx1, hx2⟩ := hx
        have e : rClaimOf V nc (k : Int) 0 = V (114 + 10 * i + 1) := by
          rw [← hx2]
          exact claim_at hB hx1 (y := 0) (by decide)
        rw [e]
        have g0 := (hW.2.2.2.1 i hx1).2.2.1
        refine Wp.brf rfl (by omega) ?_
        refine Wp.g1 rfl ?_
        by_cases hir : i = r
        · subst hir
          refine Wp.brf rfl (by omega) ?_
          refine Wp.g1 rfl ?_
          refine Wp.re rfl ⟨?_, rfl, hk1'⟩
          rw [if_pos hx1, hx2]
        · refine Wp.brt rfl (by omega) ?_
          refine Wp.gt 5 rfl ?_
          rw [w32_id (x := ((r - i : Nat) : Int) + -1) ⟨by omega, by omega⟩, w32_s (n := k) (by omega), show ((r - i : Nat) : Int) + -1 = ((r - (i + 1) : Nat) : Int) by omega]
          refine ih (k + 1) (i + 1) (by omega) (by omega) (fun q hq => ?_) (fun q hq1 hq2 => ?_) (by omega) M1 hk1'
          · by_cases e : q = i
            · subst e; omega
            · have := h1 q (by omega); omega
          · have := hB i q (by omega) hq2
            omega
      · have e : rClaimOf V nc (k : Int) 0 = -10001 := claim_no (fun q hq e2 => by
          by_cases g : q < i
          · have := h1 q g; omega
          · by_cases g2 : q = i
            · subst g2; exact hx ⟨hq, e2⟩
            · have a1 := hB i q (by omega) hq
              have a2 := h2 i (Nat.le_refl _) (by omega)
              omega)
        rw [e]
        refine Wp.brt rfl rfl ?_
        refine Wp.gt 5 rfl ?_
        rw [w32_s (n := k) (by omega)]
        refine ih (k + 1) i (by omega) (by omega) (fun q hq => ?_) (fun q hq1 hq2 => ?_) hi M1 hk1'
        · have := h1 q hq; omega
        · have a1 := h2 q hq1 hq2
          by_cases g2 : q = i
          · subst g2
            have : V (114 + 10 * q) ≠ (k : Int) := fun e => hx ⟨hq2, e⟩
            omega
          · have a2 := hB i q (by omega) hq2
            have a3 := h2 i (Nat.le_refl _) (by omega)
            omega
  refine Wp.gt 5 rfl ?_
  exact loop 129 1 0 (by omega) (by omega) (fun q hq => by omega) (fun q _ hq => (hW.2.2.2.1 q hq).1) (by omega) M (fun k _ => rfl)
end NTH
end
section
/-! both tell the same matches; the law's rows of numbers are filled -/
abbrev Fr1 (M M' : Me) : Prop := ∀ k, k < 61 ∨ k = 71 ∨ k = 74 → M' k = M k
def AM (M : Me) (V : Nat → Int) (nb nc : Nat) : Prop := (∀ q, q < nb → M 75 q = V (18 + 8 * q)) ∧ ∀ q, q < nc → M 76 q = V (114 + 10 * q)
section MATCHES
variable {M : Me} {h : Ml} {V : Nat → Int} {nb nc t : Nat}
theorem m_areMatches (hS : CS M V nb nc t) (hB : SB V nb) (hC : SC V nc) (h11 : V 11 ≤ 129) (h13 : V 13 ≤ 129) : Wp zS0 tL_areMatches none 0 [zr 0, zr 75, zr 76, zn, zn, zn, zn, zn] [] M h (fun v M' h' => v = some (zi 1) ∧ h' = h ∧ Fr1 M M' ∧ AM M' V nb nc) := by
  have hW := hS.2.2.2
  have hnb := hW.1.2.2.1
  have hnc := hW.1.2.2.2
  have fin : ∀ (M' : Me) (r : Int) (y : ZV), Fr1 M M' → AM M' V nb nc → Wp zS0 tL_areMatches none 189 [zr 0, zr 75, zr 76, zi nb, zi nc, zi (rMatched V nc), zi r, y] [] M' h (fun v M' h' => v = some (zi 1) ∧ h' = h ∧ Fr1 M M' ∧ AM M' V nb nc) := by
    intro M' r y hk hA
    refine Wp.g1 rfl ?_
    refine Wp.brf rfl (by omega) ?_
    refine Wp.g1 rfl ?_
    refine Wp.brf rfl (by omega) ?_
    refine Wp.g1 rfl ?_
    have hS1 : CS M' V nb nc t := hS.kept (fun k g => hk k (Or.inl g))
    refine Wp.call rfl (c_count hS1 _) (fun v M1 h1 q => ?_)
    obtain ⟨rfl, rfl, q3⟩ := q
    refine Wp.g1 rfl ?_
    refine Wp.brf rfl (fun q => q rfl) ?_
    refine Wp.g1 rfl ?_
    have hS2 : CS M1 V nb nc t := hS1.kept (fun k g => q3 k (Or.inl g))
    refine Wp.call rfl (n_bag hS2 hB h11 nb (by omega)) (fun v M2 h2 q => ?_)
    obtain ⟨rfl, rfl, q4⟩ := q
    rw [if_neg (Nat.lt_irrefl _)]
    refine Wp.brf rfl (fun q => q rfl) ?_
    refine Wp.g1 rfl ?_
    have hS3 : CS M2 V nb nc t := hS2.kept (fun k g => q4 k (Or.inl g))
    refine Wp.call rfl (n_claim hS3 hC h13 nc (by omega)) (fun v M3 h3 q => ?_)
    obtain ⟨rfl, rfl, q5⟩ := q
    rw [if_neg (Nat.lt_irrefl _)]
    refine Wp.brf rfl (fun q => q rfl) ?_
    refine Wp.g1 rfl ?_
    have hk3 : ∀ k, k < 61 ∨ k = 71 ∨ 74 ≤ k → M3 k = M' k := fun k g => (q5 k g).trans ((q4 k g).trans (q3 k g))
    refine Wp.re rfl ⟨rfl, rfl, fun k g => (hk3 k (by omega)).trans (hk k g), fun q hq => ?_, fun q hq => ?_⟩
    · rw [hk3 75 (by omega)]; exact hA.1 q hq
    · rw [hk3 76 (by omega)]; exact hA.2 q hq
  have loop2 : ∀ d r : Nat, r + d = nc → ∀ (M' : Me) (y : ZV), Fr1 M M' → (∀ q, q < nb → M' 75 q = V (18 + 8 * q)) → (∀ q, q < r → M' 76 q = V (114 + 10 * q)) → Wp zS0 tL_areMatches none 96 [zr 0, zr 75, zr 76, zi nb, zi nc, zi (rMatched V r), zi r, y] [] M' h (fun v M' h' => v = some (zi 1) ∧ h' = h ∧ Fr1 M M' ∧ AM M' V nb nc) := by
    intro d
    induction d with
    | zero =>
      intro r hd M' y hk hA1 hA2
      have hd : r = nc := hd
      subst hd
      refine Wp.g1 rfl ?_
      refine Wp.brt rfl (by omega) ?_
      exact fin M' _ y hk ⟨hA1, hA2⟩
    | succ d ih =>
      intro r hd M' y hk hA1 hA2
      have hr : r < nc := by omega
      refine Wp.g1 rfl ?_
      refine Wp.brf rfl (by omega) ?_
      refine Wp.g1 rfl ?_
      refine Wp.brf rfl (by omega) ?_
      refine Wp.g1 rfl ?_
      have hS1 : CS M' V nb nc t := hS.kept (fun k g => hk k (Or.inl g))
      refine Wp.call rfl (n_claim hS1 hC h13 r (by omega)) (fun v M1 h1 q => ?_)
      obtain ⟨rfl, rfl, q3⟩ := q
      rw [if_pos hr]
      refine Wp.sto rfl rfl r rfl (by omega) ?_
      have a75 : (upd2 M1 76 r (V (114 + 10 * r))) 75 = M' 75 := by rw [upd2_ne (by decide)]; exact q3 75 (by omega)
      have a76 : ∀ q, q < r + 1 → (upd2 M1 76 r (V (114 + 10 * r))) 76 q = V (114 + 10 * q) := fun q hq => by
        by_cases e : q = r
        · subst e; exact upd2_at
        · rw [upd2_off e, q3 76 (by omega)]; exact hA2 q (by omega)
      have ak : Fr1 M (upd2 M1 76 r (V (114 + 10 * r))) := fun k g => by rw [upd2_ne (by omega)]; exact (q3 k (by omega)).trans (hk k g)
      generalize upd2 M1 76 r (V (114 + 10 * r)) = M2 at a75 a76 ak
      have hS2 : CS M2 V nb nc t := hS.kept (fun k g => ak k (Or.inl g))
      refine Wp.g1 rfl ?_
      refine Wp.ld rfl rfl r rfl (by omega) ?_
      rw [a76 r (by omega)]
      refine Wp.g1 rfl ?_
      refine Wp.call rfl (c_claimOf hS2 _ _) (fun v M3 h3 q => ?_)
      obtain ⟨rfl, rfl, q4⟩ := q
      rw [claim_8 hC hr]
      have hp1 := (hW.2.2.2.1 r hr).1
      have es : rMatched V (r + 1) = rMatched V r + (if V (114 + 10 * r + 9) = 0 then 0 else 1) := rfl
      have hbd : 0 ≤ rMatched V r ∧ rMatched V r ≤ r := sumI_bd r (fun j _ => by by_cases g : V (114 + 10 * j + 9) = 0 <;> simp [g])
      refine Wp.g1 rfl ?_
      by_cases h0 : V (114 + 10 * r + 9) = 0
      · rw [(pt_free hW hr).mpr h0]
        rw [if_pos h0] at es
        refine Wp.brf rfl (fun q => q rfl) ?_
        refine Wp.g1 rfl ?_
        refine Wp.ld rfl rfl r rfl (by omega) ?_
        rw [q4 76 (by omega), a76 r (by omega)]
        refine Wp.brf rfl (by omega) ?_
        refine Wp.g1 rfl ?_
        refine Wp.brt rfl rfl ?_
        refine Wp.gt 96 rfl ?_
        rw [w32_id (x := rMatched V r + 0) ⟨by omega, by omega⟩, ← es, w32_s (n := r) (by omega)]
        exact ih (r + 1) (by omega) M3 _ (fun k g => (q4 k (by omega)).trans (ak k g)) (fun q hq => by rw [q4 75 (by omega), a75]; exact hA1 q hq) (fun q hq => by rw [q4 76 (by omega)]; exact a76 q hq)
      · have hne : pt V r ≠ -10006 := fun e => h0 ((pt_free hW hr).mp e)
        rw [if_neg h0] at es
        refine Wp.brt rfl hne ?_
        refine Wp.g1 rfl ?_
        refine Wp.ld rfl rfl r rfl (by omega) ?_
        rw [q4 76 (by omega), a76 r (by omega)]
        refine Wp.brf rfl (by omega) ?_
        refine Wp.g1 rfl ?_
        refine Wp.brf rfl hne ?_
        refine Wp.g1 rfl ?_
        have hS3 : CS M3 V nb nc t := hS2.kept (fun k g => q4 k (Or.inl g))
        refine Wp.call rfl (c_bag hS3 _ _) (fun v M4 h4 q => ?_)
        obtain ⟨rfl, rfl, q5⟩ := q
        obtain ⟨b, b1, b2, b3⟩ := pt_bag hW hr h0
        rw [pt_val h0, ← b2, bag_7 hW b1, b3]
        refine Wp.g1 rfl ?_
        refine Wp.ld rfl rfl r rfl (by omega) ?_
        rw [q5 76 (by omega), q4 76 (by omega), a76 r (by omega)]
        refine Wp.brt rfl rfl ?_
        refine Wp.gt 96 rfl ?_
        rw [w32_id (x := rMatched V r + 1) ⟨by omega, by omega⟩, ← es, w32_s (n := r) (by omega)]
        exact ih (r + 1) (by omega) M4 _ (fun k g => (q5 k (by omega)).trans ((q4 k (by omega)).trans (ak k g))) (fun q hq => by rw [q5 75 (by omega), q4 75 (by omega), a75]; exact hA1 q hq) (fun q hq => by rw [q5 76 (by omega), q4 76 (by omega)]; exact a76 q hq)
  have loop1 : ∀ d r : Nat, r + d = nb → ∀ (M' : Me) (y : ZV), Fr1 M M' → (∀ q, q < r → M' 75 q = V (18 + 8 * q)) → Wp zS0 tL_areMatches none 19 [zr 0, zr 75, zr 76, zi nb, zi nc, zi 0, zi r, y] [] M' h (fun v M' h' => v = some (zi 1) ∧ h' = h ∧ Fr1 M M' ∧ AM M' V nb nc) := by
    intro d
    induction d with
    | zero =>
      intro r hd M' y hk hA1
      have hd : r = nb := hd
      subst hd
      refine Wp.g1 rfl ?_
      refine Wp.brt rfl (by omega) ?_
      refine Wp.gt 96 rfl ?_
      exact loop2 nc 0 (by omega) M' y hk hA1 (fun q hq => by omega)
    | succ d ih =>
      intro r hd M' y hk hA1
      have hr : r < nb := by omega
      refine Wp.g1 rfl ?_
      refine Wp.brf rfl (by omega) ?_
      refine Wp.g1 rfl ?_
      refine Wp.brf rfl (by omega) ?_
      refine Wp.g1 rfl ?_
      have hS1 : CS M' V nb nc t := hS.kept (fun k g => hk k (Or.inl g))
      refine Wp.call rfl (n_bag hS1 hB h11 r (by omega)) (fun v M1 h1 q => ?_)
      obtain ⟨rfl, rfl, q3⟩ := q
      rw [if_pos hr]
      refine Wp.sto rfl rfl r rfl (by omega) ?_
      have a75 : ∀ q, q < r + 1 → (upd2 M1 75 r (V (18 + 8 * r))) 75 q = V (18 + 8 * q) := fun q hq => by
        by_cases e : q = r
        · subst e; exact upd2_at
        · rw [upd2_off e, q3 75 (by omega)]; exact hA1 q (by omega)
      have ak : Fr1 M (upd2 M1 75 r (V (18 + 8 * r))) := fun k g => by rw [upd2_ne (by omega)]; exact (q3 k (by omega)).trans (hk k g)
      generalize upd2 M1 75 r (V (18 + 8 * r)) = M2 at a75 ak
      have hS2 : CS M2 V nb nc t := hS.kept (fun k g => ak k (Or.inl g))
      refine Wp.g1 rfl ?_
      refine Wp.ld rfl rfl r rfl (by omega) ?_
      rw [a75 r (by omega)]
      refine Wp.g1 rfl ?_
      refine Wp.call rfl (c_bag hS2 _ _) (fun v M3 h3 q => ?_)
      obtain ⟨rfl, rfl, q4⟩ := q
      rw [bag_7 hW hr]
      have hp1 := (hW.2.2.1 r hr).1
      refine Wp.g1 rfl ?_
      refine Wp.ld rfl rfl r rfl (by omega) ?_
      rw [q4 75 (by omega), a75 r (by omega)]
      refine Wp.brf rfl (by omega) ?_
      refine Wp.g1 rfl ?_
      by_cases h0 : cw V nc r = -10006
      · refine Wp.brt rfl h0 ?_
        refine Wp.gt 19 rfl ?_
        rw [w32_s (n := r) (by omega)]
        exact ih (r + 1) (by omega) M3 _ (fun k g => (q4 k (by omega)).trans (ak k g)) (fun q hq => by rw [q4 75 (by omega)]; exact a75 q hq)
      · refine Wp.brf rfl h0 ?_
        obtain ⟨c, c1, c2, c3⟩ := cw_claim h0
        refine Wp.g1 rfl ?_
        have hS3 : CS M3 V nb nc t := hS2.kept (fun k g => q4 k (Or.inl g))
        refine Wp.call rfl (c_claimOf hS3 _ _) (fun v M4 h4 q => ?_)
        obtain ⟨rfl, rfl, q5⟩ := q
        have e8 : rClaimOf V nc (cw V nc r) 8 = V (18 + 8 * r) := by rw [c2, claim_8 hC c1, pt_val (by omega), c3]
        rw [e8]
        refine Wp.g1 rfl ?_
        refine Wp.ld rfl rfl r rfl (by omega) ?_
        rw [q5 75 (by omega), q4 75 (by omega), a75 r (by omega)]
        refine Wp.brt rfl rfl ?_
        refine Wp.gt 19 rfl ?_
        rw [w32_s (n := r) (by omega)]
        exact ih (r + 1) (by omega) M4 _ (fun k g => (q5 k (by omega)).trans ((q4 k (by omega)).trans (ak k g))) (fun q hq => by rw [q5 75 (by omega), q4 75 (by omega)]; exact a75 q hq)
  refine Wp.g1 rfl ?_
  refine Wp.call rfl (c_count hS _) (fun v M1 h1 q => ?_)
  obtain ⟨rfl, rfl, q3⟩ := q
  refine Wp.g1 rfl ?_
  have hS1 : CS M1 V nb nc t := hS.kept (fun k g => q3 k (Or.inl g))
  refine Wp.call rfl (c_count hS1 _) (fun v M2 h2 q => ?_)
  obtain ⟨rfl, rfl, q4⟩ := q
  refine Wp.gt 19 rfl ?_
  exact loop1 nb 0 (by omega) M2 zn (fun k g => (q4 k (by omega)).trans (q3 k (by omega))) (fun q hq => by omega)
end MATCHES
end
section
/-! a score is the sum of its parts -/
theorem sm_key : ∀ (b0 b1 b2 b3 b4 b5 : Bool), ∀ i : Nat, i < 64 → bAnd ((ms (fun k => (match k with | 0 => b0 | 1 => b1 | 2 => b2 | 3 => b3 | 4 => b4 | _ => b5) && decide (ib (i : Int) (k : Int) = 0)) 6 : Nat) : Int) (i : Int) = 0 := by decide +kernel
theorem sm (e : Nat → Bool) (i : Nat) (hi : i < 64) : bAnd ((ms (fun k => e k && decide (ib (i : Int) (k : Int) = 0)) 6 : Nat) : Int) (i : Int) = 0 := sm_key (e 0) (e 1) (e 2) (e 3) (e 4) (e 5) i hi
section SCORE
variable {M : Me} {h : Ml} {V : Nat → Int} {nb nc t c b : Nat}
theorem scN_late (hl : V (18 + 8 * b + 7) < V (114 + 10 * c + 8)) (i : Nat) : scN V c b i = -10006 := if_pos hl
theorem scN_not (hl : ¬ V (18 + 8 * b + 7) < V (114 + 10 * c + 8)) (i : Nat) : scN V c b i = scI V c b i := if_neg hl
theorem scN_iff (hW : WF V nb nc t) (hc : c < nc) (hb : b < nb) (i : Nat) : scN V c b i = -10006 ↔ V (18 + 8 * b + 7) < V (114 + 10 * c + 8) := by
  constructor
  · intro e
    refine Classical.byContradiction (fun hl => ?_)
    rw [scN_not hl] at e
    have := scI_bd hW hc hb (by omega) i
    omega
  · intro hl
    exact scN_late hl i
theorem m_isScore (hS : CS M V nb nc t) (hC : SC V nc) (hc : c < nc) (hb : b < nb) (th : Int) (hth : 0 ≤ th) : Wp zS0 tL_isScore none 0 [zr 0, zi (V (114 + 10 * c)), zi (V (18 + 8 * b)), zi th, zn, zn, zn, zn, zn] [] M h (Qr 1 M h) := by
  have hW := hS.2.2.2
  have fin : ∀ (M' : Me) (sum p : Int) (y7 y8 : ZV), (∀ k, k < 61 ∨ k = 71 ∨ 74 ≤ k → M' k = M k) → (V (18 + 8 * b + 7) < V (114 + 10 * c + 8) ∨ sum = scN V c b 0) → Wp zS0 tL_isScore none 76 [zr 0, zi (V (114 + 10 * c)), zi (V (18 + 8 * b)), zi th, zi (scN V c b 0), zi sum, zi p, y7, y8] [] M' h (Qr 1 M h) := by
    intro M' sum p y7 y8 hk hs
    have hS0 : CS M' V nb nc t := hS.kept (fun k g => hk k (Or.inl g))
    refine Wp.g1 rfl ?_
    refine Wp.call rfl (c_bag hS0 _ _) (fun v M1 h1 q => ?_)
    obtain ⟨rfl, rfl, q1⟩ := q
    have e6 : rBag V nb nc (V (18 + 8 * b)) 6 = V (18 + 8 * b + 7) := bag_at hW hb (y := 6) (by decide)
    rw [e6]
    have hS1 : CS M1 V nb nc t := hS0.kept (fun k g => q1 k (Or.inl g))
    refine Wp.g1 rfl ?_
    refine Wp.call rfl (c_claimOf hS1 _ _) (fun v M2 h2 q => ?_)
    obtain ⟨rfl, rfl, q2⟩ := q
    have e7 : rClaimOf V nc (V (114 + 10 * c)) 7 = V (114 + 10 * c + 8) := claim_at hC hc (y := 7) (by decide)
    rw [e7]
    have hS2 : CS M2 V nb nc t := hS1.kept (fun k g => q2 k (Or.inl g))
    have eT : rThreshold V nb nc (V (114 + 10 * c)) (V (18 + 8 * b)) = if scN V c b 0 < 0 then -10006 else min (scN V c b 0) 200 := by
      unfold rThreshold
      rw [rkC_at hC hc, rkB_at hW hb, if_pos ⟨hc, hb⟩]
    have eD : ∃ m : Nat, m < 64 ∧ rSame V nb nc (V (114 + 10 * c)) (V (18 + 8 * b)) = (m : Int) ∧ bAnd (m : Int) (V (18 + 8 * b + 3)) = 0 := by
      unfold rSame
      rw [rkC_at hC hc, rkB_at hW hb, if_pos ⟨hc, hb⟩]
      obtain ⟨i, hi⟩ := Int.eq_ofNat_of_zero_le (hW.2.2.1 b hb).2.2.2.2.1.1
      have hi2 := (hW.2.2.1 b hb).2.2.2.2.1.2
      rw [hi] at hi2 ⊢
      refine ⟨_, ms_lt _ 6, rfl, ?_⟩
      exact sm _ i (by omega)
    obtain ⟨m, m1, m2, m3⟩ := eD
    -- behind isLate
    have rest : ∀ il : Int, (il = if V (18 + 8 * b + 7) < V (114 + 10 * c + 8) then 1 else 0) → Wp zS0 tL_isScore none 98 [zr 0, zi (V (114 + 10 * c)), zi (V (18 + 8 * b)), zi th, zi (scN V c b 0), zi sum, zi p, y7, y8] [zi il] M2 h2 (Qr 1 M h2) := by
      intro il hil
      refine Wp.g1 rfl ?_
      refine Wp.call rfl (c_thresholdFor hS2 _ _) (fun v M3 h3 q => ?_)
      obtain ⟨rfl, rfl, q3⟩ := q
      have hS3 : CS M3 V nb nc t := hS2.kept (fun k g => q3 k (Or.inl g))
      refine Wp.g1 rfl ?_
      refine Wp.call rfl (c_same hS3 _ _) (fun v M4 h4 q => ?_)
      obtain ⟨rfl, rfl, q4⟩ := q
      have hS4 : CS M4 V nb nc t := hS3.kept (fun k g => q4 k (Or.inl g))
      have hk4 : ∀ k, k < 61 ∨ k = 71 ∨ 74 ≤ k → M4 k = M k := fun k g => (q4 k g).trans ((q3 k g).trans ((q2 k g).trans ((q1 k g).trans (hk k g))))
      rw [eT, m2]
      -- from 146 on
      have r2 : Wp zS0 tL_isScore none 146 [zr 0, zi (V (114 + 10 * c)), zi (V (18 + 8 * b)), zi th, zi (scN V c b 0), zi sum, zi il, zi (if scN V c b 0 < 0 then -10006 else min (scN V c b 0) 200), zi m] [] M4 h4 (Qr 1 M h4) := by
        have r3 : ∀ x : Int, x = (if scN V c b 0 < 0 then -10006 else min (scN V c b 0) 200) → Wp zS0 tL_isScore none 175 [zr 0, zi (V (114 + 10 * c)), zi (V (18 + 8 * b)), zi th, zi (scN V c b 0), zi sum, zi il, zi (if scN V c b 0 < 0 then -10006 else min (scN V c b 0) 200), zi m] [zi x, zi (if scN V c b 0 < 0 then -10006 else min (scN V c b 0) 200)] M4 h4 (Qr 1 M h4) := by
          intro x hx
          refine Wp.brf rfl (fun q => q hx.symm) ?_
          refine Wp.g1 rfl ?_
          refine Wp.brf rfl (by omega) ?_
          refine Wp.g1 rfl ?_
          refine Wp.brf rfl (by omega) ?_
          refine Wp.g1 rfl ?_
          refine Wp.call rfl (c_bag hS4 _ _) (fun v M5 h5 q => ?_)
          obtain ⟨rfl, rfl, q5⟩ := q
          have e2 : rBag V nb nc (V (18 + 8 * b)) 2 = V (18 + 8 * b + 3) := bag_at hW hb (y := 2) (by decide)
          rw [e2]
          refine Wp.g1 rfl ?_
          rw [m3]
          refine Wp.brf rfl (fun q => q rfl) ?_
          refine Wp.g1 rfl ?_
          refine Wp.brf rfl (by omega) ?_
          refine Wp.g1 rfl ?_
          exact Wp.re rfl ⟨rfl, rfl, fun k g => (q5 k g).trans (hk4 k g)⟩
        refine Wp.g1 rfl ?_
        by_cases g0 : scN V c b 0 < 0
        · refine Wp.brf rfl (by omega) ?_
          refine Wp.gt 175 rfl ?_
          exact r3 _ (by rw [if_pos g0])
        · refine Wp.brt rfl (by omega) ?_
          refine Wp.g1 rfl ?_
          by_cases g1 : 200 ≤ scN V c b 0
          · refine Wp.brt rfl g1 ?_
            refine Wp.gt 175 rfl ?_
            exact r3 _ (by rw [if_neg g0]; omega)
          · refine Wp.brf rfl g1 ?_
            refine Wp.gt 175 rfl ?_
            exact r3 _ (by rw [if_neg g0]; omega)
      refine Wp.g1 rfl ?_
      by_cases hl : V (18 + 8 * b + 7) < V (114 + 10 * c + 8)
      · rw [if_pos hl] at hil
        subst hil
        refine Wp.brf rfl (fun q => q (scN_late hl 0)) ?_
        refine Wp.g1 rfl ?_
        refine Wp.brf rfl (fun q => q rfl) ?_
        refine Wp.g1 rfl ?_
        refine Wp.brt rfl (by decide) ?_
        exact r2
      · rw [if_neg hl] at hil
        subst hil
        have hne : scN V c b 0 ≠ -10006 := fun e => hl ((scN_iff hW hc hb 0).mp e)
        refine Wp.brt rfl hne ?_
        refine Wp.g1 rfl ?_
        refine Wp.brf rfl (fun q => q rfl) ?_
        refine Wp.g1 rfl ?_
        refine Wp.brf rfl (fun q => q rfl) ?_
        refine Wp.g1 rfl ?_
        refine Wp.brf rfl (fun q => q (hs.resolve_left hl)) ?_
        exact r2
    by_cases hl : V (18 + 8 * b + 7) < V (114 + 10 * c + 8)
    · refine Wp.brf rfl (by omega) ?_
      refine Wp.gt 98 rfl ?_
      exact rest 1 (by rw [if_pos hl])
    · refine Wp.brt rfl (by omega) ?_
      refine Wp.gt 98 rfl ?_
      exact rest 0 (by rw [if_neg hl])
  have loop : ∀ d p : Nat, p + d = 7 → 1 ≤ p → ∀ (M' : Me) (sum : Int) (y7 y8 : ZV), (∀ k, k < 61 ∨ k = 71 ∨ 74 ≤ k → M' k = M k) → (V (18 + 8 * b + 7) < V (114 + 10 * c + 8) ∨ sum = scS (scP V c b) p) → Wp zS0 tL_isScore none 15 [zr 0, zi (V (114 + 10 * c)), zi (V (18 + 8 * b)), zi th, zi (scN V c b 0), zi sum, zi p, y7, y8] [] M' h (Qr 1 M h) := by
    intro d
    induction d with
    | zero =>
      intro p hd hp M' sum y7 y8 hk hs
      have hd : p = 7 := hd
      subst hd
      refine Wp.g1 rfl ?_
      refine Wp.brt rfl (by omega) ?_
      refine fin M' sum _ y7 y8 hk ?_
      by_cases hl : V (18 + 8 * b + 7) < V (114 + 10 * c + 8)
      · exact Or.inl hl
      · refine Or.inr ?_
        rw [scN_not hl, hs.resolve_left hl]; rfl
    | succ d ih =>
      intro p hd hp M' sum y7 y8 hk hs
      have hS0 : CS M' V nb nc t := hS.kept (fun k g => hk k (Or.inl g))
      refine Wp.g1 rfl ?_
      refine Wp.brf rfl (by omega) ?_
      refine Wp.g1 rfl ?_
      refine Wp.call rfl (c_score hS0 _ _ _) (fun v M1 h1 q => ?_)
      obtain ⟨rfl, rfl, q1⟩ := q
      have hk1 : ∀ k, k < 61 ∨ k = 71 ∨ 74 ≤ k → M1 k = M k := fun k g => (q1 k g).trans (hk k g)
      rw [score_at hW hC hc hb (z := p) (by omega)]
      refine Wp.g1 rfl ?_
      by_cases hl : V (18 + 8 * b + 7) < V (114 + 10 * c + 8)
      · refine Wp.brf rfl (fun q => q (scN_late hl p)) ?_
        refine Wp.g1 rfl ?_
        refine Wp.brf rfl (fun q => q (scN_late hl 0)) ?_
        refine Wp.g1 rfl ?_
        refine Wp.brt rfl rfl ?_
        refine Wp.gt 15 rfl ?_
        rw [w32_s (n := p) (by omega)]
        exact ih (p + 1) (by omega) (by omega) M1 _ _ y8 hk1 (Or.inl hl)
      · have hn0 : scN V c b 0 ≠ -10006 := fun e => hl ((scN_iff hW hc hb 0).mp e)
        have hnp : scN V c b p ≠ -10006 := fun e => hl ((scN_iff hW hc hb p).mp e)
        have bp1 := scP_bd hW hc hb (by omega)
        have bs1 := scS_bd bp1 p
        have ep : scN V c b p = scP V c b p := by
          rw [scN_not hl]; unfold scI; rw [if_neg (by omega)]
        have hs := hs.resolve_left hl
        have bpp := bp1 p
        refine Wp.brt rfl hnp ?_
        refine Wp.g1 rfl ?_
        refine Wp.brt rfl hn0 ?_
        refine Wp.g1 rfl ?_
        refine Wp.brt rfl rfl ?_
        refine Wp.gt 15 rfl ?_
        rw [w32_s (n := p) (by omega), ep, w32_id (x := sum + scP V c b p) ⟨by omega, by omega⟩]
        refine ih (p + 1) (by omega) (by omega) M1 _ _ y8 hk1 (Or.inr ?_)
        show _ = scS (scP V c b) p + (if p = 0 then 0 else scP V c b p)
        rw [if_neg (by omega), hs]
  refine Wp.g1 rfl ?_
  refine Wp.call rfl (c_score hS _ _ _) (fun v M1 h1 q => ?_)
  obtain ⟨rfl, rfl, q1⟩ := q
  have e0 : rScore V nb nc (V (114 + 10 * c)) (V (18 + 8 * b)) 0 = scN V c b 0 := score_at hW hC hc hb (z := 0) (by decide)
  rw [e0]
  refine Wp.gt 15 rfl ?_
  refine loop 6 1 (by omega) (by omega) M1 0 _ _ q1 (Or.inr ?_)
  rfl
end SCORE
end
section
/-! how many rows are better: an order of the likely ones -/
def btr (l : Nat → Int) (o b : Nat) : Prop := 0 < l o - l b ∨ (l o - l b = 0 ∧ o < b)
def due (l : Nat → Int) : Nat → Int := sumI (fun o => if l o = -1 then 0 else 1)
theorem sumI_const : ∀ n : Nat, sumI (fun _ => 1) n = (n : Int) := by
  intro n
  induction n with
  | zero => rfl
  | succ n ih => show sumI (fun _ => 1) n + 1 = _; rw [ih]; omega
section ORDER
variable {l : Nat → Int} {n : Nat}
theorem bet_nn (b : Nat) : 0 ≤ bet l b n := by
  have := sumI_le (f := fun _ => (0 : Int)) (g := fun o => if 0 < l o - l b ∨ (l o - l b = 0 ∧ o < b) then 1 else 0) n (fun j _ => by
    show 0 ≤ if 0 < l j - l b ∨ (l j - l b = 0 ∧ j < b) then (1 : Int) else 0
    split <;> decide)
  rw [sumI_zero] at this
  exact this
theorem btr_tot {o b : Nat} (h : o ≠ b) : btr l o b ∨ btr l b o := by unfold btr; omega
theorem bet_lt {o b : Nat} (ho : o < n) (h : btr l o b) : bet l o n + 1 ≤ bet l b n := by
  have e1 : sumI (fun x => if x = o then 1 else 0) n = 1 := by
    rw [sumI_one (f := fun x => if x = o then 1 else 0) (k := o) n ho (fun j _ hne => if_neg hne), if_pos rfl]
  have e2 := sumI_add (fun x => if 0 < l x - l o ∨ (l x - l o = 0 ∧ x < o) then 1 else 0) (fun x => if x = o then 1 else 0) n
  have e3 := sumI_le (f := fun x => (if 0 < l x - l o ∨ (l x - l o = 0 ∧ x < o) then 1 else 0) + (if x = o then 1 else 0)) (g := fun x => if 0 < l x - l b ∨ (l x - l b = 0 ∧ x < b) then 1 else 0) n (fun j _ => by
    show (if 0 < l j - l o ∨ (l j - l o = 0 ∧ j < o) then (1 : Int) else 0) + (if j = o then 1 else 0) ≤ if 0 < l j - l b ∨ (l j - l b = 0 ∧ j < b) then (1 : Int) else 0
    unfold btr at h
    by_cases g : j = o
    · subst g
      rw [if_neg (by omega), if_pos rfl, if_pos h]
      decide
    · rw [if_neg g]
      by_cases g2 : 0 < l j - l o ∨ (l j - l o = 0 ∧ j < o)
      · rw [if_pos g2, if_pos (by omega)]
        decide
      · rw [if_neg g2]
        split <;> decide)
  unfold bet
  omega
theorem bet_due {b : Nat} (hl : ∀ o, -1 ≤ l o) (hb : b < n) (h : l b ≠ -1) : bet l b n + 1 ≤ due l n := by
  have e1 : sumI (fun x => if x = b then 1 else 0) n = 1 := by
    rw [sumI_one (f := fun x => if x = b then 1 else 0) (k := b) n hb (fun j _ hne => if_neg hne), if_pos rfl]
  have e2 := sumI_add (fun x => if 0 < l x - l b ∨ (l x - l b = 0 ∧ x < b) then 1 else 0) (fun x => if x = b then 1 else 0) n
  have e3 := sumI_le (f := fun x => (if 0 < l x - l b ∨ (l x - l b = 0 ∧ x < b) then 1 else 0) + (if x = b then 1 else 0)) (g := fun x => if l x = -1 then 0 else 1) n (fun j _ => by
    show (if 0 < l j - l b ∨ (l j - l b = 0 ∧ j < b) then (1 : Int) else 0) + (if j = b then 1 else 0) ≤ if l j = -1 then 0 else 1
    have hb1 := hl b
    by_cases g : j = b
    · subst g
      rw [if_neg (by omega), if_pos rfl, if_neg h]
      decide
    · rw [if_neg g]
      by_cases g2 : 0 < l j - l b ∨ (l j - l b = 0 ∧ j < b)
      · rw [if_pos g2, if_neg (by omega)]
        decide
      · rw [if_neg g2]
        split <;> decide)
  unfold bet due
  omega
theorem bet_inj {b b' : Nat} (hb : b < n) (hb' : b' < n) (h : bet l b n = bet l b' n) : b = b' := by
  refine Classical.byContradiction (fun hne => ?_)
  rcases btr_tot (l := l) hne with g | g
  · have := bet_lt hb g; omega
  · have := bet_lt hb' g; omega
theorem bet_bt {b b' : Nat} (hb' : b' < n) (h : bet l b n < bet l b' n) : btr l b b' := by
  rcases btr_tot (l := l) (o := b) (b := b') (fun e => by rw [e] at h; omega) with g | g
  · exact g
  · have := bet_lt hb' g; omega
theorem due_bd : 0 ≤ due l n ∧ due l n ≤ n := sumI_bd n (fun j _ => by by_cases g : l j = -1 <;> simp [g])
theorem bet_ex (hl : ∀ o, -1 ≤ l o) {k d : Nat} (hd : due l n = (d : Int)) (hk : k < d) : ∃ b, b < n ∧ l b ≠ -1 ∧ bet l b n = (k : Int) := by
  refine Classical.byContradiction (fun hno => ?_)
  have h1 : sumI (fun k' => sumI (fun b => if l b ≠ -1 ∧ bet l b n = ((k' : Nat) : Int) then 1 else 0) n) d = (d : Int) := by
    rw [sumI_swap, ← hd]
    refine sumI_congr n (fun b hb => ?_)
    by_cases g : l b = -1
    · rw [if_pos g]
      have : sumI (fun i => if l b ≠ -1 ∧ bet l b n = ((i : Nat) : Int) then 1 else 0) d = sumI (fun _ => 0) d := sumI_congr d (fun i _ => if_neg (fun q => q.1 g))
      rw [this, sumI_zero]
    · rw [if_neg g]
      have a1 := bet_nn (l := l) (n := n) b
      have a2 := bet_due hl hb g
      obtain ⟨m, hm⟩ := Int.eq_ofNat_of_zero_le a1
      rw [sumI_one (f := fun i => if l b ≠ -1 ∧ bet l b n = ((i : Nat) : Int) then 1 else 0) (k := m) d (by omega) (fun j _ hne => if_neg (fun q => by have := q.2; omega)), if_pos ⟨g, hm⟩]
  have h2 : ∀ k', sumI (fun b => if l b ≠ -1 ∧ bet l b n = ((k' : Nat) : Int) then 1 else 0) n ≤ 1 := fun k' => by
    by_cases g : ∃ b, b < n ∧ l b ≠ -1 ∧ bet l b n = (k' : Int)
    · obtain ⟨b, g1, g2, g3⟩ := g
      rw [sumI_one (f := fun b => if l b ≠ -1 ∧ bet l b n = ((k' : Nat) : Int) then 1 else 0) (k := b) n g1 (fun j hj hne => if_neg (fun q => hne (bet_inj hj g1 (q.2.trans g3.symm)))), if_pos ⟨g2, g3⟩]
      decide
    · have : sumI (fun b => if l b ≠ -1 ∧ bet l b n = ((k' : Nat) : Int) then 1 else 0) n = sumI (fun _ => 0) n := sumI_congr n (fun b hb => if_neg (fun q => g ⟨b, hb, q⟩))
      rw [this, sumI_zero]
      decide
  have h3 : sumI (fun b => if l b ≠ -1 ∧ bet l b n = ((k : Nat) : Int) then 1 else 0) n = 0 := by
    have : sumI (fun b => if l b ≠ -1 ∧ bet l b n = ((k : Nat) : Int) then 1 else 0) n = sumI (fun _ => 0) n := sumI_congr n (fun b hb => if_neg (fun q => hno ⟨b, hb, q⟩))
    rw [this, sumI_zero]
  have e1 : sumI (fun x => if x = k then 1 else 0) d = 1 := by
    rw [sumI_one (f := fun x => if x = k then 1 else 0) (k := k) d hk (fun j _ hne => if_neg hne), if_pos rfl]
  have e2 := sumI_add (fun k' => sumI (fun b => if l b ≠ -1 ∧ bet l b n = ((k' : Nat) : Int) then 1 else 0) n) (fun x => if x = k then 1 else 0) d
  have e3 := sumI_le (f := fun k' => sumI (fun b => if l b ≠ -1 ∧ bet l b n = ((k' : Nat) : Int) then 1 else 0) n + (if k' = k then 1 else 0)) (g := fun _ => 1) d (fun j _ => by
    show sumI (fun b => if l b ≠ -1 ∧ bet l b n = ((j : Nat) : Int) then 1 else 0) n + (if j = k then 1 else 0) ≤ 1
    by_cases g : j = k
    · subst g
      rw [if_pos rfl, h3]
      decide
    · rw [if_neg g]
      have := h2 j
      omega)
  rw [sumI_const] at e3
  omega
/-- the first row of a rank -/
theorem sg_some (hl : ∀ o, -1 ≤ l o) {k d : Nat} (hd : due l 12 = (d : Int)) (hk : k < d) : sgF l (k : Int) 12 < 12 ∧ l (sgF l (k : Int) 12) ≠ -1 ∧ bet l (sgF l (k : Int) 12) 12 = (k : Int) := by
  unfold sgF
  rcases fnd_spec (f := fun b => if l b ≠ -1 ∧ bet l b 12 = (k : Int) then 1 else 0) (x := 1) (n := 12) with ⟨h1, h2, h3⟩ | ⟨h1, h2⟩
  · refine ⟨h1, ?_⟩
    by_cases g : l (fnd (fun b => if l b ≠ -1 ∧ bet l b 12 = (k : Int) then 1 else 0) 1 12) ≠ -1 ∧ bet l (fnd (fun b => if l b ≠ -1 ∧ bet l b 12 = (k : Int) then 1 else 0) 1 12) 12 = (k : Int)
    · exact g
    · rw [if_neg g] at h2
      exact absurd h2 (by decide)
  · exfalso
    obtain ⟨b, b1, b2⟩ := bet_ex hl hd hk
    exact h2 b b1 (if_pos b2)
theorem sg_none {x : Int} (h : ∀ b, b < 12 → l b ≠ -1 → bet l b 12 ≠ x) : sgF l x 12 = 12 := by
  unfold sgF
  refine fnd_none (fun b hb e => ?_)
  by_cases g : l b ≠ -1 ∧ bet l b 12 = x
  · exact h b hb g.1 g.2
  · rw [if_neg g] at e
    exact absurd e (by decide)
end ORDER
end
section
/-! suggestions are likely, free and sorted, and they are all that there are -/
section SUGG
variable {M : Me} {h : Ml} {V : Nat → Int} {nb nc t c b : Nat}
theorem lk_some (h : lkG V nb nc c b ≠ -1) : b < nb ∧ cw V nc b = -10006 ∧ ¬ V (18 + 8 * b + 7) < V (114 + 10 * c + 8) ∧ V 1 ≤ scN V c b 0 ∧ lkG V nb nc c b = scN V c b 0 := by
  unfold lkG at h ⊢
  by_cases g : b < nb ∧ cw V nc b = -10006 ∧ V (114 + 10 * c + 8) ≤ V (18 + 8 * b + 7) ∧ V 1 ≤ scI V c b 0
  · rw [if_pos g, scN_not (by omega)]
    exact ⟨g.1, g.2.1, by omega, g.2.2.2, rfl⟩
  · rw [if_neg g] at h
    exact absurd rfl h
theorem lk_iff (hW : WF V nb nc t) (hc : c < nc) (hb : b < nb) : lkG V nb nc c b ≠ -1 ↔ cw V nc b = -10006 ∧ V 1 ≤ scN V c b 0 := by
  have h1 := hW.2.1.2.1
  constructor
  · intro h
    obtain ⟨a1, a2, a3, a4, -⟩ := lk_some h
    exact ⟨a2, a4⟩
  · intro ⟨a1, a2⟩
    have hl : ¬ V (18 + 8 * b + 7) < V (114 + 10 * c + 8) := fun hl => by
      rw [scN_late hl] at a2; omega
    rw [scN_not hl] at a2
    unfold lkG
    rw [if_pos ⟨hb, a1, by omega, a2⟩]
    omega
theorem sug_at (hC : SC V nc) (hc : c < nc) (y : Int) : rSuggest V nb nc (V (114 + 10 * c)) y = if sgF (lkG V nb nc c) y 12 < 12 then V (18 + 8 * sgF (lkG V nb nc c) y 12) else -10001 := by
  unfold rSuggest
  rw [rkC_at hC hc, if_pos hc]
theorem m_areSuggested (hS : CS M V nb nc t) (hB : SB V nb) (hC : SC V nc) (h11 : V 11 ≤ 129) (hc : c < nc) : Wp zS0 tL_areSuggested none 0 [zr 0, zi (V (114 + 10 * c)), zi (V 1), zn, zn, zn, zn, zn, zn] [] M h (Qr 1 M h) := by
  have hW := hS.2.2.2
  have hnb := hW.1.2.2.1
  have hth := hW.2.1.2.1
  have hl : ∀ o, -1 ≤ lkG V nb nc c o := fun o => (lkG_bd hW hc o).1
  have dd := due_bd (l := lkG V nb nc c) (n := 12)
  obtain ⟨d, hd⟩ := Int.eq_ofNat_of_zero_le dd.1
  have hd12 : d ≤ 12 := by omega
  have enb : due (lkG V nb nc c) nb = (d : Int) := by
    have := sumI_tail (f := fun o => if lkG V nb nc c o = -1 then 0 else 1) (n := nb) (12 - nb) (fun j j1 _ => if_pos (Classical.byContradiction (fun q => by have := (lk_some q).1; omega)))
    rw [show nb + (12 - nb) = 12 by omega] at this
    rw [← hd]
    exact this.symm
  have none_at : ∀ x : Int, x < 0 ∨ (d : Int) ≤ x → rSuggest V nb nc (V (114 + 10 * c)) x = -10001 := fun x hx => by
    rw [sug_at hC hc, sg_none (fun b hb hne e => by
      have a1 := bet_nn (l := lkG V nb nc c) (n := 12) b
      have a2 := bet_due hl hb hne
      omega), if_neg (Nat.lt_irrefl _)]
  have fin : ∀ (M' : Me) (last before : Int) (r : Int) (y8 : ZV), (∀ k, k < 61 ∨ k = 71 ∨ 74 ≤ k → M' k = M k) → Wp zS0 tL_areSuggested none 177 [zr 0, zi (V (114 + 10 * c)), zi (V 1), zi last, zi before, zi d, zi d, zi r, y8] [] M' h (Qr 1 M h) := by
    intro M' last before r y8 hk
    have hS0 : CS M' V nb nc t := hS.kept (fun k g => hk k (Or.inl g))
    refine Wp.g1 rfl ?_
    refine Wp.brf rfl (fun q => q rfl) ?_
    refine Wp.g1 rfl ?_
    refine Wp.call rfl (c_suggest hS0 _ _) (fun v M1 h1 q => ?_)
    obtain ⟨rfl, rfl, q1⟩ := q
    rw [none_at _ (Or.inr (Int.le_refl _))]
    have hS1 : CS M1 V nb nc t := hS0.kept (fun k g => q1 k (Or.inl g))
    refine Wp.g1 rfl ?_
    refine Wp.brf rfl (fun q => q rfl) ?_
    refine Wp.g1 rfl ?_
    refine Wp.call rfl (c_suggest hS1 _ _) (fun v M2 h2 q => ?_)
    obtain ⟨rfl, rfl, q2⟩ := q
    rw [none_at _ (Or.inl (by decide))]
    refine Wp.g1 rfl ?_
    refine Wp.brf rfl (fun q => q rfl) ?_
    refine Wp.g1 rfl ?_
    exact Wp.re rfl ⟨rfl, rfl, fun k g => (q2 k g).trans ((q1 k g).trans (hk k g))⟩
  have loop2 : ∀ e r : Nat, r + e = nb → ∀ (M' : Me) (last before : Int) (y8 : ZV), (∀ k, k < 61 ∨ k = 71 ∨ 74 ≤ k → M' k = M k) → Wp zS0 tL_areSuggested none 109 [zr 0, zi (V (114 + 10 * c)), zi (V 1), zi last, zi before, zi d, zi (due (lkG V nb nc c) r), zi r, y8] [] M' h (Qr 1 M h) := by
    intro e
    induction e with
    | zero =>
      intro r he M' last before y8 hk
      have he : r = nb := he
      subst he
      have hS0 : CS M' V r nc t := hS.kept (fun k g => hk k (Or.inl g))
      refine Wp.g1 rfl ?_
      refine Wp.call rfl (c_count hS0 _) (fun v M1 h1 q => ?_)
      obtain ⟨rfl, rfl, q1⟩ := q
      refine Wp.brt rfl (by show (r : Int) ≤ (r : Int); omega) ?_
      rw [enb]
      exact fin M1 _ _ _ y8 (fun k g => (q1 k g).trans (hk k g))
    | succ e ih =>
      intro r he M' last before y8 hk
      have hr : r < nb := by omega
      have hS0 : CS M' V nb nc t := hS.kept (fun k g => hk k (Or.inl g))
      have dr := due_bd (l := lkG V nb nc c) (n := r)
      have es : due (lkG V nb nc c) (r + 1) = due (lkG V nb nc c) r + (if lkG V nb nc c r = -1 then 0 else 1) := rfl
      refine Wp.g1 rfl ?_
      refine Wp.call rfl (c_count hS0 _) (fun v M1 h1 q => ?_)
      obtain ⟨rfl, rfl, q1⟩ := q
      have hS1 : CS M1 V nb nc t := hS0.kept (fun k g => q1 k (Or.inl g))
      refine Wp.brf rfl (by show ¬ (nb : Int) ≤ (r : Int); omega) ?_
      refine Wp.g1 rfl ?_
      refine Wp.brf rfl (by omega) ?_
      refine Wp.g1 rfl ?_
      refine Wp.call rfl (n_bag hS1 hB h11 r (by omega)) (fun v M2 h2 q => ?_)
      obtain ⟨rfl, rfl, q2⟩ := q
      rw [if_pos hr]
      have hS2 : CS M2 V nb nc t := hS1.kept (fun k g => q2 k (Or.inl g))
      refine Wp.g1 rfl ?_
      refine Wp.call rfl (c_bag hS2 _ _) (fun v M3 h3 q => ?_)
      obtain ⟨rfl, rfl, q3⟩ := q
      rw [bag_7 hW hr]
      have hS3 : CS M3 V nb nc t := hS2.kept (fun k g => q3 k (Or.inl g))
      have hk3 : ∀ k, k < 61 ∨ k = 71 ∨ 74 ≤ k → M3 k = M k := fun k g => (q3 k g).trans ((q2 k g).trans ((q1 k g).trans (hk k g)))
      have no : ∀ M4 : Me, (∀ k, k < 61 ∨ k = 71 ∨ 74 ≤ k → M4 k = M k) → lkG V nb nc c r = -1 → Wp zS0 tL_areSuggested none 167 [zr 0, zi (V (114 + 10 * c)), zi (V 1), zi last, zi before, zi d, zi (due (lkG V nb nc c) r), zi r, zi (V (18 + 8 * r))] [zi (due (lkG V nb nc c) r)] M4 h3 (Qr 1 M h3) := by
        intro M4 hk4 hn
        refine Wp.gt 109 rfl ?_
        rw [if_pos hn] at es
        rw [w32_id (x := due (lkG V nb nc c) r + 0) ⟨by omega, by omega⟩, ← es, w32_s (n := r) (by omega)]
        exact ih (r + 1) (by omega) M4 _ _ _ hk4
      refine Wp.g1 rfl ?_
      by_cases g0 : cw V nc r = -10006
      · refine Wp.brf rfl (fun q => q g0) ?_
        refine Wp.g1 rfl ?_
        refine Wp.call rfl (c_score hS3 _ _ _) (fun v M4 h4 q => ?_)
        obtain ⟨rfl, rfl, q4⟩ := q
        have e0 : rScore V nb nc (V (114 + 10 * c)) (V (18 + 8 * r)) 0 = scN V c r 0 := score_at hW hC hc hr (z := 0) (by decide)
        rw [e0]
        have hk4 : ∀ k, k < 61 ∨ k = 71 ∨ 74 ≤ k → M4 k = M k := fun k g => (q4 k g).trans (hk3 k g)
        refine Wp.g1 rfl ?_
        by_cases g1 : V 1 ≤ scN V c r 0
        · have hy := (lk_iff hW hc hr).mpr ⟨g0, g1⟩
          refine Wp.brf rfl (by omega) ?_
          refine Wp.gt 109 rfl ?_
          rw [if_neg hy] at es
          rw [w32_id (x := due (lkG V nb nc c) r + 1) ⟨by omega, by omega⟩, ← es, w32_s (n := r) (by omega)]
          exact ih (r + 1) (by omega) M4 _ _ _ hk4
        · refine Wp.brt rfl (by omega) ?_
          exact no M4 hk4 (Classical.byContradiction (fun q => g1 ((lk_iff hW hc hr).mp q).2))
      · refine Wp.brt rfl g0 ?_
        exact no M3 hk3 (Classical.byContradiction (fun q => g0 ((lk_iff hW hc hr).mp q).1))
  have loop1 : ∀ e k : Nat, k + e = d → ∀ (M' : Me) (last before : Int) (y7 y8 : ZV), (∀ k, k < 61 ∨ k = 71 ∨ 74 ≤ k → M' k = M k) → ((k = 0 ∧ last = 100000) ∨ ∃ b, b < nb ∧ bet (lkG V nb nc c) b 12 + 1 = k ∧ last = lkG V nb nc c b ∧ before = V (18 + 8 * b)) → Wp zS0 tL_areSuggested none 12 [zr 0, zi (V (114 + 10 * c)), zi (V 1), zi last, zi before, zi k, zi k, y7, y8] [] M' h (Qr 1 M h) := by
    intro e
    induction e with
    | zero =>
      intro k he M' last before y7 y8 hk hi
      have he : k = d := he
      subst he
      have hS0 : CS M' V nb nc t := hS.kept (fun k g => hk k (Or.inl g))
      refine Wp.g1 rfl ?_
      refine Wp.brf rfl (by omega) ?_
      refine Wp.g1 rfl ?_
      refine Wp.call rfl (c_suggest hS0 _ _) (fun v M1 h1 q => ?_)
      obtain ⟨rfl, rfl, q1⟩ := q
      rw [none_at _ (Or.inr (Int.le_refl _))]
      refine Wp.g1 rfl ?_
      refine Wp.brf rfl (by decide) ?_
      refine Wp.gt 109 rfl ?_
      exact loop2 nb 0 (by omega) M1 _ _ y8 (fun k g => (q1 k g).trans (hk k g))
    | succ e ih =>
      intro k he M' last before y7 y8 hk hi
      have hS0 : CS M' V nb nc t := hS.kept (fun k g => hk k (Or.inl g))
      refine Wp.g1 rfl ?_
      refine Wp.brf rfl (by omega) ?_
      refine Wp.g1 rfl ?_
      refine Wp.call rfl (c_suggest hS0 _ _) (fun v M1 h1 q => ?_)
      obtain ⟨rfl, rfl, q1⟩ := q
      obtain ⟨s1, s2, s3⟩ := sg_some hl hd (k := k) (by omega)
      rw [sug_at hC hc, if_pos s1]
      generalize sgF (lkG V nb nc c) (k : Int) 12 = b at s1 s2 s3
      obtain ⟨b1, b2, b3, b4, b5⟩ := lk_some s2
      have hp := (hW.2.2.1 b b1).1
      have hS1 : CS M1 V nb nc t := hS0.kept (fun k g => q1 k (Or.inl g))
      refine Wp.g1 rfl ?_
      refine Wp.brt rfl (by omega) ?_
      refine Wp.g1 rfl ?_
      refine Wp.call rfl (c_score hS1 _ _ _) (fun v M2 h2 q => ?_)
      obtain ⟨rfl, rfl, q2⟩ := q
      have e0 : rScore V nb nc (V (114 + 10 * c)) (V (18 + 8 * b)) 0 = scN V c b 0 := score_at hW hC hc b1 (z := 0) (by decide)
      rw [e0]
      have hS2 : CS M2 V nb nc t := hS1.kept (fun k g => q2 k (Or.inl g))
      have hbd := (lkG_bd hW hc b).2
      have ord : scN V c b 0 < last ∨ (scN V c b 0 = last ∧ before < V (18 + 8 * b)) := by
        rcases hi with ⟨-, hi⟩ | ⟨b', hb', i1, i2, i3⟩
        · omega
        · have hbt := bet_bt (l := lkG V nb nc c) (b := b') (b' := b) (n := 12) s1 (by omega)
          unfold btr at hbt
          rcases hbt with g | ⟨g1, g2⟩
          · omega
          · have := hB b' b g2 b1
            omega
      refine Wp.g1 rfl ?_
      refine Wp.brf rfl (by omega) ?_
      refine Wp.g1 rfl ?_
      refine Wp.brf rfl (by omega) ?_
      have last' : ∀ M3 : Me, (∀ k, k < 61 ∨ k = 71 ∨ 74 ≤ k → M3 k = M2 k) → Wp zS0 tL_areSuggested none 71 [zr 0, zi (V (114 + 10 * c)), zi (V 1), zi last, zi before, zi k, zi k, zi (V (18 + 8 * b)), zi (scN V c b 0)] [] M3 h2 (Qr 1 M h2) := by
        intro M3 q3
        have hS3 : CS M3 V nb nc t := hS2.kept (fun k g => q3 k (Or.inl g))
        refine Wp.g1 rfl ?_
        refine Wp.call rfl (c_bag hS3 _ _) (fun v M4 h4 q => ?_)
        obtain ⟨rfl, rfl, q4⟩ := q
        rw [bag_7 hW b1, b2]
        refine Wp.g1 rfl ?_
        refine Wp.brt rfl rfl ?_
        refine Wp.gt 12 rfl ?_
        rw [w32_s (n := k) (by omega)]
        exact ih (k + 1) (by omega) M4 _ _ _ _ (fun k g => (q4 k g).trans ((q3 k g).trans ((q2 k g).trans ((q1 k g).trans (hk k g))))) (Or.inr ⟨b, b1, by omega, b5.symm, rfl⟩)
      refine Wp.g1 rfl ?_
      by_cases g : scN V c b 0 = last
      · refine Wp.brf rfl (fun q => q g) ?_
        refine Wp.g1 rfl ?_
        refine Wp.brf rfl (by omega) ?_
        exact last' M2 (fun k _ => rfl)
      · refine Wp.brt rfl g ?_
        exact last' M2 (fun k _ => rfl)
  refine Wp.gt 12 rfl ?_
  exact loop1 d 0 (by omega) M 100000 0 _ _ (fun k _ => rfl) (Or.inl ⟨rfl, rfl⟩)
end SUGG
end
section
/-! matching all: what is left, what it is worth, and the greatest of a row by row search -/
def Same (V W : Nat → Int) : Prop := ∀ j, (j < 114 ∨ (j - 114) % 10 ≠ 9) → W j = V j
theorem Same.rf (V : Nat → Int) : Same V V := fun _ _ => rfl
theorem Same.tr {U V W : Nat → Int} (h1 : Same U V) (h2 : Same V W) : Same U W := fun j g => (h2 j g).trans (h1 j g)
theorem Same.up9 (V : Nat → Int) (c : Nat) (x : Int) : Same V (up V (114 + 10 * c + 9) x) := fun j g => up_off (by omega)
section GREEDY
variable {V W : Nat → Int} {nb nc t : Nat}
theorem Same.b (h : Same V W) (hn : nb ≤ 12) {r : Nat} (hr : r < nb) : W (18 + 8 * r) = V (18 + 8 * r) := h _ (by omega)
theorem Same.c (h : Same V W) (r : Nat) : W (114 + 10 * r) = V (114 + 10 * r) := h _ (by omega)
theorem Same.SB (h : Same V W) (hn : nb ≤ 12) (hB : SB V nb) : SB W nb := fun r q h1 h2 => by rw [h.b hn (by omega), h.b hn h2]; exact hB r q h1 h2
theorem Same.SC (h : Same V W) (hC : SC V nc) : SC W nc := fun r q h1 h2 => by rw [h.c, h.c]; exact hC r q h1 h2
theorem Same.AM {M : Me} (h : Same V W) (hn : nb ≤ 12) (hA : AM M V nb nc) : AM M W nb nc := ⟨fun q hq => by rw [h.b hn hq]; exact hA.1 q hq, fun q hq => by rw [h.c]; exact hA.2 q hq⟩
theorem Same.jn : Same V (jn V nb nc) := Same.up9 V _ _
theorem Same.all : ∀ (n : Nat) (V : Nat → Int), Same V (mA nb nc n V).2 := by
  intro n
  induction n with
  | zero => intro V; exact Same.rf V
  | succ n ih =>
    intro V
    by_cases g : bs V nb nc = -1
    · have e : mA nb nc (n + 1) V = (0, V) := if_pos g
      rw [e]; exact Same.rf V
    · rw [mA_step g]
      exact Same.jn.tr (ih _)
theorem mt_bd (n : Nat) : 0 ≤ rMatched V n ∧ rMatched V n ≤ n := sumI_bd n (fun j _ => by by_cases g : V (114 + 10 * j + 9) = 0 <;> simp [g])
theorem mt_up {c : Nat} {x : Int} (hc : c < nc) (h0 : V (114 + 10 * c + 9) = 0) (hx : x ≠ 0) : rMatched (up V (114 + 10 * c + 9) x) nc = rMatched V nc + 1 := by
  have e1 : sumI (fun r => if r = c then 1 else 0) nc = 1 := by
    rw [sumI_one (f := fun r => if r = c then 1 else 0) (k := c) nc hc (fun j _ hne => if_neg hne), if_pos rfl]
  have e2 := sumI_add (fun r => if V (114 + 10 * r + 9) = 0 then 0 else 1) (fun r => if r = c then 1 else 0) nc
  have e3 : rMatched (up V (114 + 10 * c + 9) x) nc = sumI (fun r => (if V (114 + 10 * r + 9) = 0 then 0 else 1) + (if r = c then 1 else 0)) nc := sumI_congr nc (fun j _ => by
    by_cases g : j = c
    · subst g
      rw [up_at, if_neg hx, if_pos h0, if_pos rfl]; rfl
    · rw [up_off (by omega), if_neg g, Int.add_zero])
  rw [e3, e2, e1]
  rfl
theorem mt_lt {c : Nat} (hc : c < nc) (h0 : V (114 + 10 * c + 9) = 0) : rMatched V nc + 1 ≤ nc := by
  have := mt_up (V := V) (x := 1) hc h0 (by decide)
  have b := (mt_bd (V := up V (114 + 10 * c + 9) 1) nc).2
  omega
theorem mt_jn (hW : WF V nb nc t) (hb : bs V nb nc ≠ -1) : rMatched (jn V nb nc) nc = rMatched V nc + 1 := by
  obtain ⟨h1, h2, h3, h4, h5⟩ := bs_facts hb
  have := (hW.2.2.1 _ h3).1
  exact mt_up h1 h2 (by omega)
theorem mA_mt : ∀ (n : Nat) {V : Nat → Int}, WF V nb nc t → rMatched (mA nb nc n V).2 nc = rMatched V nc + ((mA nb nc n V).1 : Int) := by
  intro n
  induction n with
  | zero => intro V _; show rMatched V nc = rMatched V nc + 0; omega
  | succ n ih =>
    intro V hW
    by_cases g : bs V nb nc = -1
    · have e : (mA nb nc (n + 1) V) = (0, V) := if_pos g
      rw [e]; show rMatched V nc = rMatched V nc + 0; omega
    · rw [mA_step g]
      have h1 := ih (hW.jn g)
      rw [mt_jn hW g] at h1
      show rMatched (mA nb nc n (jn V nb nc)).2 nc = rMatched V nc + (((mA nb nc n (jn V nb nc)).1 + 1 : Nat) : Int)
      omega
theorem mA_end : ∀ (n : Nat) {V : Nat → Int}, WF V nb nc t → (nc : Int) - rMatched V nc ≤ n → bs (mA nb nc n V).2 nb nc = -1 := by
  intro n
  induction n with
  | zero =>
    intro V hW h
    refine Classical.byContradiction (fun g => ?_)
    obtain ⟨h1, h2, -⟩ := bs_facts (V := V) g
    have := mt_lt h1 h2
    omega
  | succ n ih =>
    intro V hW h
    by_cases g : bs V nb nc = -1
    · have e : (mA nb nc (n + 1) V) = (0, V) := if_pos g
      rw [e]; exact g
    · rw [mA_step g]
      refine ih (hW.jn g) ?_
      rw [mt_jn hW g]
      omega
/-- nothing open: nothing to gain -/
theorem gF_val (hW : WF V nb nc t) (c b : Nat) : gF V nb nc c b = -1 ∨ 0 ≤ gF V nb nc c b := by
  by_cases g : gF V nb nc c b = -1
  · exact Or.inl g
  · exact Or.inr (gF_ge hW c b g).1
theorem no_open (hW : WF V nb nc t) (hb : bs V nb nc = -1) (c b : Nat) : gF V nb nc c b = -1 := by
  refine Classical.byContradiction (fun g => ?_)
  obtain ⟨h0, hc, hb1⟩ := gF_ge hW c b g
  have hnb := hW.1.2.2.1
  have hnc := hW.1.2.2.2
  have := bv_none (gM V nb nc) 120 hb (12 * c + b) (by omega)
  unfold gM at this
  rw [show (12 * c + b) / 12 = c by omega, show (12 * c + b) % 12 = b by omega] at this
  omega
theorem best_0 (hW : WF V nb nc t) (hb : bs V nb nc = -1) : rBest V nb nc = 0 := by
  have h1 : ∀ (c : Nat) (prev : Nat → Int) (set n : Nat), dpB (gF V nb nc c) prev set n = prev set := by
    intro c prev set n
    induction n with
    | zero => rfl
    | succ n ih =>
      show (if set.testBit n = true ∧ gF V nb nc c n ≠ -1 then _ else dpB (gF V nb nc c) prev set n) = _
      rw [if_neg (fun q => q.2 (no_open hW hb c n))]
      exact ih
  have h2 : ∀ (c set : Nat), dpS (gF V nb nc) nb c set = 0 := by
    intro c
    induction c with
    | zero => intro set; rfl
    | succ c ih =>
      intro set
      show dpB (gF V nb nc c) (dpS (gF V nb nc) nb c) set nb = 0
      rw [h1]; exact ih set
  exact h2 _ _
theorem total_0 (hb : bs V nb nc = -1) (n : Nat) : tot (gM V nb nc) n = 0 := by
  cases n with
  | zero => rfl
  | succ n => exact if_pos hb
theorem total_s (hW : WF V nb nc t) (hb : bs V nb nc ≠ -1) (n : Nat) : tot (gM V nb nc) (n + 1) = bs V nb nc + tot (gM (jn V nb nc) nb nc) n := by
  rw [gM_jn hW hb]
  exact if_neg hb
/-- the total of all is no more than the best -/
def gw (f : Nat → Int) : Nat → Nat → Nat
  | 0 => fun _ => 0
  | n + 1 => if bv f 120 = -1 then fun _ => 0 else fun b => if b = bp f 120 % 12 + 1 then bp f 120 / 12 + 1 else gw (stk f) n b
def sx (f : Nat → Int) (w b : Nat) : Int := if w = 0 then 0 else f (12 * (w - 1) + b)
theorem sx0 {f : Nat → Int} {b : Nat} : sx f 0 b = 0 := rfl
theorem sxs {f : Nat → Int} {w b : Nat} (h : w ≠ 0) : sx f w b = f (12 * (w - 1) + b) := if_neg h
def sw (f : Nat → Int) (w : Nat → Nat) : Int := sumI (fun b => sx f (w (b + 1)) b) 12
theorem gw_ok : ∀ (n : Nat) (f : Nat → Int), (∀ b, b < 12 → gw f n (b + 1) ≠ 0 → gw f n (b + 1) ≤ 10 ∧ f (12 * (gw f n (b + 1) - 1) + b) ≠ -1) ∧ (∀ b b', b < 12 → b' < 12 → gw f n (b + 1) = gw f n (b' + 1) → gw f n (b + 1) ≠ 0 → b = b') ∧ sw f (gw f n) = tot f n := by
  intro n
  induction n with
  | zero =>
    intro f
    refine ⟨fun b _ h => absurd rfl h, fun b b' _ _ _ h => absurd rfl h, ?_⟩
    exact sumI_zero 12
  | succ n ih =>
    intro f
    by_cases g : bv f 120 = -1
    · have e : gw f (n + 1) = fun _ => 0 := if_pos g
      have e2 : tot f (n + 1) = 0 := if_pos g
      rw [e, e2]
      refine ⟨fun b _ h => absurd rfl h, fun b b' _ _ _ h => absurd rfl h, ?_⟩
      exact sumI_zero 12
    · have e : gw f (n + 1) = fun b => if b = bp f 120 % 12 + 1 then bp f 120 / 12 + 1 else gw (stk f) n b := if_neg g
      have e2 : tot f (n + 1) = bv f 120 + tot (stk f) n := if_neg g
      obtain ⟨p1, p2, -, -⟩ := bp_spec f 120 g
      obtain ⟨i1, i2, i3⟩ := ih (stk f)
      have hi : 12 * (bp f 120 / 12) + bp f 120 % 12 = bp f 120 := by omega
      have hst : ∀ i, stk f i = if i / 12 = bp f 120 / 12 ∨ i % 12 = bp f 120 % 12 then -1 else f i := fun i => rfl
      generalize ep : bp f 120 = P at *
      have av : ∀ b, b < 12 → gw (stk f) n (b + 1) ≠ 0 → gw (stk f) n (b + 1) ≠ P / 12 + 1 ∧ b ≠ P % 12 ∧ stk f (12 * (gw (stk f) n (b + 1) - 1) + b) = f (12 * (gw (stk f) n (b + 1) - 1) + b) := fun b hb h => by
        obtain ⟨-, j2⟩ := i1 b hb h
        rw [hst] at j2 ⊢
        by_cases k : (12 * (gw (stk f) n (b + 1) - 1) + b) / 12 = P / 12 ∨ (12 * (gw (stk f) n (b + 1) - 1) + b) % 12 = P % 12
        · exact absurd (if_pos k) j2
        · rw [if_neg k]
          refine ⟨fun q => k (Or.inl (by omega)), fun q => k (Or.inr (by omega)), rfl⟩
      rw [e, e2]
      refine ⟨fun b hb h => ?_, fun b b' hb hb' h1 h2 => ?_, ?_⟩
      · dsimp only at h ⊢
        by_cases k : b + 1 = P % 12 + 1
        · rw [if_pos k]
          refine ⟨by omega, ?_⟩
          rw [show 12 * (P / 12 + 1 - 1) + b = P by omega, p2]
          exact g
        · rw [if_neg k] at h ⊢
          obtain ⟨j1, j2⟩ := i1 b hb h
          rw [(av b hb h).2.2] at j2
          exact ⟨j1, j2⟩
      · dsimp only at h1 h2
        by_cases k : b + 1 = P % 12 + 1
        · rw [if_pos k] at h1
          by_cases k' : b' + 1 = P % 12 + 1
          · omega
          · rw [if_neg k'] at h1
            exact absurd h1.symm (av b' hb' (by omega)).1
        · rw [if_neg k] at h1 h2
          by_cases k' : b' + 1 = P % 12 + 1
          · rw [if_pos k'] at h1
            exact absurd h1 (av b hb h2).1
          · rw [if_neg k'] at h1
            exact i2 b b' hb hb' h1 h2
      · rw [← i3]
        have z : gw (stk f) n (P % 12 + 1) = 0 := Classical.byContradiction (fun q => (av (P % 12) (by omega) q).2.1 rfl)
        have e4 : sw f (fun b => if b = P % 12 + 1 then P / 12 + 1 else gw (stk f) n b) = sumI (fun b => (if b = P % 12 then bv f 120 else 0) + sx (stk f) (gw (stk f) n (b + 1)) b) 12 := sumI_congr 12 (fun b hb => by
          dsimp only
          by_cases k : b = P % 12
          · subst k
            rw [if_pos rfl, if_pos rfl, z, sx0, sxs (by omega), show 12 * (P / 12 + 1 - 1) + P % 12 = P by omega, p2, Int.add_zero]
          · rw [if_neg (c := b + 1 = P % 12 + 1) (by omega), if_neg k, Int.zero_add]
            by_cases k2 : gw (stk f) n (b + 1) = 0
            · rw [k2, sx0, sx0]
            · rw [sxs k2, sxs k2, (av b hb k2).2.2])
        rw [e4, sumI_add, sumI_one (f := fun b => if b = P % 12 then bv f 120 else 0) (k := P % 12) 12 (by omega) (fun j _ hne => if_neg hne), if_pos rfl]
        rfl
theorem total_le (hW : WF V nb nc t) : rTotal V nb nc ≤ rBest V nb nc := by
  obtain ⟨h1, h2, h3⟩ := gw_ok 10 (gM V nb nc)
  have hnb := hW.1.2.2.1
  have eg : ∀ c b, b < 12 → gM V nb nc (12 * c + b) = gF V nb nc c b := fun c b hb => by
    unfold gM
    rw [show (12 * c + b) / 12 = c by omega, show (12 * c + b) % 12 = b by omega]
  have k := dp_ge (G := gF V nb nc) (nb := nb) (w := gw (gM V nb nc) 10) hnb (fun b b' b1 b2 b3 b4 e hne => by
    have := h2 (b - 1) (b' - 1) (by omega) (by omega) (by rw [show b - 1 + 1 = b by omega, show b' - 1 + 1 = b' by omega]; exact e) (by rw [show b - 1 + 1 = b by omega]; exact hne)
    omega) (fun c b hb => Classical.byContradiction (fun q => by have := (gF_ge hW c b q).2.2; omega)) (fun c b q => (gF_ge hW c b q).1) nc (2 ^ nb - 1) (fun c' b _ hb _ => by rw [Nat.testBit_two_pow_sub_one]; exact decide_eq_true hb)
  have e1 : sw (gM V nb nc) (gw (gM V nb nc) 10) = sumI (fun i => sumI (fun c => if gw (gM V nb nc) 10 (i + 1) = c + 1 then max (gF V nb nc c i) 0 else 0) nc) 12 := sumI_congr 12 (fun i hi => by
    by_cases e : gw (gM V nb nc) 10 (i + 1) = 0
    · rw [e, sx0]
      have : sumI (fun c => if 0 = c + 1 then max (gF V nb nc c i) 0 else 0) nc = sumI (fun _ => 0) nc := sumI_congr nc (fun c hc => if_neg (by omega))
      rw [this, sumI_zero]
    · have h10 := h1 i hi e
      rw [sxs e]
      rw [eg _ i hi] at h10 ⊢
      obtain ⟨g1, g2, g3⟩ := gF_ge hW _ _ h10.2
      rw [sumI_one (f := fun c => if gw (gM V nb nc) 10 (i + 1) = c + 1 then max (gF V nb nc c i) 0 else 0) (k := gw (gM V nb nc) 10 (i + 1) - 1) nc g2 (fun j _ hne => if_neg (by omega)), if_pos (by omega)]
      omega)
  unfold rTotal rBest
  rw [← h3, e1, sumI_swap]
  exact k
/-- a search claim by claim, bag by bag, finds what the class finds -/
theorem scan_eq (hW : WF V nb nc t) (h0 : 0 < nb) : bv (fun k => gF V nb nc (k / nb) (k % nb)) (nb * nc) = bs V nb nc ∧ (bs V nb nc ≠ -1 → bp (fun k => gF V nb nc (k / nb) (k % nb)) (nb * nc) / nb = bc V nb nc ∧ bp (fun k => gF V nb nc (k / nb) (k % nb)) (nb * nc) % nb = bb V nb nc) := by
  have hnb := hW.1.2.2.1
  have hnc := hW.1.2.2.2
  have ge1 := bv_ge (fun k => gF V nb nc (k / nb) (k % nb)) (nb * nc)
  have ge2 := bv_ge (gM V nb nc) 120
  have eg : ∀ c b, b < 12 → gM V nb nc (12 * c + b) = gF V nb nc c b := fun c b hb => by
    unfold gM
    rw [show (12 * c + b) / 12 = c by omega, show (12 * c + b) % 12 = b by omega]
  have ef : ∀ c b, b < nb → (fun k => gF V nb nc (k / nb) (k % nb)) (nb * c + b) = gF V nb nc c b := fun c b hb => by
    show gF V nb nc ((nb * c + b) / nb) ((nb * c + b) % nb) = _
    rw [Nat.mul_add_div h0, Nat.div_eq_of_lt hb, Nat.add_zero, Nat.mul_add_mod, Nat.mod_eq_of_lt hb]
  have lt1 : ∀ c b, c < nc → b < nb → nb * c + b < nb * nc := fun c b hc hb => by
    have h1 : nb * (c + 1) ≤ nb * nc := Nat.mul_le_mul_left nb hc
    rw [Nat.mul_add, Nat.mul_one] at h1
    omega
  have dv : ∀ p, p < nb * nc → p / nb < nc ∧ p % nb < nb ∧ nb * (p / nb) + p % nb = p := fun p hp => ⟨Nat.div_lt_of_lt_mul hp, Nat.mod_lt _ h0, Nat.div_add_mod p nb⟩
  generalize hf : (fun k => gF V nb nc (k / nb) (k % nb)) = f at *
  have fat : ∀ p, f p = gF V nb nc (p / nb) (p % nb) := fun p => by rw [← hf]
  have le1 : bv f (nb * nc) ≤ bs V nb nc := by
    by_cases g : bv f (nb * nc) = -1
    · rw [g]; exact ge2
    · obtain ⟨p1, p2, -, -⟩ := bp_spec f _ g
      obtain ⟨d1, d2, d3⟩ := dv _ p1
      have e1 : gM V nb nc (12 * (bp f (nb * nc) / nb) + bp f (nb * nc) % nb) = bv f (nb * nc) := by
        rw [eg _ _ (by omega), ← p2, fat]
      by_cases g2 : bs V nb nc = -1
      · have := bv_none (gM V nb nc) 120 g2 (12 * (bp f (nb * nc) / nb) + bp f (nb * nc) % nb) (by omega)
        omega
      · have := (bp_spec (gM V nb nc) 120 g2).2.2.1 (12 * (bp f (nb * nc) / nb) + bp f (nb * nc) % nb) (by omega)
        rw [e1] at this
        exact this
  have le2 : bs V nb nc ≤ bv f (nb * nc) := by
    by_cases g : bs V nb nc = -1
    · rw [g]; exact ge1
    · obtain ⟨f1, f2, f3, f4, f5⟩ := bs_facts g
      have l1 := lt1 _ _ f1 f3
      have e1 := (ef _ _ f3).trans f5
      by_cases g2 : bv f (nb * nc) = -1
      · have := bv_none f _ g2 _ l1
        have hge : -1 ≤ bs V nb nc := ge2
        omega
      · have := (bp_spec f _ g2).2.2.1 _ l1
        omega
  have eq1 : bv f (nb * nc) = bs V nb nc := by omega
  refine ⟨eq1, fun g => ?_⟩
  obtain ⟨f1, f2, f3, f4, f5⟩ := bs_facts g
  obtain ⟨p1, p2, -, p4⟩ := bp_spec f (nb * nc) (by rw [eq1]; exact g)
  obtain ⟨q1, q2, -, q4⟩ := bp_spec (gM V nb nc) 120 g
  obtain ⟨d1, d2, d3⟩ := dv _ p1
  have l1 := lt1 _ _ f1 f3
  have e1 := (ef _ _ f3).trans f5
  have e2 : gM V nb nc (12 * (bp f (nb * nc) / nb) + bp f (nb * nc) % nb) = bs V nb nc := by
    rw [eg _ _ (by omega), ← eq1, ← p2, fat]
  have a1 : bp f (nb * nc) ≤ nb * bc V nb nc + bb V nb nc := by
    refine Nat.le_of_not_lt (fun q => ?_)
    have := p4 _ q
    omega
  have a2 : 12 * bc V nb nc + bb V nb nc ≤ 12 * (bp f (nb * nc) / nb) + bp f (nb * nc) % nb := by
    refine Nat.le_of_not_lt (fun q => ?_)
    have e3 : 12 * bc V nb nc + bb V nb nc = bp (gM V nb nc) 120 := by unfold bc bb; omega
    have := q4 _ (by rw [← e3]; exact q)
    have e4 : bv (gM V nb nc) 120 = bs V nb nc := rfl
    omega
  rw [← d3] at a1
  have b1 : ¬ bp f (nb * nc) / nb < bc V nb nc := fun q => by omega
  have b2 : ¬ bc V nb nc < bp f (nb * nc) / nb := fun q => by
    have h1 : nb * (bc V nb nc + 1) ≤ nb * (bp f (nb * nc) / nb) := Nat.mul_le_mul_left nb q
    rw [Nat.mul_add, Nat.mul_one] at h1
    omega
  have b3 : bp f (nb * nc) / nb = bc V nb nc := by omega
  rw [b3] at a1 a2 ⊢
  exact ⟨rfl, by omega⟩
end GREEDY
end
section
/-! the law's search for the greatest pair -/
section SCAN
variable {M : Me} {h : Ml} {W : Nat → Int} {nb nc t : Nat}
def fk (W : Nat → Int) (nb nc : Nat) : Nat → Int := fun k => gF W nb nc (k / nb) (k % nb)
def cl (W : Nat → Int) (nb nc k : Nat) : Int := if bv (fk W nb nc) k = -1 then 0 else W (114 + 10 * (bp (fk W nb nc) k / nb))
def ba (W : Nat → Int) (nb nc k : Nat) : Int := if bv (fk W nb nc) k = -1 then 0 else W (18 + 8 * (bp (fk W nb nc) k % nb))
theorem fk_stay {k : Nat} (h : ¬ bv (fk W nb nc) k < fk W nb nc k) : bv (fk W nb nc) (k + 1) = bv (fk W nb nc) k ∧ cl W nb nc (k + 1) = cl W nb nc k ∧ ba W nb nc (k + 1) = ba W nb nc k := by
  have e1 : bv (fk W nb nc) (k + 1) = bv (fk W nb nc) k := if_neg h
  have e2 : bp (fk W nb nc) (k + 1) = bp (fk W nb nc) k := if_neg h
  unfold cl ba
  rw [e1, e2]
  exact ⟨rfl, rfl, rfl⟩
theorem fk_new {k : Nat} (h : bv (fk W nb nc) k < fk W nb nc k) : bv (fk W nb nc) (k + 1) = fk W nb nc k ∧ cl W nb nc (k + 1) = W (114 + 10 * (k / nb)) ∧ ba W nb nc (k + 1) = W (18 + 8 * (k % nb)) := by
  have e1 : bv (fk W nb nc) (k + 1) = fk W nb nc k := if_pos h
  have e2 : bp (fk W nb nc) (k + 1) = k := if_pos h
  have := bv_ge (fk W nb nc) k
  unfold cl ba
  rw [e1, e2, if_neg (by omega), if_neg (by omega)]
  exact ⟨rfl, rfl, rfl⟩
theorem gF_open (hW : WF W nb nc t) {c b : Nat} (hc : c < nc) (hb : b < nb) : gF W nb nc c b ≠ -1 ↔ pt W c = -10006 ∧ cw W nc b = -10006 ∧ W 1 ≤ scN W c b 0 := by
  rw [pt_free hW hc]
  constructor
  · intro g
    unfold gF at g
    by_cases q : c < nc ∧ W (114 + 10 * c + 9) = 0
    · rw [if_pos q] at g
      have := (lk_iff hW hc hb).mp g
      exact ⟨q.2, this⟩
    · rw [if_neg q] at g
      exact absurd rfl g
  · intro ⟨q1, q2⟩
    unfold gF
    rw [if_pos ⟨hc, q1⟩]
    exact (lk_iff hW hc hb).mpr q2
theorem gF_sc (hW : WF W nb nc t) {c b : Nat} (g : gF W nb nc c b ≠ -1) : gF W nb nc c b = scN W c b 0 := by
  unfold gF at g ⊢
  by_cases q : c < nc ∧ W (114 + 10 * c + 9) = 0
  · rw [if_pos q] at g ⊢
    exact (lk_some g).2.2.2.2
  · rw [if_neg q] at g
    exact absurd rfl g
theorem m_scan (hS : CS M W nb nc t) (hC : SC W nc) (hA : AM M W nb nc) {best told had many now is sum n : Int} {Φ : Option ZV → Me → Ml → Prop}
    (kk : ∀ (M' : Me) (y15 y16 y17 y18 y19 : ZV), (∀ k, k < 61 ∨ k = 71 ∨ 74 ≤ k → M' k = M k) → Wp zS0 tL_isMatched none 263 [zr 0, zr 75, zr 76, zi (W 1), zi best, zi told, zi had, zi many, zi now, zi is, zi sum, zi n, zi (bv (fk W nb nc) (nb * nc)), zi (cl W nb nc (nb * nc)), zi (ba W nb nc (nb * nc)), y15, y16, y17, y18, y19] [] M' h Φ) :
    ∀ d k : Nat, k + d = nb * nc → ∀ (M' : Me) (y16 y17 y18 y19 : ZV), (∀ k, k < 61 ∨ k = 71 ∨ 74 ≤ k → M' k = M k) → Wp zS0 tL_isMatched none 134 [zr 0, zr 75, zr 76, zi (W 1), zi best, zi told, zi had, zi many, zi now, zi is, zi sum, zi n, zi (bv (fk W nb nc) k), zi (cl W nb nc k), zi (ba W nb nc k), zi k, y16, y17, y18, y19] [] M' h Φ := by
  have hW := hS.2.2.2
  have hnb := hW.1.2.2.1
  have hnc := hW.1.2.2.2
  have hm : nb * nc ≤ 120 := Nat.le_trans (Nat.mul_le_mul hnb hnc) (by decide)
  have em : w32 (rCount W nb nc 1 * rCount W nb nc 2) = ((nb * nc : Nat) : Int) := by
    have e1 : rCount W nb nc 1 * rCount W nb nc 2 = ((nb * nc : Nat) : Int) := (Int.natCast_mul nb nc).symm
    rw [e1]
    exact w32_id ⟨by omega, by omega⟩
  intro d
  induction d with
  | zero =>
    intro k hd M' y16 y17 y18 y19 hk
    have hd : k = nb * nc := hd
    have hS0 : CS M' W nb nc t := hS.kept (fun k g => hk k (Or.inl g))
    refine Wp.g1 rfl ?_
    refine Wp.call rfl (c_count hS0 _) (fun v M1 h1 q => ?_)
    obtain ⟨rfl, rfl, q1⟩ := q
    have hS1 : CS M1 W nb nc t := hS0.kept (fun k g => q1 k (Or.inl g))
    refine Wp.g1 rfl ?_
    refine Wp.call rfl (c_count hS1 _) (fun v M2 h2 q => ?_)
    obtain ⟨rfl, rfl, q2⟩ := q
    refine Wp.g1 rfl ?_
    rw [em]
    refine Wp.brt rfl (by omega) ?_
    rw [← hd] at kk
    exact kk M2 _ y16 y17 y18 y19 (fun k g => (q2 k g).trans ((q1 k g).trans (hk k g)))
  | succ d ih =>
    intro k hd M' y16 y17 y18 y19 hk
    have h0 : 0 < nb := by
      rcases Nat.eq_zero_or_pos nb with e | e
      · rw [e, Nat.zero_mul] at hd; omega
      · exact e
    have hc : k / nb < nc := Nat.div_lt_of_lt_mul (by omega)
    have hb : k % nb < nb := Nat.mod_lt _ h0
    have hS0 : CS M' W nb nc t := hS.kept (fun k g => hk k (Or.inl g))
    refine Wp.g1 rfl ?_
    refine Wp.call rfl (c_count hS0 _) (fun v M1 h1 q => ?_)
    obtain ⟨rfl, rfl, q1⟩ := q
    have hS1 : CS M1 W nb nc t := hS0.kept (fun k g => q1 k (Or.inl g))
    refine Wp.g1 rfl ?_
    refine Wp.call rfl (c_count hS1 _) (fun v M2 h2 q => ?_)
    obtain ⟨rfl, rfl, q2⟩ := q
    have hS2 : CS M2 W nb nc t := hS1.kept (fun k g => q2 k (Or.inl g))
    refine Wp.g1 rfl ?_
    rw [em]
    refine Wp.brf rfl (by omega) ?_
    refine Wp.g1 rfl ?_
    refine Wp.brf rfl (by omega) ?_
    refine Wp.g1 rfl ?_
    refine Wp.call rfl (c_count hS2 _) (fun v M3 h3 q => ?_)
    obtain ⟨rfl, rfl, q3⟩ := q
    have hS3 : CS M3 W nb nc t := hS2.kept (fun k g => q3 k (Or.inl g))
    have hk3 : ∀ k, k < 61 ∨ k = 71 ∨ 74 ≤ k → M3 k = M k := fun k g => (q3 k g).trans ((q2 k g).trans ((q1 k g).trans (hk k g)))
    have e1 : rCount W nb nc 1 = (nb : Int) := rfl
    rw [e1]
    refine Wp.div rfl (by omega) (by omega) ?_
    refine Wp.ld rfl rfl (k / nb) rfl (by omega) ?_
    rw [hk3 76 (by omega), hA.2 _ hc]
    refine Wp.g1 rfl ?_
    refine Wp.call rfl (c_count hS3 _) (fun v M4 h4 q => ?_)
    obtain ⟨rfl, rfl, q4⟩ := q
    have hS4 : CS M4 W nb nc t := hS3.kept (fun k g => q4 k (Or.inl g))
    have hk4 : ∀ k, k < 61 ∨ k = 71 ∨ 74 ≤ k → M4 k = M k := fun k g => (q4 k g).trans (hk3 k g)
    rw [e1]
    refine Wp.rem rfl (by omega) (by omega) ?_
    refine Wp.ld rfl rfl (k % nb) rfl (by omega) ?_
    rw [hk4 75 (by omega), hA.1 _ hb]
    refine Wp.g1 rfl ?_
    refine Wp.call rfl (c_claimOf hS4 _ _) (fun v M5 h5 q => ?_)
    obtain ⟨rfl, rfl, q5⟩ := q
    rw [claim_8 hC hc]
    have hS5 : CS M5 W nb nc t := hS4.kept (fun k g => q5 k (Or.inl g))
    have hk5 : ∀ k, k < 61 ∨ k = 71 ∨ 74 ≤ k → M5 k = M k := fun k g => (q5 k g).trans (hk4 k g)
    have e0 : rScore W nb nc (W (114 + 10 * (k / nb))) (W (18 + 8 * (k % nb))) 0 = scN W (k / nb) (k % nb) 0 := score_at hW hC hc hb (z := 0) (by decide)
    have gop := gF_open hW hc hb
    have gsc := gF_sc (c := k / nb) (b := k % nb) hW
    have ge := bv_ge (fk W nb nc) k
    have efk : fk W nb nc k = gF W nb nc (k / nb) (k % nb) := rfl
    -- behind the comparison
    have cont : ∀ (M6 : Me) (mo c1 b1 : Int) (y18 y19 : ZV), (∀ k, k < 61 ∨ k = 71 ∨ 74 ≤ k → M6 k = M k) → mo = bv (fk W nb nc) (k + 1) → c1 = cl W nb nc (k + 1) → b1 = ba W nb nc (k + 1) → Wp zS0 tL_isMatched none 257 [zr 0, zr 75, zr 76, zi (W 1), zi best, zi told, zi had, zi many, zi now, zi is, zi sum, zi n, zi mo, zi c1, zi b1, zi k, zi (W (114 + 10 * (k / nb))), zi (W (18 + 8 * (k % nb))), y18, y19] [] M6 h5 Φ := by
      intro M6 mo c1 b1 y18 y19 hk6 i1 i2 i3
      refine Wp.gt 134 rfl ?_
      rw [w32_s (n := k) (by omega), i1, i2, i3]
      exact ih (k + 1) (by omega) M6 _ _ _ _ hk6
    -- not free
    have no : ∀ M6 : Me, (∀ k, k < 61 ∨ k = 71 ∨ 74 ≤ k → M6 k = M k) → gF W nb nc (k / nb) (k % nb) = -1 → Wp zS0 tL_isMatched none 213 [zr 0, zr 75, zr 76, zi (W 1), zi best, zi told, zi had, zi many, zi now, zi is, zi sum, zi n, zi (bv (fk W nb nc) k), zi (cl W nb nc k), zi (ba W nb nc k), zi k, zi (W (114 + 10 * (k / nb))), zi (W (18 + 8 * (k % nb))), y18, y19] [] M6 h5 Φ := by
      intro M6 hk6 hn
      have hS6 : CS M6 W nb nc t := hS.kept (fun k g => hk6 k (Or.inl g))
      refine Wp.g1 rfl ?_
      refine Wp.call rfl (c_score hS6 _ _ _) (fun v M7 h7 q => ?_)
      obtain ⟨rfl, rfl, q7⟩ := q
      refine Wp.g1 rfl ?_
      refine Wp.brt rfl rfl ?_
      obtain ⟨i1, i2, i3⟩ := fk_stay (W := W) (nb := nb) (nc := nc) (k := k) (by rw [efk, hn]; omega)
      exact cont M7 _ _ _ _ _ (fun k g => (q7 k g).trans (hk6 k g)) i1.symm i2.symm i3.symm
    refine Wp.g1 rfl ?_
    by_cases p1 : pt W (k / nb) = -10006
    · refine Wp.brf rfl (fun q => q p1) ?_
      refine Wp.g1 rfl ?_
      refine Wp.call rfl (c_bag hS5 _ _) (fun v M6 h6 q => ?_)
      obtain ⟨rfl, rfl, q6⟩ := q
      rw [bag_7 hW hb]
      have hS6 : CS M6 W nb nc t := hS5.kept (fun k g => q6 k (Or.inl g))
      have hk6 : ∀ k, k < 61 ∨ k = 71 ∨ 74 ≤ k → M6 k = M k := fun k g => (q6 k g).trans (hk5 k g)
      refine Wp.g1 rfl ?_
      by_cases p2 : cw W nc (k % nb) = -10006
      · refine Wp.brf rfl (fun q => q p2) ?_
        refine Wp.g1 rfl ?_
        refine Wp.call rfl (c_score hS6 _ _ _) (fun v M7 h7 q => ?_)
        obtain ⟨rfl, rfl, q7⟩ := q
        rw [e0]
        have hk7 : ∀ k, k < 61 ∨ k = 71 ∨ 74 ≤ k → M7 k = M k := fun k g => (q7 k g).trans (hk6 k g)
        refine Wp.g1 rfl ?_
        refine Wp.brf rfl (by decide) ?_
        refine Wp.g1 rfl ?_
        by_cases p3 : W 1 ≤ scN W (k / nb) (k % nb) 0
        · have hy := gop.mpr ⟨p1, p2, p3⟩
          have hv := gsc hy
          refine Wp.brf rfl (by omega) ?_
          refine Wp.g1 rfl ?_
          by_cases p4 : scN W (k / nb) (k % nb) 0 ≤ bv (fk W nb nc) k
          · refine Wp.brt rfl p4 ?_
            obtain ⟨i1, i2, i3⟩ := fk_stay (W := W) (nb := nb) (nc := nc) (k := k) (by rw [efk, hv]; omega)
            exact cont M7 _ _ _ _ _ hk7 i1.symm i2.symm i3.symm
          · refine Wp.brf rfl p4 ?_
            obtain ⟨i1, i2, i3⟩ := fk_new (W := W) (nb := nb) (nc := nc) (k := k) (by rw [efk, hv]; omega)
            refine Wp.gt 257 rfl ?_
            exact cont M7 _ _ _ _ _ hk7 (by rw [i1, efk, hv]) i2.symm i3.symm
        · have hn : gF W nb nc (k / nb) (k % nb) = -1 := Classical.byContradiction (fun q => p3 (gop.mp q).2.2)
          refine Wp.brt rfl (by omega) ?_
          obtain ⟨i1, i2, i3⟩ := fk_stay (W := W) (nb := nb) (nc := nc) (k := k) (by rw [efk, hn]; omega)
          exact cont M7 _ _ _ _ _ hk7 i1.symm i2.symm i3.symm
      · refine Wp.brt rfl p2 ?_
        exact no M6 hk6 (Classical.byContradiction (fun q => p2 (gop.mp q).2.1))
    · refine Wp.brt rfl p1 ?_
      exact no M5 hk5 (Classical.byContradiction (fun q => p1 (gop.mp q).1))
end SCAN
end
section
/-! all are matched, taken back, and matched one after the other -/
theorem mA_0 {nb nc : Nat} {W : Nat → Int} (hb : bs W nb nc = -1) (d : Nat) : mA nb nc d W = (0, W) := by
  cases d with
  | zero => rfl
  | succ d => exact if_pos hb
theorem scan_at {W : Nat → Int} {nb nc t : Nat} (hW : WF W nb nc t) : bv (fk W nb nc) (nb * nc) = bs W nb nc ∧ (bs W nb nc ≠ -1 → cl W nb nc (nb * nc) = W (114 + 10 * bc W nb nc) ∧ ba W nb nc (nb * nc) = W (18 + 8 * bb W nb nc)) := by
  rcases Nat.eq_zero_or_pos nb with e | e
  · have hb : bs W nb nc = -1 := Classical.byContradiction (fun g => by
      have := (bs_facts g).2.2.1
      omega)
    refine ⟨?_, fun g => absurd hb g⟩
    rw [hb, e, Nat.zero_mul]
    rfl
  · obtain ⟨h1, h2⟩ := scan_eq hW e
    have h1 : bv (fk W nb nc) (nb * nc) = bs W nb nc := h1
    refine ⟨h1, fun g => ?_⟩
    obtain ⟨h3, h4⟩ := h2 g
    have h3 : bp (fk W nb nc) (nb * nc) / nb = bc W nb nc := h3
    have h4 : bp (fk W nb nc) (nb * nc) % nb = bb W nb nc := h4
    unfold cl ba
    rw [h1, if_neg g, if_neg g, h3, h4]
    exact ⟨rfl, rfl⟩
section MATCHED
variable {M : Me} {h : Ml} {a : At} {t : Nat}
theorem sMatch_at {W : Nat → Int} {nb nc : Nat} {r : (Nat × (Nat → Nat → Int)) × (Nat × (Nat → Int)) × (Int × Int × Int)} (hW : WF W nb nc t) (hC : SC W nc) (hb : bs W nb nc ≠ -1) : sMatch ((W, nb, nc), r) (W (114 + 10 * bc W nb nc)) (W (18 + 8 * bb W nb nc)) = (bs W nb nc, ((jn W nb nc, nb, nc), (sv ((W, nb, nc), r)).2)) := by
  obtain ⟨h1, h2, h3, h4, h5⟩ := bs_facts hb
  have e1 : rkC W nc (W (114 + 10 * bc W nb nc)) = bc W nb nc := rkC_at hC h1
  have e2 : rkB W nb (W (18 + 8 * bb W nb nc)) = bb W nb nc := rkB_at hW h3
  have g : gF W nb nc (bc W nb nc) (bb W nb nc) ≠ -1 := by rw [h5]; exact hb
  have e3 : scN W (bc W nb nc) (bb W nb nc) 0 = bs W nb nc := (gF_sc hW g).symm.trans h5
  have e4 := (gF_ge hW _ _ g).1
  show (if rkC W nc (W (114 + 10 * bc W nb nc)) < nc ∧ rkB W nb (W (18 + 8 * bb W nb nc)) < nb then
    (if W (114 + 10 * rkC W nc (W (114 + 10 * bc W nb nc)) + 9) = 0 ∧ cw W nc (rkB W nb (W (18 + 8 * bb W nb nc))) = -10006 ∧ scN W (rkC W nc (W (114 + 10 * bc W nb nc))) (rkB W nb (W (18 + 8 * bb W nb nc))) 0 ≠ -10006 then
      (scN W (rkC W nc (W (114 + 10 * bc W nb nc))) (rkB W nb (W (18 + 8 * bb W nb nc))) 0, ((up W (114 + 10 * rkC W nc (W (114 + 10 * bc W nb nc)) + 9) (W (18 + 8 * rkB W nb (W (18 + 8 * bb W nb nc)))), nb, nc), (sv ((W, nb, nc), r)).2)) else (-10003, ((W, nb, nc), r))) else (-10001, ((W, nb, nc), r))) = _
  rw [e1, e2, if_pos ⟨h1, h3⟩, if_pos ⟨h2, h4, by omega⟩, e3]
  rfl
theorem bs_bd {W : Nat → Int} {nb nc : Nat} (hW : WF W nb nc t) : bs W nb nc ≤ 9600 := bv_le (by decide) 120 (fun i _ => gM_bd hW i)
def Mt (a : At) (t : Nat) (M : Me) (h : Ml) : Option ZV → Me → Ml → Prop := fun v M' h' => v = some (zi 1) ∧ h' = h ∧ (∀ k, 74 ≤ k → M' k = M k) ∧ ∃ (W : Nat → Int) (r : (Nat × (Nat → Nat → Int)) × (Nat × (Nat → Int)) × (Int × Int × Int)), CR M' ((W, a.nb, a.nc), r) ∧ SO ((W, a.nb, a.nc), r) t ∧ Same a.V W
theorem mt_body (hnb : a.nb ≤ 12) (hB : SB a.V a.nb) (hCs : SC a.V a.nc) (hA : AM M a.V a.nb a.nc) {best told had many now : Int} (n : Nat) (hn : n ≤ 10) (M' : Me) (W : Nat → Int) (r : (Nat × (Nat → Nat → Int)) × (Nat × (Nat → Int)) × (Int × Int × Int)) (sum most : Int) (y13 y14 y15 y16 y17 y18 y19 : ZV)
    (hk : ∀ k, 74 ≤ k → M' k = M k) (hC : CR M' ((W, a.nb, a.nc), r)) (hS : SO ((W, a.nb, a.nc), r) t) (hV : Same a.V W) (hmo : 0 ≤ most) (fin : bs W a.nb a.nc = -1 → (n : Int) = many ∧ sum = told ∧ rMatched W a.nc = now)
    (more : bs W a.nb a.nc ≠ -1 → ∀ (M2 : Me) (y13 y14 y15 y16 y17 y18 y19 : ZV), (∀ k, 74 ≤ k → M2 k = M k) → CR M2 ((jn W a.nb a.nc, a.nb, a.nc), (sv ((W, a.nb, a.nc), r)).2) → SO ((jn W a.nb a.nc, a.nb, a.nc), (sv ((W, a.nb, a.nc), r)).2) t → Wp zS0 tL_isMatched none 105 [zr 0, zr 75, zr 76, zi (a.V 1), zi best, zi told, zi had, zi many, zi now, zi 1, zi (w32 (sum + bs W a.nb a.nc)), zi ((n + 1 : Nat) : Int), zi (bs W a.nb a.nc), y13, y14, y15, y16, y17, y18, y19] [] M2 h (Mt a t M h)) :
    Wp zS0 tL_isMatched none 105 [zr 0, zr 75, zr 76, zi (a.V 1), zi best, zi told, zi had, zi many, zi now, zi 1, zi sum, zi n, zi most, y13, y14, y15, y16, y17, y18, y19] [] M' h (Mt a t M h) := by
  have hW : WF W a.nb a.nc t := hS.1
  have hK : CS M' W a.nb a.nc t := hC.cs hS
  have hCw : SC W a.nc := hV.SC hCs
  have hAw : AM M' W a.nb a.nc := by
    have h1 := hV.AM hnb hA
    exact ⟨fun q hq => by rw [hk 75 (by omega)]; exact h1.1 q hq, fun q hq => by rw [hk 76 (by omega)]; exact h1.2 q hq⟩
  have e1 : a.V 1 = W 1 := (hV 1 (by omega)).symm
  obtain ⟨s1, s2⟩ := scan_at hW
  refine Wp.g1 rfl ?_
  refine Wp.brf rfl (by decide) ?_
  refine Wp.g1 rfl ?_
  refine Wp.brf rfl (by omega) ?_
  refine Wp.g1 rfl ?_
  refine Wp.brf rfl (by omega) ?_
  refine Wp.gt 134 rfl ?_
  rw [e1]
  refine m_scan hK hCw hAw (fun M1 y15 y16 y17 y18 y19 hk1 => ?_) (a.nb * a.nc) 0 (by omega) M' _ _ _ _ (fun k _ => rfl)
  have hC1 : CR M1 ((W, a.nb, a.nc), r) := hC.kept (fun k g => hk1 k (by omega))
  rw [s1]
  refine Wp.g1 rfl ?_
  by_cases hb : bs W a.nb a.nc = -1
  · obtain ⟨f1, f2, f3⟩ := fin hb
    rw [hb]
    refine Wp.brt rfl (by decide) ?_
    refine Wp.g1 rfl ?_
    refine Wp.brf rfl (by decide) ?_
    refine Wp.g1 rfl ?_
    refine Wp.brt rfl (by decide) ?_
    refine Wp.g1 rfl ?_
    refine Wp.brf rfl (by decide) ?_
    refine Wp.g1 rfl ?_
    refine Wp.brf rfl (fun q => q f1) ?_
    refine Wp.g1 rfl ?_
    refine Wp.brf rfl (fun q => q f2) ?_
    refine Wp.g1 rfl ?_
    refine Wp.call rfl (c_count (hC1.cs hS) _) (fun v M2 h2 q => ?_)
    obtain ⟨rfl, rfl, q2⟩ := q
    refine Wp.g1 rfl ?_
    refine Wp.brf rfl (fun q => q f3) ?_
    refine Wp.g1 rfl ?_
    exact Wp.re rfl ⟨rfl, rfl, fun k g => (q2 k (by omega)).trans ((hk1 k (by omega)).trans (hk k g)), W, r, hC1.kept (fun k g => q2 k (by omega)), hS, hV⟩
  · obtain ⟨s3, s4⟩ := s2 hb
    have eM := sMatch_at (r := r) hW hCw hb
    have sS := s_match hS (Nat.le_refl t) (W (114 + 10 * bc W a.nb a.nc)) (W (18 + 8 * bb W a.nb a.nc))
    rw [eM] at sS
    have g : gF W a.nb a.nc (bc W a.nb a.nc) (bb W a.nb a.nc) ≠ -1 := by rw [(bs_facts hb).2.2.2.2]; exact hb
    have hge := (gF_ge hW _ _ g).1
    rw [(bs_facts hb).2.2.2.2] at hge
    rw [s3, s4]
    refine Wp.brf rfl (by omega) ?_
    refine Wp.g1 rfl ?_
    refine Wp.call rfl (c_match hC1 hS _ _) (fun v M2 h2 q => ?_)
    rw [eM] at q
    obtain ⟨rfl, rfl, q2, q3⟩ := q
    refine Wp.g1 rfl ?_
    refine Wp.brf rfl (fun q => q rfl) ?_
    refine Wp.gt 105 rfl ?_
    rw [w32_s (n := n) (by omega), ← e1]
    exact more hb M2 _ _ _ _ _ _ _ (fun k g => (q2 k g).trans ((hk1 k (by omega)).trans (hk k g))) q3 sS
theorem m_isMatched (hC : CR M a) (hS : SO a t) (hB : SB a.V a.nb) (hCs : SC a.V a.nc) (hA : AM M a.V a.nb a.nc) : Wp zS0 tL_isMatched none 0 [zr 0, zr 75, zr 76, zi (a.V 1), zn, zn, zn, zn, zn, zn, zn, zn, zn, zn, zn, zn, zn, zn, zn, zn] [] M h (Mt a t M h) := by
  have hW : WF a.V a.nb a.nc t := hS.1
  have hnb := hW.1.2.2.1
  have hnc := hW.1.2.2.2
  have hM0 := mt_bd (V := a.V) a.nc
  have hmle := mA_le (nb := a.nb) (nc := a.nc) 10 a.V
  have hmt := mA_mt 10 hW
  have hend := mA_end 10 hW (by omega)
  have hW1 : WF (mA a.nb a.nc 10 a.V).2 a.nb a.nc t := mA_WF 10 hW
  have hb1 := best_0 hW1 hend
  have ht1 : rTotal (mA a.nb a.nc 10 a.V).2 a.nb a.nc = 0 := total_0 hend 10
  have htl := total_le hW
  have loop : ∀ d n : Nat, n + d = 10 → ∀ (M' : Me) (W : Nat → Int) (r : (Nat × (Nat → Nat → Int)) × (Nat × (Nat → Int)) × (Int × Int × Int)) (sum most : Int) (y13 y14 y15 y16 y17 y18 y19 : ZV), (∀ k, 74 ≤ k → M' k = M k) → CR M' ((W, a.nb, a.nc), r) → SO ((W, a.nb, a.nc), r) t → Same a.V W → 0 ≤ most →
      n + (mA a.nb a.nc d W).1 = (mA a.nb a.nc 10 a.V).1 → (mA a.nb a.nc d W).2 = (mA a.nb a.nc 10 a.V).2 → sum + tot (gM W a.nb a.nc) d = rTotal a.V a.nb a.nc → 0 ≤ sum → sum ≤ 9600 * n → (a.nc : Int) - rMatched W a.nc ≤ d →
      Wp zS0 tL_isMatched none 105 [zr 0, zr 75, zr 76, zi (a.V 1), zi (rBest a.V a.nb a.nc), zi (rTotal a.V a.nb a.nc), zi (rMatched a.V a.nc), zi ((mA a.nb a.nc 10 a.V).1 : Int), zi (rMatched (mA a.nb a.nc 10 a.V).2 a.nc), zi 1, zi sum, zi n, zi most, y13, y14, y15, y16, y17, y18, y19] [] M' h (Mt a t M h) := by
    intro d
    induction d with
    | zero =>
      intro n hn M' W r sum most y13 y14 y15 y16 y17 y18 y19 hk hC1 hS1 hV hmo i1 i2 i3 i4 i5 i6
      have hW' : WF W a.nb a.nc t := hS1.1
      have he := mA_end 0 hW' i6
      have he : bs W a.nb a.nc = -1 := he
      refine mt_body hnb hB hCs hA n (by omega) M' W r sum most y13 y14 y15 y16 y17 y18 y19 hk hC1 hS1 hV hmo (fun _ => ⟨?_, ?_, ?_⟩) (fun g => absurd he g)
      · rw [mA_0 he] at i1
        have i1 : n + 0 = (mA a.nb a.nc 10 a.V).1 := i1
        omega
      · rw [total_0 he] at i3; omega
      · rw [mA_0 he] at i2
        have i2 : W = (mA a.nb a.nc 10 a.V).2 := i2
        rw [← i2]
    | succ d ih =>
      intro n hn M' W r sum most y13 y14 y15 y16 y17 y18 y19 hk hC1 hS1 hV hmo i1 i2 i3 i4 i5 i6
      have hW' : WF W a.nb a.nc t := hS1.1
      refine mt_body hnb hB hCs hA n (by omega) M' W r sum most y13 y14 y15 y16 y17 y18 y19 hk hC1 hS1 hV hmo (fun he => ⟨?_, ?_, ?_⟩) (fun g M2 y13 y14 y15 y16 y17 y18 y19 hk2 hC2 hS2 => ?_)
      · rw [mA_0 he] at i1
        have i1 : n + 0 = (mA a.nb a.nc 10 a.V).1 := i1
        omega
      · rw [total_0 he] at i3; omega
      · rw [mA_0 he] at i2
        have i2 : W = (mA a.nb a.nc 10 a.V).2 := i2
        rw [← i2]
      · have gg : gF W a.nb a.nc (bc W a.nb a.nc) (bb W a.nb a.nc) ≠ -1 := by rw [(bs_facts g).2.2.2.2]; exact g
        have hge := (gF_ge hW' _ _ gg).1
        rw [(bs_facts g).2.2.2.2] at hge
        have hle := bs_bd hW'
        rw [mA_step g] at i1 i2
        have i1 : n + ((mA a.nb a.nc d (jn W a.nb a.nc)).1 + 1) = (mA a.nb a.nc 10 a.V).1 := i1
        have i2 : (mA a.nb a.nc d (jn W a.nb a.nc)).2 = (mA a.nb a.nc 10 a.V).2 := i2
        rw [total_s hW' g] at i3
        have hj := mt_jn hW' g
        rw [w32_id (x := sum + bs W a.nb a.nc) ⟨by omega, by omega⟩]
        exact ih (n + 1) (by omega) M2 _ _ _ _ _ _ _ _ _ _ _ hk2 hC2 hS2 (hV.tr Same.jn) hge (by omega) i2 (by omega) (by omega) (by omega) (by omega)
  have hK := hC.cs hS
  refine Wp.g1 rfl ?_
  refine Wp.call rfl (c_bestTotal hK) (fun v M1 h1 q => ?_)
  obtain ⟨rfl, rfl, q1⟩ := q
  have hC1 : CR M1 a := hC.kept (fun k g => q1 k (by omega))
  refine Wp.g1 rfl ?_
  refine Wp.call rfl (c_totalOfAll (hC1.cs hS)) (fun v M2 h2 q => ?_)
  obtain ⟨rfl, rfl, q2⟩ := q
  have hC2 : CR M2 a := hC1.kept (fun k g => q2 k (by omega))
  refine Wp.g1 rfl ?_
  refine Wp.call rfl (c_count (hC2.cs hS) _) (fun v M3 h3 q => ?_)
  obtain ⟨rfl, rfl, q3⟩ := q
  have hC3 : CR M3 a := hC2.kept (fun k g => q3 k (by omega))
  refine Wp.g1 rfl ?_
  refine Wp.call rfl (c_matchAll hC3 hS) (fun v M4 h4 q => ?_)
  obtain ⟨rfl, rfl, q4, hC4⟩ := q
  have hS4 : SO (sMatchAll a).2 t := s_matchAll hS (Nat.le_refl t)
  refine Wp.g1 rfl ?_
  refine Wp.call rfl (c_count (hC4.cs hS4) _) (fun v M5 h5 q => ?_)
  obtain ⟨rfl, rfl, q5⟩ := q
  have hC5 : CR M5 (sMatchAll a).2 := hC4.kept (fun k g => q5 k (by omega))
  have ec : rCount (sMatchAll a).2.V (sMatchAll a).2.nb (sMatchAll a).2.nc 3 = rMatched (mA a.nb a.nc 10 a.V).2 a.nc := rfl
  have ec2 : rCount a.V a.nb a.nc 3 = rMatched a.V a.nc := rfl
  have em : (sMatchAll a).1 = ((mA a.nb a.nc 10 a.V).1 : Int) := rfl
  rw [ec, ec2, em]
  refine Wp.g1 rfl ?_
  rw [w32_id (x := rMatched a.V a.nc + ((mA a.nb a.nc 10 a.V).1 : Int)) ⟨by omega, by omega⟩]
  refine Wp.brf rfl (fun q => q hmt) ?_
  refine Wp.g1 rfl ?_
  refine Wp.brf rfl (by omega) ?_
  refine Wp.g1 rfl ?_
  refine Wp.call rfl (c_bestTotal (hC5.cs hS4)) (fun v M6 h6 q => ?_)
  obtain ⟨rfl, rfl, q6⟩ := q
  have hC6 : CR M6 (sMatchAll a).2 := hC5.kept (fun k g => q6 k (by omega))
  refine Wp.brf rfl (fun q => q hb1) ?_
  refine Wp.g1 rfl ?_
  refine Wp.call rfl (c_totalOfAll (hC6.cs hS4)) (fun v M7 h7 q => ?_)
  obtain ⟨rfl, rfl, q7⟩ := q
  have hC7 : CR M7 (sMatchAll a).2 := hC6.kept (fun k g => q7 k (by omega))
  refine Wp.brf rfl (fun q => q ht1) ?_
  refine Wp.g1 rfl ?_
  have eP : svP a.kn a.V a.P (svK a.kn - 1) = a.V := by
    unfold svP svK
    by_cases g : a.kn = 6
    · rw [if_pos g, if_pos g]; exact if_neg (by decide)
    · rw [if_neg g, if_neg g]; exact if_neg (by omega)
  have hk0 : svK a.kn ≠ 0 := by unfold svK; split <;> omega
  have eU : sUndo (sMatchAll a).2 = (((svK a.kn - 1 : Nat) : Int), ((a.V, a.nb, a.nc), (svK a.kn - 1, svP a.kn a.V a.P), a.2.2)) := by
    have e : sUndo (sMatchAll a).2 = (((svK a.kn - 1 : Nat) : Int), ((svP a.kn a.V a.P (svK a.kn - 1), (svP a.kn a.V a.P (svK a.kn - 1) 10).toNat, (svP a.kn a.V a.P (svK a.kn - 1) 12).toNat), (svK a.kn - 1, svP a.kn a.V a.P), a.2.2)) := if_neg hk0
    rw [e, eP, hW.1.1, hW.1.2.1, Int.toNat_natCast, Int.toNat_natCast]
  have hS8 := s_undo hS4 (Nat.le_refl t)
  rw [eU] at hS8
  refine Wp.call rfl (c_undo hC7 hS4) (fun v M8 h8 q => ?_)
  rw [eU] at q
  obtain ⟨rfl, rfl, q8, hC8⟩ := q
  refine Wp.brf rfl (by omega) ?_
  refine Wp.g1 rfl ?_
  refine Wp.call rfl (c_count (hC8.cs hS8) _) (fun v M9 h9 q => ?_)
  obtain ⟨rfl, rfl, q9⟩ := q
  have hC9 := hC8.kept (M' := M9) (fun k g => q9 k (by omega))
  refine Wp.g1 rfl ?_
  refine Wp.brf rfl (fun q => q rfl) ?_
  refine Wp.g1 rfl ?_
  refine Wp.call rfl (c_bestTotal (hC9.cs hS8)) (fun v M10 h10 q => ?_)
  obtain ⟨rfl, rfl, q10⟩ := q
  have hC10 := hC9.kept (M' := M10) (fun k g => q10 k (by omega))
  refine Wp.g1 rfl ?_
  refine Wp.brf rfl (fun q => q rfl) ?_
  refine Wp.gt 105 rfl ?_
  refine loop 10 0 (by omega) M10 a.V _ 0 0 _ _ _ _ _ _ _ (fun k g => ?_) hC10 hS8 (Same.rf _) (by decide) (by omega) rfl ?_ (by decide) (by decide) (by omega)
  · exact (q10 k (by omega)).trans ((q9 k (by omega)).trans ((q8 k g).trans ((q7 k (by omega)).trans ((q6 k (by omega)).trans ((q5 k (by omega)).trans ((q4 k g).trans ((q3 k (by omega)).trans ((q2 k (by omega)).trans (q1 k (by omega))))))))))
  · rw [Int.zero_add]; rfl
end MATCHED
end
section
/-! what stays from step to step of the law -/
def Iv (a : At) (e : Nat) : Prop := SO a e ∧ SB a.V a.nb ∧ SC a.V a.nc ∧ (a.V 11 ≤ e ∧ a.V 13 ≤ e) ∧ a.V 0 ≤ 99 * e
def GR (M : Me) (V : Nat → Int) : Prop := M 74 0 = V 1 ∧ ∀ i, i < 6 → M 74 (1 + i) = V (4 + i)
section KEEPS
variable {V W : Nat → Int} {nb nc t e : Nat} {a b : At}
theorem Iv.mono (h : Iv a e) : Iv a (e + 1) := ⟨h.1.mono (by omega), h.2.1, h.2.2.1, ⟨by have := h.2.2.2.1.1; omega, by have := h.2.2.2.1.2; omega⟩, by have := h.2.2.2.2; omega⟩
theorem Iv.of (h : Iv a e) (hS : SO b (e + 1)) (hB : SB b.V b.nb) (hC : SC b.V b.nc) (h11 : b.V 11 ≤ a.V 11 + 1) (h13 : b.V 13 ≤ a.V 13 + 1) (h0 : b.V 0 ≤ a.V 0 + 99) : Iv b (e + 1) := ⟨hS, hB, hC, ⟨by have := h.2.2.2.1.1; omega, by have := h.2.2.2.1.2; omega⟩, by have := h.2.2.2.2; omega⟩
theorem GR.same {M M' : Me} (h : GR M V) (hM : M' 74 = M 74) (h1 : W 1 = V 1) (h4 : ∀ i, i < 6 → W (4 + i) = V (4 + i)) : GR M' W := ⟨by rw [hM, h1]; exact h.1, fun i hi => by rw [hM, h4 i hi]; exact h.2 i hi⟩
theorem SB.head (hV : ∀ j, 18 ≤ j → W j = V j) (h : SB V nb) : SB W nb := fun r q h1 h2 => by rw [hV _ (by omega), hV _ (by omega)]; exact h r q h1 h2
theorem SC.head (hV : ∀ j, 18 ≤ j → W j = V j) (h : SC V nc) : SC W nc := fun r q h1 h2 => by rw [hV _ (by omega), hV _ (by omega)]; exact h r q h1 h2
theorem sk_mono {c r q : Nat} (h : r < q) : sk c r < sk c q := by unfold sk; split <;> split <;> omega
theorem SB.add (hW : WF V nb nc t) (hn : nb < 12) (h : SB V nb) (x0 x1 x2 x3 x4 x5 : Int) : SB (nBag V nb x0 x1 x2 x3 x4 x5) (nb + 1) := fun r q h1 h2 => by
  rw [nBag_off (j := 18 + 8 * r) (by omega) (by omega) (by omega)]
  by_cases g : q = nb
  · subst g
    rw [(nBag_hd x0 x1 x2 x3 x4 x5).2.2]
    have := (hW.2.2.1 r h1).2.1
    omega
  · rw [nBag_off (j := 18 + 8 * q) (by omega) (by omega) (by omega)]
    exact h r q h1 (by omega)
theorem SC.addB (hn : nb < 12) (h : SC V nc) (x0 x1 x2 x3 x4 x5 : Int) : SC (nBag V nb x0 x1 x2 x3 x4 x5) nc := fun r q h1 h2 => by
  rw [nBag_off (j := 114 + 10 * r) (by omega) (by omega) (by omega), nBag_off (j := 114 + 10 * q) (by omega) (by omega) (by omega)]
  exact h r q h1 h2
theorem SC.add (hW : WF V nb nc t) (h : SC V nc) (x0 x1 x2 x3 x4 x5 x6 x7 : Int) : SC (nClm V nc x0 x1 x2 x3 x4 x5 x6 x7) (nc + 1) := fun r q h1 h2 => by
  rw [nClm_off (j := 114 + 10 * r) (by omega) (by omega) (by omega)]
  by_cases g : q = nc
  · subst g
    rw [(nClm_hd x0 x1 x2 x3 x4 x5 x6 x7).2.2.1]
    have := (hW.2.2.2.1 r h1).2.1
    omega
  · rw [nClm_off (j := 114 + 10 * q) (by omega) (by omega) (by omega)]
    exact h r q h1 (by omega)
theorem SB.addC (hn : nb ≤ 12) (h : SB V nb) (x0 x1 x2 x3 x4 x5 x6 x7 : Int) : SB (nClm V nc x0 x1 x2 x3 x4 x5 x6 x7) nb := fun r q h1 h2 => by
  rw [nClm_off (j := 18 + 8 * r) (by omega) (by omega) (by omega), nClm_off (j := 18 + 8 * q) (by omega) (by omega) (by omega)]
  exact h r q h1 h2
theorem rmB_num {b r : Nat} (hr : r + 1 < nb) : rmB V nb b (18 + 8 * r) = V (18 + 8 * sk b r) := rmB_sk (k := 0) hr (by decide)
theorem rmC_num {c r : Nat} (hr : r + 1 < nc) : rmC V nc c (114 + 10 * r) = V (114 + 10 * sk c r) := rmC_sk (k := 0) hr (by decide)
theorem SB.rm {b : Nat} (h : SB V nb) : SB (rmB V nb b) (nb - 1) := fun r q h1 h2 => by
  rw [rmB_num (by omega), rmB_num (by omega)]
  exact h _ _ (sk_mono h1) (sk_lt (by omega))
theorem SC.rmB {b : Nat} (hn : nb ≤ 12) (h : SC V nc) : SC (rmB V nb b) nc := fun r q h1 h2 => by
  rw [rmB_off (by omega) (by omega), rmB_off (by omega) (by omega)]
  exact h r q h1 h2
theorem SC.rm {c : Nat} (h : SC V nc) : SC (rmC V nc c) (nc - 1) := fun r q h1 h2 => by
  rw [rmC_num (by omega), rmC_num (by omega)]
  exact h _ _ (sk_mono h1) (sk_lt (by omega))
theorem SB.rmC {c : Nat} (hn : nb ≤ 12) (h : SB V nb) : SB (rmC V nc c) nb := fun r q h1 h2 => by
  rw [rmC_off (by omega) (by omega), rmC_off (by omega) (by omega)]
  exact h r q h1 h2
theorem cnt_off {k : Nat} {p : Int} {j : Nat} (h1 : j ≠ k) (h2 : j ≠ 17) : cntV V k p j = V j := by
  unfold cntV
  rw [up_off h2, up_off h1]
theorem cnt_17 {k : Nat} {p : Int} (hk : k ≠ 17) : cntV V k p 17 = w32 (V 17 + p) := by
  unfold cntV
  rw [up_at]
end KEEPS
end
section
/-! what the law does in a step: settings, matches -/
abbrev dL (v w C B p : Int) (nb nc : Nat) : List ZV := [zr 0, zr 74, zi v, zi w, zi C, zi B, zi p, zi nb, zi nc, zn, zn, zn, zn, zn, zn, zn, zn, zn, zn, zn, zn, zn, zn, zn, zn, zn, zn, zn, zn]
def Dp (e : Nat) (h : Ml) : Option ZV → Me → Ml → Prop := fun v M' h' => v = some (zi 1) ∧ h' = h ∧ ∃ a', CR M' a' ∧ Iv a' (e + 1) ∧ GR M' a'.V
def isC (a : At) (C : Int) : Prop := (C = 0 ∧ a.nc = 0) ∨ ∃ c, c < a.nc ∧ C = a.V (114 + 10 * c)
def isB (a : At) (B : Int) : Prop := (B = 0 ∧ a.nb = 0) ∨ ∃ b, b < a.nb ∧ B = a.V (18 + 8 * b)
section DOES
variable {M : Me} {h : Ml} {a : At} {e : Nat}
theorem d_threshold (hC : CR M a) (hI : Iv a e) (hG : GR M a.V) (v w C B p : Int) : Wp zS0 tL_does none 1022 (dL v w C B p a.nb a.nc) [] M h (Dp e h) := by
  have hS := hI.1
  have l1 := lo_lt w (n := 201) (by decide)
  refine Wp.g1 rfl ?_
  refine Wp.calli rfl (m_low w 201 (by decide) M h) ?_
  refine Wp.g1 rfl ?_
  refine Wp.ld rfl rfl 0 rfl (by decide) ?_
  refine Wp.g1 rfl ?_
  refine Wp.sto rfl rfl 0 rfl (by decide) ?_
  have hC1 : CR (upd2 M 74 0 (lo w 201 : Int)) a := hC.kept (fun k g => by rw [upd2_ne (by omega)])
  refine Wp.g1 rfl ?_
  have eT : sThreshold a (lo w 201 : Int) = (a.V 1, ((up a.V 1 (lo w 201 : Int), a.nb, a.nc), (sv a).2)) := if_neg (by omega)
  have sT := s_threshold hS (show e ≤ e + 1 by omega) (lo w 201 : Int)
  rw [eT] at sT
  refine Wp.call rfl (c_setThreshold hC1 hS _) (fun v2 M2 h2 q => ?_)
  rw [eT] at q
  obtain ⟨rfl, rfl, q2, q3⟩ := q
  refine Wp.g1 rfl ?_
  refine Wp.brf rfl (fun q => q hG.1.symm) ?_
  refine Wp.g1 rfl ?_
  refine Wp.re rfl ⟨rfl, rfl, _, q3, hI.of sT (hI.2.1.head (fun j g => up_off (by omega))) (hI.2.2.1.head (fun j g => up_off (by omega))) ?_ ?_ ?_, ?_, fun i hi => ?_⟩
  · show up a.V 1 (lo w 201 : Int) 11 ≤ a.V 11 + 1
    rw [up_off (by decide)]; omega
  · show up a.V 1 (lo w 201 : Int) 13 ≤ a.V 13 + 1
    rw [up_off (by decide)]; omega
  · show up a.V 1 (lo w 201 : Int) 0 ≤ a.V 0 + 99
    rw [up_off (by decide)]; omega
  · show M2 74 0 = up a.V 1 (lo w 201 : Int) 1
    rw [q2 74 (by omega), upd2_at, up_at]
  · show M2 74 (1 + i) = up a.V 1 (lo w 201 : Int) (4 + i)
    rw [q2 74 (by omega), upd2_off (by omega), up_off (by omega)]
    exact hG.2 i hi
theorem d_weight (hC : CR M a) (hI : Iv a e) (hG : GR M a.V) (v w C B p : Int) : Wp zS0 tL_does none 1058 (dL v w C B p a.nb a.nc) [] M h (Dp e h) := by
  have hS := hI.1
  refine Wp.g1 rfl ?_
  refine Wp.calli rfl (m_low (bShr v 5) 6 (by decide) M h) ?_
  have l1 := lo_lt (bShr v 5) (n := 6) (by decide)
  generalize lo (bShr v 5) 6 = i at l1
  have e1 : w32 (1 + (i : Int)) = ((1 + i : Nat) : Int) := by rw [w32_id ⟨by omega, by omega⟩]; omega
  refine Wp.g1 rfl ?_
  rw [e1]
  refine Wp.ld rfl rfl (1 + i) rfl (by omega) ?_
  refine Wp.g1 rfl ?_
  rw [e1]
  refine Wp.calli rfl (m_low w 51 (by decide) M h) ?_
  have l2 := lo_lt w (n := 51) (by decide)
  generalize lo w 51 = y at l2
  refine Wp.sto rfl rfl (1 + i) rfl (by omega) ?_
  have hC1 : CR (upd2 M 74 (1 + i) (y : Int)) a := hC.kept (fun k g => by rw [upd2_ne (by omega)])
  refine Wp.g1 rfl ?_
  rw [e1]
  refine Wp.ld rfl rfl (1 + i) rfl (by omega) ?_
  rw [upd2_at]
  have eT : sWeight a (i : Int) (y : Int) = (a.V (4 + i), ((up a.V (4 + i) (y : Int), a.nb, a.nc), (sv a).2)) := by
    unfold sWeight
    rw [if_neg (by omega), if_neg (by omega), Int.toNat_natCast]
  have sT := s_weight hS (show e ≤ e + 1 by omega) (i : Int) (y : Int)
  rw [eT] at sT
  refine Wp.call rfl (c_setWeight hC1 hS _ _) (fun v2 M2 h2 q => ?_)
  rw [eT] at q
  obtain ⟨rfl, rfl, q2, q3⟩ := q
  refine Wp.g1 rfl ?_
  refine Wp.brf rfl (fun q => q (hG.2 i l1).symm) ?_
  refine Wp.g1 rfl ?_
  refine Wp.re rfl ⟨rfl, rfl, _, q3, hI.of sT (hI.2.1.head (fun j g => up_off (by omega))) (hI.2.2.1.head (fun j g => up_off (by omega))) ?_ ?_ ?_, ?_, fun j hj => ?_⟩
  · show up a.V (4 + i) (y : Int) 11 ≤ a.V 11 + 1
    rw [up_off (by omega)]; omega
  · show up a.V (4 + i) (y : Int) 13 ≤ a.V 13 + 1
    rw [up_off (by omega)]; omega
  · show up a.V (4 + i) (y : Int) 0 ≤ a.V 0 + 99
    rw [up_off (by omega)]; omega
  · show M2 74 0 = up a.V (4 + i) (y : Int) 1
    rw [q2 74 (by omega), upd2_off (by omega), up_off (by omega)]
    exact hG.1
  · show M2 74 (1 + j) = up a.V (4 + i) (y : Int) (4 + j)
    rw [q2 74 (by omega)]
    by_cases g : j = i
    · subst g
      rw [upd2_at, up_at]
    · rw [upd2_off (by omega), up_off (by omega)]
      exact hG.2 j hj
theorem d_pass (hC : CR M a) (hI : Iv a e) (hG : GR M a.V) (he : e < 60) (v w C B p : Int) : Wp zS0 tL_does none 1111 (dL v w C B p a.nb a.nc) [] M h (Dp e h) := by
  have hS := hI.1
  have h0 := hI.2.2.2.2
  have hv0 := hS.1.2.1.1
  refine Wp.g1 rfl ?_
  refine Wp.call rfl (c_count (hC.cs hS) _) (fun v1 M1 h1 q => ?_)
  obtain ⟨rfl, rfl, q1⟩ := q
  have hC1 : CR M1 a := hC.kept (fun k g => q1 k (by omega))
  have ec : rCount a.V a.nb a.nc 0 = a.V 0 := rfl
  rw [ec]
  refine Wp.g1 rfl ?_
  have rest : ∀ n : Nat, 0 < n → n ≤ 99 → Wp zS0 tL_does none 1135 [zr 0, zr 74, zi v, zi w, zi C, zi B, zi p, zi a.nb, zi a.nc, zn, zn, zn, zn, zn, zn, zn, zn, zn, zn, zn, zn, zn, zn, zn, zn, zn, zn, zi (a.V 0), zn] [zi n, zi w, zi 1] M1 h1 (Dp e h1) := by
    intro n hn1 hn2
    refine Wp.calli rfl (m_low w n hn1 M1 h1) ?_
    have l2 := lo_lt w hn1
    generalize lo w n = y at l2
    refine Wp.g1 rfl ?_
    rw [w32_id (x := 1 + (y : Int)) ⟨by omega, by omega⟩]
    have eT : sPass a (1 + (y : Int)) = (a.V 0 + (1 + (y : Int)), ((up a.V 0 (a.V 0 + (1 + (y : Int))), a.nb, a.nc), (sv a).2)) := by
      unfold sPass
      rw [if_neg (by omega), if_neg (by omega)]
    have sT := s_pass hS (show e ≤ e + 1 by omega) (1 + (y : Int))
    rw [eT] at sT
    refine Wp.call rfl (c_pass hC1 hS _) (fun v2 M2 h2 q => ?_)
    rw [eT] at q
    obtain ⟨rfl, rfl, q2, q3⟩ := q
    refine Wp.g1 rfl ?_
    rw [w32_id (x := a.V 0 + (1 + (y : Int))) ⟨by omega, by omega⟩]
    refine Wp.brf rfl (fun q => q rfl) ?_
    refine Wp.g1 rfl ?_
    refine Wp.re rfl ⟨rfl, rfl, _, q3, hI.of sT (hI.2.1.head (fun j g => up_off (by omega))) (hI.2.2.1.head (fun j g => up_off (by omega))) ?_ ?_ ?_, hG.same ?_ ?_ (fun j hj => ?_)⟩
    · show up a.V 0 (a.V 0 + (1 + (y : Int))) 11 ≤ a.V 11 + 1
      rw [up_off (by omega)]; omega
    · show up a.V 0 (a.V 0 + (1 + (y : Int))) 13 ≤ a.V 13 + 1
      rw [up_off (by omega)]; omega
    · show up a.V 0 (a.V 0 + (1 + (y : Int))) 0 ≤ a.V 0 + 99
      rw [up_at]; omega
    · rw [q2 74 (by omega)]
      exact q1 74 (by omega)
    · show up a.V 0 (a.V 0 + (1 + (y : Int))) 1 = a.V 1
      exact up_off (by decide)
    · show up a.V 0 (a.V 0 + (1 + (y : Int))) (4 + j) = a.V (4 + j)
      exact up_off (by omega)
  refine Wp.br rfl (fun c0 => ?_) (fun c0 => ?_)
  · refine Wp.gt 1135 rfl ?_
    exact rest 12 (by decide) (by decide)
  · refine Wp.gt 1135 rfl ?_
    exact rest 99 (by decide) (by decide)
theorem d_unmatch (hC : CR M a) (hI : Iv a e) (hG : GR M a.V) (v w C B p : Int) (hc : isC a C) : Wp zS0 tL_does none 619 (dL v w C B p a.nb a.nc) [] M h (Dp e h) := by
  have hS := hI.1
  have hW : WF a.V a.nb a.nc e := hS.1
  have hCs : SC a.V a.nc := hI.2.2.1
  rcases hc with ⟨rfl, c0⟩ | ⟨c, c1, rfl⟩
  · have eU : sUnmatch a 0 = (-10001, a) := if_neg (by rw [rkC_no (fun r hr => by omega)]; omega)
    refine Wp.g1 rfl ?_
    refine Wp.brf rfl (by decide) ?_
    refine Wp.g1 rfl ?_
    refine Wp.call rfl (c_unmatch hC hS _) (fun v2 M2 h2 q => ?_)
    rw [eU] at q
    obtain ⟨rfl, rfl, q2, q3⟩ := q
    refine Wp.g1 rfl ?_
    refine Wp.brf rfl (by decide) ?_
    refine Wp.g1 rfl ?_
    refine Wp.brf rfl (fun q => q rfl) ?_
    refine Wp.g1 rfl ?_
    exact Wp.re rfl ⟨rfl, rfl, a, q3, hI.mono, hG.same (q2 74 (by omega)) rfl (fun _ _ => rfl)⟩
  · have hp := (hW.2.2.2.1 c c1).1
    have er : rkC a.V a.nc (a.V (114 + 10 * c)) = c := rkC_at hCs c1
    refine Wp.g1 rfl ?_
    refine Wp.brt rfl (by omega) ?_
    refine Wp.g1 rfl ?_
    refine Wp.call rfl (c_claimOf (hC.cs hS) _ _) (fun v1 M1 h1 q => ?_)
    obtain ⟨rfl, rfl, q1⟩ := q
    have hC1 : CR M1 a := hC.kept (fun k g => q1 k (by omega))
    rw [claim_8 hCs c1]
    refine Wp.g1 rfl ?_
    have sU := s_unmatch hS (show e ≤ e + 1 by omega) (a.V (114 + 10 * c))
    by_cases g0 : a.V (114 + 10 * c + 9) = 0
    · have eU : sUnmatch a (a.V (114 + 10 * c)) = (-10003, a) := by
        unfold sUnmatch
        rw [er, if_pos c1, if_pos g0]
      refine Wp.call rfl (c_unmatch hC1 hS _) (fun v2 M2 h2 q => ?_)
      rw [eU] at q
      obtain ⟨rfl, rfl, q2, q3⟩ := q
      rw [(pt_free hW c1).mpr g0]
      refine Wp.g1 rfl ?_
      refine Wp.brt rfl (by omega) ?_
      refine Wp.g1 rfl ?_
      refine Wp.brf rfl (by decide) ?_
      refine Wp.g1 rfl ?_
      refine Wp.brf rfl (fun q => q rfl) ?_
      refine Wp.g1 rfl ?_
      exact Wp.re rfl ⟨rfl, rfl, a, q3, hI.mono, hG.same ((q2 74 (by omega)).trans (q1 74 (by omega))) rfl (fun _ _ => rfl)⟩
    · have eU : sUnmatch a (a.V (114 + 10 * c)) = (a.V (114 + 10 * c + 9), ((up a.V (114 + 10 * c + 9) 0, a.nb, a.nc), (sv a).2)) := by
        unfold sUnmatch
        rw [er, if_pos c1, if_neg g0]
      rw [eU] at sU
      have hne : pt a.V c ≠ -10006 := fun q => g0 ((pt_free hW c1).mp q)
      refine Wp.call rfl (c_unmatch hC1 hS _) (fun v2 M2 h2 q => ?_)
      rw [eU] at q
      obtain ⟨rfl, rfl, q2, q3⟩ := q
      refine Wp.g1 rfl ?_
      refine Wp.brt rfl (by omega) ?_
      refine Wp.g1 rfl ?_
      refine Wp.brt rfl hne ?_
      refine Wp.g1 rfl ?_
      refine Wp.brf rfl (fun q => q (pt_val g0).symm) ?_
      refine Wp.g1 rfl ?_
      have sm := Same.up9 a.V c 0
      refine Wp.re rfl ⟨rfl, rfl, _, q3, hI.of sU (sm.SB hW.1.2.2.1 hI.2.1) (sm.SC hCs) ?_ ?_ ?_, hG.same ((q2 74 (by omega)).trans (q1 74 (by omega))) (sm 1 (by omega)) (fun i hi => sm _ (by omega))⟩
      · have := sm 11 (by omega)
        show up a.V (114 + 10 * c + 9) 0 11 ≤ a.V 11 + 1
        omega
      · have := sm 13 (by omega)
        show up a.V (114 + 10 * c + 9) 0 13 ≤ a.V 13 + 1
        omega
      · have := sm 0 (by omega)
        show up a.V (114 + 10 * c + 9) 0 0 ≤ a.V 0 + 99
        omega
theorem d_match (hC : CR M a) (hI : Iv a e) (hG : GR M a.V) (v w C B p : Int) (hc : isC a C) (hb : isB a B) : Wp zS0 tL_does none 491 (dL v w C B p a.nb a.nc) [] M h (Dp e h) := by
  have hS := hI.1
  have hW : WF a.V a.nb a.nc e := hS.1
  have hCs : SC a.V a.nc := hI.2.2.1
  rcases hc with ⟨rfl, c0⟩ | ⟨c, c1, rfl⟩
  · have eU : sMatch a 0 B = (-10001, a) := if_neg (fun q => by have := q.1; rw [rkC_no (fun r hr => by omega)] at this; omega)
    refine Wp.g1 rfl ?_
    refine Wp.brt rfl rfl ?_
    refine Wp.g1 rfl ?_
    refine Wp.brt rfl (by decide) ?_
    refine Wp.g1 rfl ?_
    refine Wp.call rfl (c_match hC hS _ _) (fun v2 M2 h2 q => ?_)
    rw [eU] at q
    obtain ⟨rfl, rfl, q2, q3⟩ := q
    refine Wp.g1 rfl ?_
    refine Wp.brt rfl rfl ?_
    refine Wp.g1 rfl ?_
    refine Wp.brf rfl (fun q => q rfl) ?_
    refine Wp.g1 rfl ?_
    exact Wp.re rfl ⟨rfl, rfl, a, q3, hI.mono, hG.same (q2 74 (by omega)) rfl (fun _ _ => rfl)⟩
  · have hp := (hW.2.2.2.1 c c1).1
    have er : rkC a.V a.nc (a.V (114 + 10 * c)) = c := rkC_at hCs c1
    refine Wp.g1 rfl ?_
    refine Wp.brf rfl (by omega) ?_
    refine Wp.g1 rfl ?_
    rcases hb with ⟨rfl, b0⟩ | ⟨b, b1, rfl⟩
    · have eU : sMatch a (a.V (114 + 10 * c)) 0 = (-10001, a) := if_neg (fun q => by have := q.2; rw [rkB_no (fun r hr => by omega)] at this; omega)
      refine Wp.brf rfl (by decide) ?_
      refine Wp.g1 rfl ?_
      refine Wp.brf rfl (by omega) ?_
      refine Wp.g1 rfl ?_
      refine Wp.brt rfl (by decide) ?_
      refine Wp.g1 rfl ?_
      refine Wp.call rfl (c_match hC hS _ _) (fun v2 M2 h2 q => ?_)
      rw [eU] at q
      obtain ⟨rfl, rfl, q2, q3⟩ := q
      refine Wp.g1 rfl ?_
      refine Wp.brf rfl (by omega) ?_
      refine Wp.g1 rfl ?_
      refine Wp.brf rfl (by decide) ?_
      refine Wp.g1 rfl ?_
      refine Wp.brf rfl (fun q => q rfl) ?_
      refine Wp.g1 rfl ?_
      exact Wp.re rfl ⟨rfl, rfl, a, q3, hI.mono, hG.same (q2 74 (by omega)) rfl (fun _ _ => rfl)⟩
    · have hpb := (hW.2.2.1 b b1).1
      have eb : rkB a.V a.nb (a.V (18 + 8 * b)) = b := rkB_at hW b1
      have e0 : rScore a.V a.nb a.nc (a.V (114 + 10 * c)) (a.V (18 + 8 * b)) 0 = scN a.V c b 0 := score_at hW hCs c1 b1 (z := 0) (by decide)
      refine Wp.brt rfl (by omega) ?_
      refine Wp.g1 rfl ?_
      refine Wp.call rfl (c_score (hC.cs hS) _ _ _) (fun v1 M1 h1 q => ?_)
      obtain ⟨rfl, rfl, q1⟩ := q
      rw [e0]
      have hC1 : CR M1 a := hC.kept (fun k g => q1 k (by omega))
      -- impossible
      have no : ∀ M3 : Me, (∀ k, k < 61 ∨ k = 71 ∨ 74 ≤ k → M3 k = M1 k) → ¬ (pt a.V c = -10006 ∧ cw a.V a.nc b = -10006 ∧ scN a.V c b 0 ≠ -10006) → Wp zS0 tL_does none 566 [zr 0, zr 74, zi v, zi w, zi (a.V (114 + 10 * c)), zi (a.V (18 + 8 * b)), zi p, zi a.nb, zi a.nc, zn, zn, zn, zi (scN a.V c b 0), zn, zn, zn, zn, zn, zn, zn, zn, zn, zn, zn, zn, zn, zn, zn, zn] [] M3 h1 (Dp e h1) := by
        intro M3 k3 hno
        have hC3 : CR M3 a := hC1.kept (fun k g => k3 k (by omega))
        have eU : sMatch a (a.V (114 + 10 * c)) (a.V (18 + 8 * b)) = (-10003, a) := by
          unfold sMatch
          rw [er, eb, if_pos ⟨c1, b1⟩, if_neg (fun q => hno ⟨(pt_free hW c1).mpr q.1, q.2⟩)]
        refine Wp.g1 rfl ?_
        refine Wp.call rfl (c_match hC3 hS _ _) (fun v2 M2 h2 q => ?_)
        rw [eU] at q
        obtain ⟨rfl, rfl, q2, q3⟩ := q
        refine Wp.g1 rfl ?_
        refine Wp.brf rfl (by omega) ?_
        refine Wp.g1 rfl ?_
        refine Wp.brt rfl (by omega) ?_
        refine Wp.g1 rfl ?_
        refine Wp.brt rfl rfl ?_
        refine Wp.g1 rfl ?_
        refine Wp.brf rfl (fun q => q rfl) ?_
        refine Wp.g1 rfl ?_
        exact Wp.re rfl ⟨rfl, rfl, a, q3, hI.mono, hG.same ((q2 74 (by omega)).trans ((k3 74 (by omega)).trans (q1 74 (by omega)))) rfl (fun _ _ => rfl)⟩
      refine Wp.g1 rfl ?_
      refine Wp.brf rfl (by omega) ?_
      refine Wp.g1 rfl ?_
      refine Wp.brf rfl (by omega) ?_
      refine Wp.g1 rfl ?_
      refine Wp.call rfl (c_claimOf (hC1.cs hS) _ _) (fun v2 M2 h2 q => ?_)
      obtain ⟨rfl, rfl, q2⟩ := q
      have hC2 : CR M2 a := hC1.kept (fun k g => q2 k (by omega))
      rw [claim_8 hCs c1]
      refine Wp.g1 rfl ?_
      by_cases p1 : pt a.V c = -10006
      · refine Wp.brf rfl (fun q => q p1) ?_
        refine Wp.g1 rfl ?_
        refine Wp.call rfl (c_bag (hC2.cs hS) _ _) (fun v3 M3 h3 q => ?_)
        obtain ⟨rfl, rfl, q3⟩ := q
        have hC3 : CR M3 a := hC2.kept (fun k g => q3 k (by omega))
        rw [bag_7 hW b1]
        refine Wp.g1 rfl ?_
        by_cases p2 : cw a.V a.nc b = -10006
        · refine Wp.brf rfl (fun q => q p2) ?_
          refine Wp.g1 rfl ?_
          by_cases p3 : scN a.V c b 0 = -10006
          · refine Wp.brt rfl p3 ?_
            exact no M3 (fun k g => (q3 k g).trans (q2 k g)) (fun q => q.2.2 p3)
          · refine Wp.brf rfl p3 ?_
            have eU : sMatch a (a.V (114 + 10 * c)) (a.V (18 + 8 * b)) = (scN a.V c b 0, ((up a.V (114 + 10 * c + 9) (a.V (18 + 8 * b)), a.nb, a.nc), (sv a).2)) := by
              unfold sMatch
              rw [er, eb, if_pos ⟨c1, b1⟩, if_pos ⟨(pt_free hW c1).mp p1, p2, p3⟩]
            have sU := s_match hS (show e ≤ e + 1 by omega) (a.V (114 + 10 * c)) (a.V (18 + 8 * b))
            rw [eU] at sU
            refine Wp.g1 rfl ?_
            refine Wp.call rfl (c_match hC3 hS _ _) (fun v4 M4 h4 q => ?_)
            rw [eU] at q
            obtain ⟨rfl, rfl, q4, q5⟩ := q
            refine Wp.g1 rfl ?_
            refine Wp.brf rfl (by omega) ?_
            refine Wp.g1 rfl ?_
            refine Wp.brt rfl (by omega) ?_
            refine Wp.g1 rfl ?_
            refine Wp.brf rfl (by decide) ?_
            refine Wp.g1 rfl ?_
            refine Wp.brf rfl (fun q => q rfl) ?_
            refine Wp.g1 rfl ?_
            have sm := Same.up9 a.V c (a.V (18 + 8 * b))
            refine Wp.re rfl ⟨rfl, rfl, _, q5, hI.of sU (sm.SB hW.1.2.2.1 hI.2.1) (sm.SC hCs) ?_ ?_ ?_, hG.same ((q4 74 (by omega)).trans ((q3 74 (by omega)).trans ((q2 74 (by omega)).trans (q1 74 (by omega))))) (sm 1 (by omega)) (fun i hi => sm _ (by omega))⟩
            · have := sm 11 (by omega)
              show up a.V (114 + 10 * c + 9) (a.V (18 + 8 * b)) 11 ≤ a.V 11 + 1
              omega
            · have := sm 13 (by omega)
              show up a.V (114 + 10 * c + 9) (a.V (18 + 8 * b)) 13 ≤ a.V 13 + 1
              omega
            · have := sm 0 (by omega)
              show up a.V (114 + 10 * c + 9) (a.V (18 + 8 * b)) 0 ≤ a.V 0 + 99
              omega
        · refine Wp.brt rfl p2 ?_
          exact no M3 (fun k g => (q3 k g).trans (q2 k g)) (fun q => p2 q.2.1)
      · refine Wp.brt rfl p1 ?_
        exact no M2 q2 (fun q => p1 q.1)
end DOES
end
section
/-! what the law does in a step: what goes -/
section GOING
variable {M : Me} {h : Ml} {a : At} {e : Nat}
theorem SC.inj {V : Nat → Int} {nc r q : Nat} (hC : SC V nc) (hr : r < nc) (hq : q < nc) (h : V (114 + 10 * r) = V (114 + 10 * q)) : r = q := by
  rcases Nat.lt_trichotomy r q with g | g | g
  · have := hC r q g hq; omega
  · exact g
  · have := hC q r g hr; omega
theorem d_deliver (hC : CR M a) (hI : Iv a e) (hG : GR M a.V) (v w C B : Int) (hc : isC a C) : Wp zS0 tL_does none 680 (dL v w C B (a.V 17) a.nb a.nc) [] M h (Dp e h) := by
  have hS := hI.1
  have hW : WF a.V a.nb a.nc e := hS.1
  have hCs : SC a.V a.nc := hI.2.2.1
  have hnb := hW.1.2.2.1
  have hnc := hW.1.2.2.2
  refine Wp.g1 rfl ?_
  refine Wp.call rfl (c_ifEnded (hC.cs hS) _ _ _) (fun v1 M1 h1 q => ?_)
  obtain ⟨rfl, rfl, q1⟩ := q
  have hC1 : CR M1 a := hC.kept (fun k g => q1 k (by omega))
  refine Wp.g1 rfl ?_
  -- free or not there
  have no : ∀ (M2 : Me) (C' d x : Int), (∀ k, k < 61 ∨ k = 71 ∨ 74 ≤ k → M2 k = M1 k) → sDeliver a C' = (x, a) → x < 0 → Wp zS0 tL_does none 709 [zr 0, zr 74, zi v, zi w, zi C', zi B, zi (a.V 17), zi a.nb, zi a.nc, zn, zn, zn, zn, zn, zn, zn, zi d, zn, zn, zn, zn, zn, zn, zn, zn, zn, zn, zn, zn] [] M2 h1 (Dp e h1) := by
    intro M2 C' d x k2 eU hx
    have hC2 : CR M2 a := hC1.kept (fun k g => k2 k (by omega))
    refine Wp.g1 rfl ?_
    refine Wp.call rfl (c_deliver hC2 hS _) (fun v3 M3 h3 q => ?_)
    rw [eU] at q
    obtain ⟨rfl, rfl, q3, q4⟩ := q
    refine Wp.g1 rfl ?_
    refine Wp.brf rfl (by decide) ?_
    refine Wp.g1 rfl ?_
    refine Wp.brf rfl (by omega) ?_
    refine Wp.g1 rfl ?_
    exact Wp.re rfl ⟨rfl, rfl, a, q4, hI.mono, hG.same ((q3 74 (by omega)).trans ((k2 74 (by omega)).trans (q1 74 (by omega)))) rfl (fun _ _ => rfl)⟩
  rcases hc with ⟨rfl, c0⟩ | ⟨c, c1, rfl⟩
  · refine Wp.brt rfl rfl ?_
    exact no M1 0 _ (-10001) (fun k _ => rfl) (if_neg (by rw [rkC_no (fun r hr => by omega)]; omega)) (by decide)
  · have hp := (hW.2.2.2.1 c c1).1
    have er : rkC a.V a.nc (a.V (114 + 10 * c)) = c := rkC_at hCs c1
    refine Wp.brf rfl (by omega) ?_
    refine Wp.g1 rfl ?_
    refine Wp.call rfl (c_claimOf (hC1.cs hS) _ _) (fun v2 M2 h2 q => ?_)
    obtain ⟨rfl, rfl, q2⟩ := q
    have hC2 : CR M2 a := hC1.kept (fun k g => q2 k (by omega))
    rw [claim_8 hCs c1]
    refine Wp.g1 rfl ?_
    by_cases g0 : a.V (114 + 10 * c + 9) = 0
    · refine Wp.brf rfl (fun q => q ((pt_free hW c1).mpr g0)) ?_
      refine no M2 _ _ (-10003) q2 ?_ (by decide)
      unfold sDeliver
      rw [er, if_pos c1, if_pos g0]
    · have hne : pt a.V c ≠ -10006 := fun q => g0 ((pt_free hW c1).mp q)
      refine Wp.brt rfl hne ?_
      obtain ⟨b1, b2⟩ := rk_of hW c1 g0
      have sU := s_deliver hS (show e ≤ e + 1 by omega) (a.V (114 + 10 * c))
      have eU : sDeliver a (a.V (114 + 10 * c)) = (pDel a.V c (a.V 0), ((cntV (rmC (rmB a.V a.nb (rkB a.V a.nb (a.V (114 + 10 * c + 9)))) a.nc c) 14 (pDel a.V c (a.V 0)), a.nb - 1, a.nc - 1), (sv a).2)) := by
        unfold sDeliver
        rw [er, if_pos c1, if_neg g0]
      have eE : rIfEnded a.V a.nc (a.V (114 + 10 * c)) 0 0 = pDel a.V c (a.V 0) := by
        unfold rIfEnded
        rw [er, if_pos c1, if_neg (by omega), if_pos rfl, Int.add_zero]
      rw [eE]
      rw [eU] at sU
      generalize hb : rkB a.V a.nb (a.V (114 + 10 * c + 9)) = b at b1 b2 eU sU
      generalize hp2 : pDel a.V c (a.V 0) = pd at eU sU
      have lowj : ∀ j, j < 18 → j ≠ 10 → j ≠ 12 → j ≠ 14 → j ≠ 17 → cntV (rmC (rmB a.V a.nb b) a.nc c) 14 pd j = a.V j := fun j j1 j2 j3 j4 j5 => by
        rw [cnt_off j4 j5, rmC_off j3 (by omega), rmB_off j2 (by omega)]
      have e17 : cntV (rmC (rmB a.V a.nb b) a.nc c) 14 pd 17 = w32 (a.V 17 + pd) := by
        rw [cnt_17 (by decide), rmC_off (by decide) (by omega), rmB_off (by decide) (by omega)]
      have hB' : SB (cntV (rmC (rmB a.V a.nb b) a.nc c) 14 pd) (a.nb - 1) := (hI.2.1.rm.rmC (by omega)).head (fun j j1 => cnt_off (by omega) (by omega))
      have hC' : SC (cntV (rmC (rmB a.V a.nb b) a.nc c) 14 pd) (a.nc - 1) := ((hCs.rmB hnb).rm).head (fun j j1 => cnt_off (by omega) (by omega))
      have num : ∀ r, r < a.nc - 1 → cntV (rmC (rmB a.V a.nb b) a.nc c) 14 pd (114 + 10 * r) ≠ a.V (114 + 10 * c) := fun r hr q => by
        rw [cnt_off (by omega) (by omega), rmC_num (by omega), rmB_off (by omega) (by omega)] at q
        exact sk_ne c r (hCs.inj (sk_lt (by omega)) c1 q)
      refine Wp.g1 rfl ?_
      refine Wp.call rfl (c_deliver hC2 hS _) (fun v3 M3 h3 q => ?_)
      rw [eU] at q
      obtain ⟨rfl, rfl, q3, q4⟩ := q
      refine Wp.g1 rfl ?_
      refine Wp.brt rfl rfl ?_
      refine Wp.g1 rfl ?_
      refine Wp.brf rfl (fun q => q rfl) ?_
      refine Wp.g1 rfl ?_
      refine Wp.call rfl (c_count (q4.cs sU) _) (fun v4 M4 h4 q => ?_)
      obtain ⟨rfl, rfl, q5⟩ := q
      have hC4 := q4.kept (M' := M4) (fun k g => q5 k (by omega))
      refine Wp.g1 rfl ?_
      refine Wp.brf rfl (fun q => q e17) ?_
      refine Wp.g1 rfl ?_
      refine Wp.call rfl (c_count (hC4.cs sU) _) (fun v5 M5 h5 q => ?_)
      obtain ⟨rfl, rfl, q6⟩ := q
      have hC5 := hC4.kept (M' := M5) (fun k g => q6 k (by omega))
      refine Wp.g1 rfl ?_
      rw [w32_p (n := a.nb) (by omega) (by omega)]
      refine Wp.brf rfl (fun q => q rfl) ?_
      refine Wp.g1 rfl ?_
      refine Wp.call rfl (c_count (hC5.cs sU) _) (fun v6 M6 h6 q => ?_)
      obtain ⟨rfl, rfl, q7⟩ := q
      have hC6 := hC5.kept (M' := M6) (fun k g => q7 k (by omega))
      refine Wp.g1 rfl ?_
      rw [w32_p (n := a.nc) (by omega) (by omega)]
      refine Wp.brf rfl (fun q => q rfl) ?_
      refine Wp.g1 rfl ?_
      refine Wp.call rfl (c_claimOf (hC6.cs sU) _ _) (fun v7 M7 h7 q => ?_)
      have eN : rClaimOf (cntV (rmC (rmB a.V a.nb b) a.nc c) 14 pd) (a.nc - 1) (a.V (114 + 10 * c)) 0 = -10001 := claim_no num
      obtain ⟨rfl, rfl, q8⟩ := q
      have hC7 := hC6.kept (M' := M7) (fun k g => q8 k (by omega))
      refine Wp.g1 rfl ?_
      refine Wp.brf rfl (fun q => q eN) ?_
      refine Wp.g1 rfl ?_
      refine Wp.re rfl ⟨rfl, rfl, _, hC7, hI.of sU hB' hC' ?_ ?_ ?_, hG.same ?_ (lowj 1 (by decide) (by decide) (by decide) (by decide) (by decide)) (fun i hi => lowj _ (by omega) (by omega) (by omega) (by omega) (by omega))⟩
      · have := lowj 11 (by decide) (by decide) (by decide) (by decide) (by decide)
        show cntV (rmC (rmB a.V a.nb b) a.nc c) 14 pd 11 ≤ a.V 11 + 1
        omega
      · have := lowj 13 (by decide) (by decide) (by decide) (by decide) (by decide)
        show cntV (rmC (rmB a.V a.nb b) a.nc c) 14 pd 13 ≤ a.V 13 + 1
        omega
      · have := lowj 0 (by decide) (by decide) (by decide) (by decide) (by decide)
        show cntV (rmC (rmB a.V a.nb b) a.nc c) 14 pd 0 ≤ a.V 0 + 99
        omega
      · exact (q8 74 (by omega)).trans ((q7 74 (by omega)).trans ((q6 74 (by omega)).trans ((q5 74 (by omega)).trans ((q3 74 (by omega)).trans ((q2 74 (by omega)).trans (q1 74 (by omega)))))))
theorem d_giveUp (hC : CR M a) (hI : Iv a e) (hG : GR M a.V) (v w C B : Int) (hc : isC a C) : Wp zS0 tL_does none 806 (dL v w C B (a.V 17) a.nb a.nc) [] M h (Dp e h) := by
  have hS := hI.1
  have hW : WF a.V a.nb a.nc e := hS.1
  have hCs : SC a.V a.nc := hI.2.2.1
  have hnb := hW.1.2.2.1
  have hnc := hW.1.2.2.2
  have hv0 := hW.2.1.1
  refine Wp.g1 rfl ?_
  refine Wp.call rfl (c_ifEnded (hC.cs hS) _ _ _) (fun v1 M1 h1 q => ?_)
  obtain ⟨rfl, rfl, q1⟩ := q
  have hC1 : CR M1 a := hC.kept (fun k g => q1 k (by omega))
  refine Wp.g1 rfl ?_
  have no : ∀ (M2 : Me) (C' d x : Int), (∀ k, k < 61 ∨ k = 71 ∨ 74 ≤ k → M2 k = M1 k) → sGiveUp a C' = (x, a) → x < 0 → Wp zS0 tL_does none 858 [zr 0, zr 74, zi v, zi w, zi C', zi B, zi (a.V 17), zi a.nb, zi a.nc, zn, zn, zn, zn, zn, zn, zn, zn, zn, zn, zi d, zn, zn, zn, zn, zn, zn, zn, zn, zn] [] M2 h1 (Dp e h1) := by
    intro M2 C' d x k2 eU hx
    have hC2 : CR M2 a := hC1.kept (fun k g => k2 k (by omega))
    refine Wp.g1 rfl ?_
    refine Wp.call rfl (c_giveUp hC2 hS _) (fun v3 M3 h3 q => ?_)
    rw [eU] at q
    obtain ⟨rfl, rfl, q3, q4⟩ := q
    refine Wp.g1 rfl ?_
    refine Wp.brt rfl rfl ?_
    refine Wp.g1 rfl ?_
    refine Wp.brf rfl (by omega) ?_
    refine Wp.g1 rfl ?_
    refine Wp.call rfl (c_count (q4.cs hS) _) (fun v4 M4 h4 q => ?_)
    obtain ⟨rfl, rfl, q5⟩ := q
    have hC4 := q4.kept (M' := M4) (fun k g => q5 k (by omega))
    refine Wp.g1 rfl ?_
    refine Wp.brf rfl (fun q => q rfl) ?_
    refine Wp.g1 rfl ?_
    exact Wp.re rfl ⟨rfl, rfl, a, hC4, hI.mono, hG.same ((q5 74 (by omega)).trans ((q3 74 (by omega)).trans ((k2 74 (by omega)).trans (q1 74 (by omega))))) rfl (fun _ _ => rfl)⟩
  rcases hc with ⟨rfl, c0⟩ | ⟨c, c1, rfl⟩
  · refine Wp.brt rfl (by decide) ?_
    exact no M1 0 _ (-10001) (fun k _ => rfl) (if_neg (by rw [rkC_no (fun r hr => by omega)]; omega)) (by decide)
  · have hck := hW.2.2.2.1 c c1
    have hp := hck.1
    obtain ⟨-, -, -, -, -, -, -, -, -, c8, -⟩ := hck
    have er : rkC a.V a.nc (a.V (114 + 10 * c)) = c := rkC_at hCs c1
    refine Wp.brf rfl (by omega) ?_
    refine Wp.g1 rfl ?_
    refine Wp.call rfl (c_claimOf (hC1.cs hS) _ _) (fun v2 M2 h2 q => ?_)
    obtain ⟨rfl, rfl, q2⟩ := q
    have hC2 : CR M2 a := hC1.kept (fun k g => q2 k (by omega))
    rw [claim_8 hCs c1]
    refine Wp.g1 rfl ?_
    by_cases g0 : a.V (114 + 10 * c + 9) = 0
    · refine Wp.brf rfl (fun q => q ((pt_free hW c1).mpr g0)) ?_
      refine Wp.g1 rfl ?_
      refine Wp.call rfl (c_count (hC2.cs hS) _) (fun v3 M3 h3 q => ?_)
      obtain ⟨rfl, rfl, q3⟩ := q
      have hC3 := hC2.kept (M' := M3) (fun k g => q3 k (by omega))
      refine Wp.g1 rfl ?_
      refine Wp.call rfl (c_claimOf (hC3.cs hS) _ _) (fun v4 M4 h4 q => ?_)
      obtain ⟨rfl, rfl, q4⟩ := q
      have hC4 := hC3.kept (M' := M4) (fun k g => q4 k (by omega))
      have e7 : rClaimOf a.V a.nc (a.V (114 + 10 * c)) 7 = a.V (114 + 10 * c + 8) := claim_at hCs c1 (y := 7) (by decide)
      have ec : rCount a.V a.nb a.nc 0 = a.V 0 := rfl
      rw [e7, ec]
      refine Wp.g1 rfl ?_
      rw [w32_id (x := a.V 0 - a.V (114 + 10 * c + 8)) ⟨by omega, by omega⟩]
      by_cases g1 : 21 ≤ a.V 0 - a.V (114 + 10 * c + 8)
      · refine Wp.brf rfl (by omega) ?_
        have sU := s_giveUp hS (show e ≤ e + 1 by omega) (a.V (114 + 10 * c))
        have eU : sGiveUp a (a.V (114 + 10 * c)) = (pGiv a.V c, ((cntV (rmC a.V a.nc c) 15 (pGiv a.V c), a.nb, a.nc - 1), (sv a).2)) := by
          unfold sGiveUp
          rw [er, if_pos c1, if_pos ⟨g0, g1⟩]
        have eE : rIfEnded a.V a.nc (a.V (114 + 10 * c)) 0 1 = pGiv a.V c := by
          unfold rIfEnded
          rw [er, if_pos c1, if_neg (by omega), if_neg (by decide)]
        rw [eE]
        rw [eU] at sU
        generalize hp2 : pGiv a.V c = pd at eU sU
        have lowj : ∀ j, j < 18 → j ≠ 12 → j ≠ 15 → j ≠ 17 → cntV (rmC a.V a.nc c) 15 pd j = a.V j := fun j j1 j3 j4 j5 => by
          rw [cnt_off j4 j5, rmC_off j3 (by omega)]
        have e17 : cntV (rmC a.V a.nc c) 15 pd 17 = w32 (a.V 17 + pd) := by
          rw [cnt_17 (by decide), rmC_off (by decide) (by omega)]
        have hB' : SB (cntV (rmC a.V a.nc c) 15 pd) a.nb := (hI.2.1.rmC hnb).head (fun j j1 => cnt_off (by omega) (by omega))
        have hC' : SC (cntV (rmC a.V a.nc c) 15 pd) (a.nc - 1) := (hCs.rm).head (fun j j1 => cnt_off (by omega) (by omega))
        refine Wp.g1 rfl ?_
        refine Wp.call rfl (c_giveUp hC4 hS _) (fun v5 M5 h5 q => ?_)
        rw [eU] at q
        obtain ⟨rfl, rfl, q5, hC5⟩ := q
        refine Wp.g1 rfl ?_
        refine Wp.brf rfl (by decide) ?_
        refine Wp.g1 rfl ?_
        refine Wp.brf rfl (fun q => q rfl) ?_
        refine Wp.g1 rfl ?_
        refine Wp.call rfl (c_count (hC5.cs sU) _) (fun v6 M6 h6 q => ?_)
        obtain ⟨rfl, rfl, q6⟩ := q
        have hC6 := hC5.kept (M' := M6) (fun k g => q6 k (by omega))
        refine Wp.g1 rfl ?_
        refine Wp.brf rfl (fun q => q e17) ?_
        refine Wp.g1 rfl ?_
        refine Wp.call rfl (c_count (hC6.cs sU) _) (fun v7 M7 h7 q => ?_)
        obtain ⟨rfl, rfl, q7⟩ := q
        have hC7 := hC6.kept (M' := M7) (fun k g => q7 k (by omega))
        refine Wp.g1 rfl ?_
        rw [w32_p (n := a.nc) (by omega) (by omega)]
        refine Wp.brf rfl (fun q => q rfl) ?_
        refine Wp.g1 rfl ?_
        refine Wp.re rfl ⟨rfl, rfl, _, hC7, hI.of sU hB' hC' ?_ ?_ ?_, hG.same ?_ (lowj 1 (by decide) (by decide) (by decide) (by decide)) (fun i hi => lowj _ (by omega) (by omega) (by omega) (by omega))⟩
        · have := lowj 11 (by decide) (by decide) (by decide) (by decide)
          show cntV (rmC a.V a.nc c) 15 pd 11 ≤ a.V 11 + 1
          omega
        · have := lowj 13 (by decide) (by decide) (by decide) (by decide)
          show cntV (rmC a.V a.nc c) 15 pd 13 ≤ a.V 13 + 1
          omega
        · have := lowj 0 (by decide) (by decide) (by decide) (by decide)
          show cntV (rmC a.V a.nc c) 15 pd 0 ≤ a.V 0 + 99
          omega
        · exact (q7 74 (by omega)).trans ((q6 74 (by omega)).trans ((q5 74 (by omega)).trans ((q4 74 (by omega)).trans ((q3 74 (by omega)).trans ((q2 74 (by omega)).trans (q1 74 (by omega)))))))
      · refine Wp.brt rfl (by omega) ?_
        refine no M4 _ _ (-10003) (fun k g => (q4 k g).trans ((q3 k g).trans (q2 k g))) ?_ (by decide)
        unfold sGiveUp
        rw [er, if_pos c1, if_neg (fun q => g1 q.2)]
    · have hne : pt a.V c ≠ -10006 := fun q => g0 ((pt_free hW c1).mp q)
      refine Wp.brt rfl hne ?_
      refine no M2 _ _ (-10003) q2 ?_ (by decide)
      unfold sGiveUp
      rw [er, if_pos c1, if_neg (fun q => g0 q.1)]
theorem d_auction (hC : CR M a) (hI : Iv a e) (hG : GR M a.V) (v w C B : Int) (hb : isB a B) : Wp zS0 tL_does none 936 (dL v w C B (a.V 17) a.nb a.nc) [] M h (Dp e h) := by
  have hS := hI.1
  have hW : WF a.V a.nb a.nc e := hS.1
  have hCs : SC a.V a.nc := hI.2.2.1
  have hnb := hW.1.2.2.1
  have hnc := hW.1.2.2.2
  have hv0 := hW.2.1.1
  rcases hb with ⟨rfl, b0⟩ | ⟨b, b1, rfl⟩
  · have eU : sAuction a 0 = (-10001, a) := if_neg (by rw [rkB_no (fun r hr => by omega)]; omega)
    refine Wp.g1 rfl ?_
    refine Wp.brt rfl (by decide) ?_
    refine Wp.g1 rfl ?_
    refine Wp.call rfl (c_auction hC hS _) (fun v2 M2 h2 q => ?_)
    rw [eU] at q
    obtain ⟨rfl, rfl, q2, q3⟩ := q
    refine Wp.g1 rfl ?_
    refine Wp.brf rfl (by decide) ?_
    refine Wp.g1 rfl ?_
    refine Wp.brf rfl (fun q => q rfl) ?_
    refine Wp.g1 rfl ?_
    exact Wp.re rfl ⟨rfl, rfl, a, q3, hI.mono, hG.same (q2 74 (by omega)) rfl (fun _ _ => rfl)⟩
  · have hbk := hW.2.2.1 b b1
    have hp := hbk.1
    obtain ⟨-, -, -, -, -, -, -, -, b7⟩ := hbk
    have er : rkB a.V a.nb (a.V (18 + 8 * b)) = b := rkB_at hW b1
    have no : ∀ M2 : Me, (∀ k, k < 61 ∨ k = 71 ∨ 74 ≤ k → M2 k = M k) → sAuction a (a.V (18 + 8 * b)) = (-10003, a) → Wp zS0 tL_does none 978 (dL v w C (a.V (18 + 8 * b)) (a.V 17) a.nb a.nc) [] M2 h (Dp e h) := by
      intro M2 k2 eU
      have hC2 : CR M2 a := hC.kept (fun k g => k2 k (by omega))
      refine Wp.g1 rfl ?_
      refine Wp.call rfl (c_auction hC2 hS _) (fun v3 M3 h3 q => ?_)
      rw [eU] at q
      obtain ⟨rfl, rfl, q3, q4⟩ := q
      refine Wp.g1 rfl ?_
      refine Wp.brt rfl (by omega) ?_
      refine Wp.g1 rfl ?_
      refine Wp.brt rfl rfl ?_
      refine Wp.g1 rfl ?_
      refine Wp.brf rfl (fun q => q rfl) ?_
      refine Wp.g1 rfl ?_
      exact Wp.re rfl ⟨rfl, rfl, a, q4, hI.mono, hG.same ((q3 74 (by omega)).trans (k2 74 (by omega))) rfl (fun _ _ => rfl)⟩
    refine Wp.g1 rfl ?_
    refine Wp.brf rfl (by omega) ?_
    refine Wp.g1 rfl ?_
    refine Wp.call rfl (c_bag (hC.cs hS) _ _) (fun v1 M1 h1 q => ?_)
    obtain ⟨rfl, rfl, q1⟩ := q
    have hC1 : CR M1 a := hC.kept (fun k g => q1 k (by omega))
    rw [bag_7 hW b1]
    refine Wp.g1 rfl ?_
    by_cases g0 : cw a.V a.nc b = -10006
    · refine Wp.brf rfl (fun q => q g0) ?_
      refine Wp.g1 rfl ?_
      refine Wp.call rfl (c_count (hC1.cs hS) _) (fun v2 M2 h2 q => ?_)
      obtain ⟨rfl, rfl, q2⟩ := q
      have hC2 := hC1.kept (M' := M2) (fun k g => q2 k (by omega))
      refine Wp.g1 rfl ?_
      refine Wp.call rfl (c_bag (hC2.cs hS) _ _) (fun v3 M3 h3 q => ?_)
      obtain ⟨rfl, rfl, q3⟩ := q
      have hC3 := hC2.kept (M' := M3) (fun k g => q3 k (by omega))
      have e6 : rBag a.V a.nb a.nc (a.V (18 + 8 * b)) 6 = a.V (18 + 8 * b + 7) := bag_at hW b1 (y := 6) (by decide)
      have ec : rCount a.V a.nb a.nc 0 = a.V 0 := rfl
      rw [e6, ec]
      refine Wp.g1 rfl ?_
      rw [w32_id (x := a.V 0 - a.V (18 + 8 * b + 7)) ⟨by omega, by omega⟩]
      by_cases g1 : 90 ≤ a.V 0 - a.V (18 + 8 * b + 7)
      · refine Wp.brf rfl (by omega) ?_
        have sU := s_auction hS (show e ≤ e + 1 by omega) (a.V (18 + 8 * b))
        have eU : sAuction a (a.V (18 + 8 * b)) = (((a.nb - 1 : Nat) : Int), ((up (rmB a.V a.nb b) 16 (w32 (a.V 16 + 1)), a.nb - 1, a.nc), (sv a).2)) := by
          unfold sAuction
          rw [er, if_pos b1, if_pos ⟨g0, g1⟩]
        rw [eU] at sU
        have lowj : ∀ j, j < 18 → j ≠ 10 → j ≠ 16 → up (rmB a.V a.nb b) 16 (w32 (a.V 16 + 1)) j = a.V j := fun j j1 j2 j3 => by
          rw [up_off j3, rmB_off j2 (by omega)]
        have hB' : SB (up (rmB a.V a.nb b) 16 (w32 (a.V 16 + 1))) (a.nb - 1) := (hI.2.1.rm).head (fun j j1 => up_off (by omega))
        have hC' : SC (up (rmB a.V a.nb b) 16 (w32 (a.V 16 + 1))) a.nc := (hCs.rmB hnb).head (fun j j1 => up_off (by omega))
        refine Wp.g1 rfl ?_
        refine Wp.call rfl (c_auction hC3 hS _) (fun v5 M5 h5 q => ?_)
        rw [eU] at q
        obtain ⟨rfl, rfl, q5, hC5⟩ := q
        refine Wp.g1 rfl ?_
        refine Wp.brt rfl (by omega) ?_
        refine Wp.g1 rfl ?_
        refine Wp.brf rfl (by decide) ?_
        refine Wp.g1 rfl ?_
        rw [w32_p (n := a.nb) (by omega) (by omega)]
        refine Wp.brf rfl (fun q => q rfl) ?_
        refine Wp.g1 rfl ?_
        refine Wp.re rfl ⟨rfl, rfl, _, hC5, hI.of sU hB' hC' ?_ ?_ ?_, hG.same ?_ (lowj 1 (by decide) (by decide) (by decide)) (fun i hi => lowj _ (by omega) (by omega) (by omega))⟩
        · have := lowj 11 (by decide) (by decide) (by decide)
          show up (rmB a.V a.nb b) 16 (w32 (a.V 16 + 1)) 11 ≤ a.V 11 + 1
          omega
        · have := lowj 13 (by decide) (by decide) (by decide)
          show up (rmB a.V a.nb b) 16 (w32 (a.V 16 + 1)) 13 ≤ a.V 13 + 1
          omega
        · have := lowj 0 (by decide) (by decide) (by decide)
          show up (rmB a.V a.nb b) 16 (w32 (a.V 16 + 1)) 0 ≤ a.V 0 + 99
          omega
        · exact (q5 74 (by omega)).trans ((q3 74 (by omega)).trans ((q2 74 (by omega)).trans (q1 74 (by omega))))
      · refine Wp.brt rfl (by omega) ?_
        refine no M3 (fun k g => (q3 k g).trans ((q2 k g).trans (q1 k g))) ?_
        unfold sAuction
        rw [er, if_pos b1, if_neg (fun q => g1 q.2)]
    · refine Wp.brt rfl g0 ?_
      refine no M1 q1 ?_
      unfold sAuction
      rw [er, if_pos b1, if_neg (fun q => g0 q.1)]
end GOING
end
section
/-! what the law does in a step: what comes -/
section COMING
variable {M : Me} {h : Ml} {a : At} {e : Nat}
theorem lo_and (x y : Int) : ∃ m : Nat, m < 64 ∧ bAnd (lo x 64 : Int) (lo y 64 : Int) = (m : Int) := by
  have h1 := lo_lt x (n := 64) (by decide)
  have h2 := lo_lt y (n := 64) (by decide)
  exact ⟨_, Nat.and_lt_two_pow (n := 6) _ h2, bAnd_nat (by omega)⟩
theorem d_found (hC : CR M a) (hI : Iv a e) (hG : GR M a.V) (he : e < 60) (v w C B p : Int) : Wp zS0 tL_does none 160 (dL v w C B p a.nb a.nc) [] M h (Dp e h) := by
  have hS := hI.1
  have hW : WF a.V a.nb a.nc e := hS.1
  have hnb := hW.1.2.2.1
  have hnc := hW.1.2.2.2
  have h11 := hI.2.2.2.1.1
  have hv11 := hW.2.1.2.2.2.2.2.1
  have l0 := lo_lt w (n := 4) (by decide)
  have l1 := lo_lt (bShr w 2) (n := 3) (by decide)
  have l2 := lo_lt (bShr v 5) (n := 8) (by decide)
  have l3 := lo_lt (bShr v 8) (n := 8) (by decide)
  have l4 := lo_lt (bShr v 11) (n := 12) (by decide)
  have l5 := lo_lt (bShr w 16) (n := 256) (by decide)
  obtain ⟨ill, i1, i2⟩ := lo_and (bShr w 4) (bShr w 10)
  refine Wp.g1 rfl ?_
  refine Wp.calli rfl (m_low w 4 (by decide) M h) ?_
  refine Wp.g1 rfl ?_
  rw [w32_id (x := (lo w 4 : Int) * 111111) ⟨by omega, by omega⟩]
  refine Wp.calli rfl (m_low (bShr w 2) 3 (by decide) M h) ?_
  refine Wp.g1 rfl ?_
  rw [w32_id (x := (lo w 4 : Int) * 111111 + (lo (bShr w 2) 3 : Int)) ⟨by omega, by omega⟩]
  refine Wp.calli rfl (m_low (bShr v 5) 8 (by decide) M h) ?_
  refine Wp.g1 rfl ?_
  refine Wp.calli rfl (m_low (bShr w 4) 64 (by decide) M h) ?_
  refine Wp.g1 rfl ?_
  refine Wp.calli rfl (m_low (bShr w 10) 64 (by decide) M h) ?_
  refine Wp.g1 rfl ?_
  rw [i2]
  refine Wp.calli rfl (m_low (bShr v 8) 8 (by decide) M h) ?_
  refine Wp.g1 rfl ?_
  refine Wp.calli rfl (m_low (bShr v 11) 12 (by decide) M h) ?_
  refine Wp.g1 rfl ?_
  refine Wp.calli rfl (m_low (bShr w 16) 256 (by decide) M h) ?_
  generalize lo w 4 = t0 at *
  generalize lo (bShr w 2) 3 = t1 at *
  generalize lo (bShr v 5) 8 = x0 at *
  generalize lo (bShr v 8) 8 = x3 at *
  generalize lo (bShr v 11) 12 = x4 at *
  generalize lo (bShr w 16) 256 = x5 at *
  have hT : 0 ≤ (t0 : Int) * 111111 + (t1 : Int) ∧ (t0 : Int) * 111111 + (t1 : Int) ≤ 999999 := by omega
  generalize (t0 : Int) * 111111 + (t1 : Int) = tag at *
  have sU := s_found hS (show e + 1 ≤ e + 1 by omega) (x0 : Int) tag (ill : Int) (x3 : Int) (x4 : Int) (x5 : Int)
  have eF : sFound a (x0 : Int) tag (ill : Int) (x3 : Int) (x4 : Int) (x5 : Int) = if a.nb = 12 then (-10004, a) else (a.V 11 + 1, ((nBag a.V a.nb (x0 : Int) (leg tag (ill : Int)) (ill : Int) (x3 : Int) (x4 : Int) (x5 : Int), a.nb + 1, a.nc), (sv a).2)) := if_neg (by omega)
  refine Wp.call rfl (c_found hC hS (by omega) _ _ _ _ _ _) (fun v1 M1 h1 q => ?_)
  rw [eF] at q sU
  by_cases g : a.nb = 12
  · rw [if_pos g] at q
    obtain ⟨rfl, rfl, q1, q2⟩ := q
    refine Wp.g1 rfl ?_
    refine Wp.brf rfl (by omega) ?_
    refine Wp.g1 rfl ?_
    refine Wp.brf rfl (fun q => q rfl) ?_
    refine Wp.g1 rfl ?_
    exact Wp.re rfl ⟨rfl, rfl, a, q2, hI.mono, hG.same (q1 74 (by omega)) rfl (fun _ _ => rfl)⟩
  · rw [if_neg g] at q sU
    have hlt : a.nb < 12 := by omega
    obtain ⟨rfl, rfl, q1, q2⟩ := q
    refine Wp.g1 rfl ?_
    refine Wp.brt rfl (by omega) ?_
    refine Wp.g1 rfl ?_
    refine Wp.brf rfl (by show ¬ a.V 11 + 1 ≤ 0; omega) ?_
    refine Wp.g1 rfl ?_
    generalize leg tag (ill : Int) = lg at *
    have nof : ∀ j, j ≠ 10 → j ≠ 11 → (j < 18 + 8 * a.nb ∨ 18 + 8 * a.nb + 8 ≤ j) → nBag a.V a.nb (x0 : Int) lg (ill : Int) (x3 : Int) (x4 : Int) (x5 : Int) j = a.V j := fun j j1 j2 j3 => nBag_off j1 j2 j3
    have nhd := nBag_hd (V := a.V) (nb := a.nb) (x0 : Int) lg (ill : Int) (x3 : Int) (x4 : Int) (x5 : Int)
    have nrw := nBag_row (V := a.V) (nb := a.nb) (x0 : Int) lg (ill : Int) (x3 : Int) (x4 : Int) (x5 : Int)
    have hB' := hI.2.1.add hW hlt (x0 : Int) lg (ill : Int) (x3 : Int) (x4 : Int) (x5 : Int)
    have hC' := hI.2.2.1.addB hlt (x0 : Int) lg (ill : Int) (x3 : Int) (x4 : Int) (x5 : Int)
    generalize nBag a.V a.nb (x0 : Int) lg (ill : Int) (x3 : Int) (x4 : Int) (x5 : Int) = V' at *
    have hW' : WF V' (a.nb + 1) a.nc (e + 1) := sU.1
    have eN : a.V 11 + 1 = V' (18 + 8 * a.nb) := nhd.2.2.symm
    refine Wp.call rfl (c_count (q2.cs sU) _) (fun v2 M2 h2 q => ?_)
    obtain ⟨rfl, rfl, q3⟩ := q
    have hC2 := q2.kept (M' := M2) (fun k g => q3 k (by omega))
    refine Wp.g1 rfl ?_
    rw [w32_s (n := a.nb) (by omega)]
    refine Wp.brf rfl (fun q => q rfl) ?_
    refine Wp.g1 rfl ?_
    refine Wp.call rfl (c_bag (hC2.cs sU) _ _) (fun v3 M3 h3 q => ?_)
    obtain ⟨rfl, rfl, q4⟩ := q
    have hC3 := hC2.kept (M' := M3) (fun k g => q4 k (by omega))
    refine Wp.g1 rfl ?_
    refine Wp.call rfl (c_count (hC3.cs sU) _) (fun v4 M4 h4 q => ?_)
    obtain ⟨rfl, rfl, q5⟩ := q
    have hC4 := hC3.kept (M' := M4) (fun k g => q5 k (by omega))
    have e6 : rBag V' (a.nb + 1) a.nc (a.V 11 + 1) 6 = V' 0 := by
      rw [eN]
      have := bag_at (y := 6) hW' (r := a.nb) (by omega) (by decide)
      refine this.trans ?_
      rw [nof 0 (by omega) (by omega) (by omega)]
      exact nrw.2.2.2.2.2.2
    refine Wp.brf rfl (fun q => q e6) ?_
    refine Wp.g1 rfl ?_
    refine Wp.call rfl (c_bag (hC4.cs sU) _ _) (fun v5 M5 h5 q => ?_)
    obtain ⟨rfl, rfl, q6⟩ := q
    have hC5 := hC4.kept (M' := M5) (fun k g => q6 k (by omega))
    have e7 : rBag V' (a.nb + 1) a.nc (a.V 11 + 1) 7 = -10006 := by
      rw [eN, bag_7 hW' (by omega)]
      refine cw_none (fun r hr q => ?_)
      rw [nof _ (by omega) (by omega) (by omega), ← eN] at q
      have := (hW.2.2.2.1 r hr)
      obtain ⟨-, -, -, -, -, -, -, -, -, -, c9⟩ := this
      omega
    refine Wp.g1 rfl ?_
    refine Wp.brf rfl (fun q => q e7) ?_
    refine Wp.g1 rfl ?_
    refine Wp.re rfl ⟨rfl, rfl, _, hC5, hI.of sU hB' hC' ?_ ?_ ?_, hG.same ?_ (nof 1 (by omega) (by omega) (by omega)) (fun i hi => nof _ (by omega) (by omega) (by omega))⟩
    · show V' 11 ≤ a.V 11 + 1
      rw [nhd.2.1]; omega
    · show V' 13 ≤ a.V 13 + 1
      rw [nof 13 (by omega) (by omega) (by omega)]; omega
    · show V' 0 ≤ a.V 0 + 99
      rw [nof 0 (by omega) (by omega) (by omega)]; omega
    · exact (q6 74 (by omega)).trans ((q5 74 (by omega)).trans ((q4 74 (by omega)).trans ((q3 74 (by omega)).trans (q1 74 (by omega)))))
theorem d_claim (hC : CR M a) (hI : Iv a e) (hG : GR M a.V) (he : e < 60) (v w C B p : Int) : Wp zS0 tL_does none 316 (dL v w C B p a.nb a.nc) [] M h (Dp e h) := by
  have hS := hI.1
  have hW : WF a.V a.nb a.nc e := hS.1
  have hnb := hW.1.2.2.1
  have hnc := hW.1.2.2.2
  have hv0 := hW.2.1.1
  have hv13 := hW.2.1.2.2.2.2.2.2
  have l0 := lo_lt w (n := 4) (by decide)
  have l1 := lo_lt (bShr w 2) (n := 3) (by decide)
  have l2 := lo_lt (bShr v 8) (n := 8) (by decide)
  have l3 := lo_lt (bShr v 11) (n := 12) (by decide)
  have l4 := lo_lt (bShr w 16) (n := 256) (by decide)
  have l5 := lo_lt (bShr w 8) (n := 255) (by decide)
  have l6 := lo_lt (bShr w 4) (n := 3000) (by decide)
  have l7 := lo_lt (bShr v 15) (n := 21) (by decide)
  have l8 := lo_lt (bShr v 5) (n := 31) (by decide)
  refine Wp.g1 rfl ?_
  refine Wp.calli rfl (m_low w 4 (by decide) M h) ?_
  refine Wp.g1 rfl ?_
  rw [w32_id (x := (lo w 4 : Int) * 111111) ⟨by omega, by omega⟩]
  refine Wp.calli rfl (m_low (bShr w 2) 3 (by decide) M h) ?_
  refine Wp.g1 rfl ?_
  rw [w32_id (x := (lo w 4 : Int) * 111111 + (lo (bShr w 2) 3 : Int)) ⟨by omega, by omega⟩]
  refine Wp.calli rfl (m_low (bShr v 8) 8 (by decide) M h) ?_
  refine Wp.g1 rfl ?_
  refine Wp.calli rfl (m_low (bShr v 11) 12 (by decide) M h) ?_
  refine Wp.g1 rfl ?_
  refine Wp.calli rfl (m_low (bShr w 16) 256 (by decide) M h) ?_
  refine Wp.g1 rfl ?_
  refine Wp.calli rfl (m_low (bShr w 8) 255 (by decide) M h) ?_
  refine Wp.g1 rfl ?_
  rw [w32_id (x := 1 + (lo (bShr w 8) 255 : Int)) ⟨by omega, by omega⟩]
  refine Wp.calli rfl (m_low (bShr w 4) 3000 (by decide) M h) ?_
  refine Wp.g1 rfl ?_
  rw [w32_id (x := 1 + (lo (bShr w 4) 3000 : Int)) ⟨by omega, by omega⟩]
  refine Wp.calli rfl (m_low (bShr v 15) 21 (by decide) M h) ?_
  refine Wp.g1 rfl ?_
  refine Wp.calli rfl (m_low (bShr v 5) 31 (by decide) M h) ?_
  have sU := s_claim hS (show e + 1 ≤ e + 1 by omega) ((lo w 4 : Int) * 111111 + (lo (bShr w 2) 3 : Int)) (lo (bShr v 8) 8 : Int) (lo (bShr v 11) 12 : Int) (lo (bShr w 16) 256 : Int) (1 + (lo (bShr w 8) 255 : Int)) (1 + (lo (bShr w 4) 3000 : Int)) (lo (bShr v 15) 21 : Int) (lo (bShr v 5) 31 : Int)
  have eF : sClaim a ((lo w 4 : Int) * 111111 + (lo (bShr w 2) 3 : Int)) (lo (bShr v 8) 8 : Int) (lo (bShr v 11) 12 : Int) (lo (bShr w 16) 256 : Int) (1 + (lo (bShr w 8) 255 : Int)) (1 + (lo (bShr w 4) 3000 : Int)) (lo (bShr v 15) 21 : Int) (lo (bShr v 5) 31 : Int) = if a.nc = 10 then (-10004, a) else (a.V 13 + 1, ((nClm a.V a.nc ((lo w 4 : Int) * 111111 + (lo (bShr w 2) 3 : Int)) (lo (bShr v 8) 8 : Int) (lo (bShr v 11) 12 : Int) (lo (bShr w 16) 256 : Int) (1 + (lo (bShr w 8) 255 : Int)) (1 + (lo (bShr w 4) 3000 : Int)) (lo (bShr v 15) 21 : Int) (a.V 0 - (lo (bShr v 5) 31 : Int)), a.nb, a.nc + 1), (sv a).2)) := if_neg (by omega)
  refine Wp.call rfl (c_claim hC hS (by omega) _ _ _ _ _ _ _ _) (fun v1 M1 h1 q => ?_)
  rw [eF] at q sU
  by_cases g : a.nc = 10
  · rw [if_pos g] at q
    obtain ⟨rfl, rfl, q1, q2⟩ := q
    refine Wp.g1 rfl ?_
    refine Wp.brf rfl (by omega) ?_
    refine Wp.g1 rfl ?_
    refine Wp.brf rfl (fun q => q rfl) ?_
    refine Wp.g1 rfl ?_
    exact Wp.re rfl ⟨rfl, rfl, a, q2, hI.mono, hG.same (q1 74 (by omega)) rfl (fun _ _ => rfl)⟩
  · rw [if_neg g] at q sU
    obtain ⟨rfl, rfl, q1, q2⟩ := q
    generalize hx : (lo (bShr v 5) 31 : Int) = x8 at *
    generalize (lo w 4 : Int) * 111111 + (lo (bShr w 2) 3 : Int) = x1 at *
    generalize (lo (bShr v 8) 8 : Int) = x2 at *
    generalize (lo (bShr v 11) 12 : Int) = x3 at *
    generalize (lo (bShr w 16) 256 : Int) = x4 at *
    generalize 1 + (lo (bShr w 8) 255 : Int) = x5 at *
    generalize 1 + (lo (bShr w 4) 3000 : Int) = x6 at *
    generalize (lo (bShr v 15) 21 : Int) = x7 at *
    refine Wp.g1 rfl ?_
    refine Wp.brt rfl (by omega) ?_
    refine Wp.g1 rfl ?_
    refine Wp.brf rfl (by show ¬ a.V 13 + 1 ≤ 0; omega) ?_
    refine Wp.g1 rfl ?_
    have nof : ∀ j, j ≠ 12 → j ≠ 13 → (j < 114 + 10 * a.nc ∨ 114 + 10 * a.nc + 10 ≤ j) → nClm a.V a.nc x1 x2 x3 x4 x5 x6 x7 (a.V 0 - x8) j = a.V j := fun j j1 j2 j3 => nClm_off j1 j2 j3
    have nhd := nClm_hd (V := a.V) (nc := a.nc) x1 x2 x3 x4 x5 x6 x7 (a.V 0 - x8)
    have nrw := nClm_row (V := a.V) (nc := a.nc) x1 x2 x3 x4 x5 x6 x7 (a.V 0 - x8)
    have hB' := hI.2.1.addC (nc := a.nc) hnb x1 x2 x3 x4 x5 x6 x7 (a.V 0 - x8)
    have hC' := hI.2.2.1.add hW x1 x2 x3 x4 x5 x6 x7 (a.V 0 - x8)
    generalize nClm a.V a.nc x1 x2 x3 x4 x5 x6 x7 (a.V 0 - x8) = V' at *
    have hW' : WF V' a.nb (a.nc + 1) (e + 1) := sU.1
    have eN : a.V 13 + 1 = V' (114 + 10 * a.nc) := nhd.2.2.1.symm
    refine Wp.call rfl (c_count (q2.cs sU) _) (fun v2 M2 h2 q => ?_)
    obtain ⟨rfl, rfl, q3⟩ := q
    have hC2 := q2.kept (M' := M2) (fun k g => q3 k (by omega))
    refine Wp.g1 rfl ?_
    rw [w32_s (n := a.nc) (by omega)]
    refine Wp.brf rfl (fun q => q rfl) ?_
    refine Wp.g1 rfl ?_
    refine Wp.call rfl (c_claimOf (hC2.cs sU) _ _) (fun v3 M3 h3 q => ?_)
    obtain ⟨rfl, rfl, q4⟩ := q
    have hC3 := hC2.kept (M' := M3) (fun k g => q4 k (by omega))
    have e8 : rClaimOf V' (a.nc + 1) (a.V 13 + 1) 8 = -10006 := by
      rw [eN, claim_8 hC' (by omega), (pt_free hW' (by omega)).mpr]
      exact nhd.2.2.2
    refine Wp.g1 rfl ?_
    refine Wp.brf rfl (fun q => q e8) ?_
    refine Wp.g1 rfl ?_
    refine Wp.call rfl (c_claimOf (hC3.cs sU) _ _) (fun v4 M4 h4 q => ?_)
    obtain ⟨rfl, rfl, q5⟩ := q
    have hC4 := hC3.kept (M' := M4) (fun k g => q5 k (by omega))
    refine Wp.g1 rfl ?_
    refine Wp.call rfl (c_count (hC4.cs sU) _) (fun v5 M5 h5 q => ?_)
    obtain ⟨rfl, rfl, q6⟩ := q
    have hC5 := hC4.kept (M' := M5) (fun k g => q6 k (by omega))
    refine Wp.g1 rfl ?_
    refine Wp.calli rfl (m_low (bShr v 5) 31 (by decide) M5 _) ?_
    rw [hx]
    have ec : rCount V' a.nb (a.nc + 1) 0 = a.V 0 := nof 0 (by omega) (by omega) (by omega)
    have e7 : rClaimOf V' (a.nc + 1) (a.V 13 + 1) 7 = a.V 0 - x8 := by
      rw [eN]
      have := claim_at (y := 7) hC' (r := a.nc) (by omega) (by decide)
      exact this.trans nrw.2.2.2.2.2.2.2
    refine Wp.g1 rfl ?_
    refine Wp.brf rfl (fun q => q ?_) ?_
    · show rClaimOf V' (a.nc + 1) (a.V 13 + 1) 7 = w32 (rCount V' a.nb (a.nc + 1) 0 - x8)
      rw [e7, ec, w32_id ⟨by omega, by omega⟩]
    refine Wp.g1 rfl ?_
    refine Wp.re rfl ⟨rfl, rfl, _, hC5, hI.of sU hB' hC' ?_ ?_ ?_, hG.same ?_ (nof 1 (by omega) (by omega) (by omega)) (fun i hi => nof _ (by omega) (by omega) (by omega))⟩
    · show V' 11 ≤ a.V 11 + 1
      rw [nof 11 (by omega) (by omega) (by omega)]; omega
    · show V' 13 ≤ a.V 13 + 1
      rw [nhd.2.1]; omega
    · show V' 0 ≤ a.V 0 + 99
      rw [nof 0 (by omega) (by omega) (by omega)]; omega
    · exact (q6 74 (by omega)).trans ((q5 74 (by omega)).trans ((q4 74 (by omega)).trans ((q3 74 (by omega)).trans (q1 74 (by omega)))))
end COMING
end
section
/-! the law's step, whole -/
section STEP
variable {M : Me} {h : Ml} {a : At} {e : Nat}
theorem d_switch (hC : CR M a) (hI : Iv a e) (hG : GR M a.V) (he : e < 60) (v w C B : Int) (hc : isC a C) (hb : isB a B) : Wp zS0 tL_does none 83 (dL v w C B (a.V 17) a.nb a.nc) [] M h (Dp e h) := by
  refine Wp.g1 rfl ?_
  refine Wp.calli rfl (m_low v 16 (by decide) M h) ?_
  have l1 := lo_lt v (n := 16) (by decide)
  generalize lo v 16 = k at l1
  by_cases e0 : k = 0
  · subst e0
    refine Wp.sw rfl ?_
    exact d_found hC hI hG he v w C B _
  by_cases e1 : k = 1
  · subst e1
    refine Wp.sw rfl ?_
    exact d_found hC hI hG he v w C B _
  by_cases e2 : k = 2
  · subst e2
    refine Wp.sw rfl ?_
    exact d_found hC hI hG he v w C B _
  by_cases e3 : k = 3
  · subst e3
    refine Wp.sw rfl ?_
    exact d_found hC hI hG he v w C B _
  by_cases e4 : k = 4
  · subst e4
    refine Wp.sw rfl ?_
    exact d_claim hC hI hG he v w C B _
  by_cases e5 : k = 5
  · subst e5
    refine Wp.sw rfl ?_
    exact d_claim hC hI hG he v w C B _
  by_cases e6 : k = 6
  · subst e6
    refine Wp.sw rfl ?_
    exact d_claim hC hI hG he v w C B _
  by_cases e7 : k = 7
  · subst e7
    refine Wp.sw rfl ?_
    exact d_match hC hI hG v w C B _ hc hb
  by_cases e8 : k = 8
  · subst e8
    refine Wp.sw rfl ?_
    exact d_unmatch hC hI hG v w C B _ hc
  by_cases e9 : k = 9
  · subst e9
    refine Wp.sw rfl ?_
    exact d_deliver hC hI hG v w C B hc
  by_cases e10 : k = 10
  · subst e10
    refine Wp.sw rfl ?_
    exact d_giveUp hC hI hG v w C B hc
  by_cases e11 : k = 11
  · subst e11
    refine Wp.sw rfl ?_
    exact d_auction hC hI hG v w C B hb
  by_cases e12 : k = 12
  · subst e12
    refine Wp.sw rfl ?_
    exact d_threshold hC hI hG v w C B _
  by_cases e13 : k = 13
  · subst e13
    refine Wp.sw rfl ?_
    exact d_weight hC hI hG v w C B _
  refine Wp.swo rfl (by omega) ?_
  exact d_pass hC hI hG he v w C B _
theorem d_59 (hC : CR M a) (hI : Iv a e) (hG : GR M a.V) (he : e < 60) (v w C B : Int) (hc : isC a C) (hb : isB a B) : Wp zS0 tL_does none 59 [zr 0, zr 74, zi v, zi w, zi C, zn, zn, zn, zn, zn, zn, zn, zn, zn, zn, zn, zn, zn, zn, zn, zn, zn, zn, zn, zn, zn, zn, zn, zn] [zi B] M h (Dp e h) := by
  have hS := hI.1
  refine Wp.g1 rfl ?_
  refine Wp.call rfl (c_count (hC.cs hS) _) (fun v1 M1 h1 q => ?_)
  obtain ⟨rfl, rfl, q1⟩ := q
  have hC1 : CR M1 a := hC.kept (fun k g => q1 k (by omega))
  refine Wp.g1 rfl ?_
  refine Wp.call rfl (c_count (hC1.cs hS) _) (fun v2 M2 h2 q => ?_)
  obtain ⟨rfl, rfl, q2⟩ := q
  have hC2 : CR M2 a := hC1.kept (fun k g => q2 k (by omega))
  refine Wp.g1 rfl ?_
  refine Wp.call rfl (c_count (hC2.cs hS) _) (fun v3 M3 h3 q => ?_)
  obtain ⟨rfl, rfl, q3⟩ := q
  have hC3 : CR M3 a := hC2.kept (fun k g => q3 k (by omega))
  refine Wp.gt 83 rfl ?_
  exact d_switch hC3 hI (hG.same ((q3 74 (by omega)).trans ((q2 74 (by omega)).trans (q1 74 (by omega)))) rfl (fun _ _ => rfl)) he v w C B hc hb
theorem d_28 (hC : CR M a) (hI : Iv a e) (hG : GR M a.V) (he : e < 60) (v w C : Int) (hc : isC a C) : Wp zS0 tL_does none 28 [zr 0, zr 74, zi v, zi w, zn, zn, zn, zn, zn, zn, zn, zn, zn, zn, zn, zn, zn, zn, zn, zn, zn, zn, zn, zn, zn, zn, zn, zn, zn] [zi C] M h (Dp e h) := by
  have hS := hI.1
  have hW : WF a.V a.nb a.nc e := hS.1
  have h11 := hI.2.2.2.1.1
  refine Wp.g1 rfl ?_
  refine Wp.call rfl (c_count (hC.cs hS) _) (fun v1 M1 h1 q => ?_)
  obtain ⟨rfl, rfl, q1⟩ := q
  have hC1 : CR M1 a := hC.kept (fun k g => q1 k (by omega))
  have ec : rCount a.V a.nb a.nc 1 = (a.nb : Int) := rfl
  rw [ec]
  by_cases g : a.nb = 0
  · refine Wp.brf rfl (by omega) ?_
    refine Wp.gt 59 rfl ?_
    exact d_59 hC1 hI (hG.same (q1 74 (by omega)) rfl (fun _ _ => rfl)) he v w C 0 hc (Or.inl ⟨rfl, g⟩)
  · refine Wp.brt rfl (by omega) ?_
    refine Wp.g1 rfl ?_
    refine Wp.call rfl (c_count (hC1.cs hS) _) (fun v2 M2 h2 q => ?_)
    obtain ⟨rfl, rfl, q2⟩ := q
    have hC2 : CR M2 a := hC1.kept (fun k g => q2 k (by omega))
    rw [ec]
    refine Wp.calli rfl (m_low (bShr v 9) a.nb (by omega) M2 _) ?_
    have l1 := lo_lt (bShr v 9) (n := a.nb) (by omega)
    have hnb := hW.1.2.2.1
    generalize lo (bShr v 9) a.nb = b at l1
    refine Wp.call rfl (n_bag (hC2.cs hS) hI.2.1 (by omega) b (by omega)) (fun v3 M3 h3 q => ?_)
    obtain ⟨rfl, rfl, q3⟩ := q
    have hC3 : CR M3 a := hC2.kept (fun k g => q3 k (by omega))
    rw [if_pos l1]
    exact d_59 hC3 hI (hG.same ((q3 74 (by omega)).trans ((q2 74 (by omega)).trans (q1 74 (by omega)))) rfl (fun _ _ => rfl)) he v w C _ hc (Or.inr ⟨b, l1, rfl⟩)
theorem m_does (hC : CR M a) (hI : Iv a e) (hG : GR M a.V) (he : e < 60) (v w : Int) : Wp zS0 tL_does none 0 [zr 0, zr 74, zi v, zi w, zn, zn, zn, zn, zn, zn, zn, zn, zn, zn, zn, zn, zn, zn, zn, zn, zn, zn, zn, zn, zn, zn, zn, zn, zn] [] M h (Dp e h) := by
  have hS := hI.1
  have hW : WF a.V a.nb a.nc e := hS.1
  have h13 := hI.2.2.2.1.2
  refine Wp.g1 rfl ?_
  refine Wp.call rfl (c_count (hC.cs hS) _) (fun v1 M1 h1 q => ?_)
  obtain ⟨rfl, rfl, q1⟩ := q
  have hC1 : CR M1 a := hC.kept (fun k g => q1 k (by omega))
  have ec : rCount a.V a.nb a.nc 2 = (a.nc : Int) := rfl
  rw [ec]
  by_cases g : a.nc = 0
  · refine Wp.brf rfl (by omega) ?_
    refine Wp.gt 28 rfl ?_
    exact d_28 hC1 hI (hG.same (q1 74 (by omega)) rfl (fun _ _ => rfl)) he v w 0 (Or.inl ⟨rfl, g⟩)
  · refine Wp.brt rfl (by omega) ?_
    refine Wp.g1 rfl ?_
    refine Wp.call rfl (c_count (hC1.cs hS) _) (fun v2 M2 h2 q => ?_)
    obtain ⟨rfl, rfl, q2⟩ := q
    have hC2 : CR M2 a := hC1.kept (fun k g => q2 k (by omega))
    rw [ec]
    refine Wp.calli rfl (m_low (bShr v 5) a.nc (by omega) M2 _) ?_
    have l1 := lo_lt (bShr v 5) (n := a.nc) (by omega)
    have hnc := hW.1.2.2.2
    generalize lo (bShr v 5) a.nc = c at l1
    refine Wp.call rfl (n_claim (hC2.cs hS) hI.2.2.1 (by omega) c (by omega)) (fun v3 M3 h3 q => ?_)
    obtain ⟨rfl, rfl, q3⟩ := q
    have hC3 : CR M3 a := hC2.kept (fun k g => q3 k (by omega))
    rw [if_pos l1]
    exact d_28 hC3 hI (hG.same ((q3 74 (by omega)).trans ((q2 74 (by omega)).trans (q1 74 (by omega)))) rfl (fun _ _ => rfl)) he v w _ (Or.inr ⟨c, l1, rfl⟩)
end STEP
end
