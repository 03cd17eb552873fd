/-! names: classes, fields, methods (printed by TURN) -/
def RX0 : String := "ClosuresThatBounce$Caches"
def TX0 : u_T := fun k => match k with
  | 0 => ("ClosuresThatBounce$Caches", "shapes", "[I", true)
  | 1 => ("ClosuresThatBounce$Caches", "hits", "[I", true)
  | _ => ("ClosuresThatBounce$Caches", "misses", "[I", true)
def tyX0 : Nat → FieldType := fun k => match k with
  | 0 => .array .int
  | 1 => .array .int
  | _ => .array .int
abbrev wsX00 : List Cond := u_ws RX0 TX0 3
theorem nmX0 : ∀ a, a < 3 → ∀ b, b < 3 → a ≠ b → (TX0 a).2.1 ≠ (TX0 b).2.1 := by decide +kernel
theorem tyX0_ok : ∀ k, k < 3 → parseFieldDescriptor (TX0 k).2.2.1 = some (tyX0 k) := by decide +kernel
abbrev cX0_init : ByteArray := prog_2_method_1_code
def yX0_init : MethodName := ⟨RX0, "<init>", "()V"⟩
abbrev cX0_see : ByteArray := prog_2_method_2_code
def yX0_see : MethodName := ⟨RX0, "see", "(II)V"⟩
abbrev cX0_stateOf : ByteArray := prog_2_method_3_code
def yX0_stateOf : MethodName := ⟨RX0, "stateOf", "(I)I"⟩
abbrev cX0_tell : ByteArray := prog_2_method_4_code
def yX0_tell : MethodName := ⟨RX0, "tell", "(II)I"⟩
abbrev cX0_allHits : ByteArray := prog_2_method_5_code
def yX0_allHits : MethodName := ⟨RX0, "allHits", "()I"⟩
abbrev cX0_allMisses : ByteArray := prog_2_method_6_code
def yX0_allMisses : MethodName := ⟨RX0, "allMisses", "()I"⟩
abbrev cX0_sumOf : ByteArray := prog_2_method_7_code
def yX0_sumOf : MethodName := ⟨RX0, "sumOf", "([I)I"⟩
abbrev cX0_forget : ByteArray := prog_2_method_8_code
def yX0_forget : MethodName := ⟨RX0, "forget", "()V"⟩
abbrev cX0_copyFrom : ByteArray := prog_2_method_9_code
def yX0_copyFrom : MethodName := ⟨RX0, "copyFrom", "(LClosuresThatBounce$Caches;)V"⟩
def RX1 : String := "ClosuresThatBounce$Cells"
def TX1 : u_T := fun k => match k with
  | 0 => ("ClosuresThatBounce$Cells", "variables", "[I", true)
  | 1 => ("ClosuresThatBounce$Cells", "values", "[I", true)
  | 2 => ("ClosuresThatBounce$Cells", "outer", "[I", true)
  | _ => ("ClosuresThatBounce$Cells", "made", "I", false)
def tyX1 : Nat → FieldType := fun k => match k with
  | 0 => .array .int
  | 1 => .array .int
  | 2 => .array .int
  | _ => .int
abbrev wsX10 : List Cond := u_ws RX1 TX1 4
theorem nmX1 : ∀ a, a < 4 → ∀ b, b < 4 → a ≠ b → (TX1 a).2.1 ≠ (TX1 b).2.1 := by decide +kernel
theorem tyX1_ok : ∀ k, k < 4 → parseFieldDescriptor (TX1 k).2.2.1 = some (tyX1 k) := by decide +kernel
abbrev cX1_init : ByteArray := prog_3_method_1_code
def yX1_init : MethodName := ⟨RX1, "<init>", "()V"⟩
abbrev cX1_forget : ByteArray := prog_3_method_2_code
def yX1_forget : MethodName := ⟨RX1, "forget", "()V"⟩
abbrev cX1_add : ByteArray := prog_3_method_3_code
def yX1_add : MethodName := ⟨RX1, "add", "(III)I"⟩
abbrev cX1_innermost : ByteArray := prog_3_method_4_code
def yX1_innermost : MethodName := ⟨RX1, "innermost", "(II)I"⟩
abbrev cX1_valueIn : ByteArray := prog_3_method_5_code
def yX1_valueIn : MethodName := ⟨RX1, "valueIn", "(I)I"⟩
abbrev cX1_change : ByteArray := prog_3_method_6_code
def yX1_change : MethodName := ⟨RX1, "change", "(II)V"⟩
def RX2 : String := "ClosuresThatBounce$Ending"
def TX2 : u_T := fun k => match k with
  | 0 => ("ClosuresThatBounce$Ending", "how", "I", false)
  | 1 => ("ClosuresThatBounce$Ending", "told", "I", false)
  | 2 => ("ClosuresThatBounce$Ending", "steps", "I", false)
  | 3 => ("ClosuresThatBounce$Ending", "greatestDepth", "I", false)
  | 4 => ("ClosuresThatBounce$Ending", "bounces", "I", false)
  | 5 => ("ClosuresThatBounce$Ending", "causes", "I", false)
  | _ => ("ClosuresThatBounce$Ending", "lastCode", "I", false)
def tyX2 : Nat → FieldType := fun k => match k with
  | 0 => .int
  | 1 => .int
  | 2 => .int
  | 3 => .int
  | 4 => .int
  | 5 => .int
  | _ => .int
abbrev wsX20 : List Cond := u_ws RX2 TX2 7
theorem nmX2 : ∀ a, a < 7 → ∀ b, b < 7 → a ≠ b → (TX2 a).2.1 ≠ (TX2 b).2.1 := by decide +kernel
theorem tyX2_ok : ∀ k, k < 7 → parseFieldDescriptor (TX2 k).2.2.1 = some (tyX2 k) := by decide +kernel
abbrev cX2_init : ByteArray := prog_4_method_1_code
def yX2_init : MethodName := ⟨RX2, "<init>", "()V"⟩
abbrev cX2_tell : ByteArray := prog_4_method_2_code
def yX2_tell : MethodName := ⟨RX2, "tell", "(I)I"⟩
abbrev cX2_codeAt : ByteArray := prog_4_method_3_code
def yX2_codeAt : MethodName := ⟨RX2, "codeAt", "(I)I"⟩
abbrev cX2_isNumber : ByteArray := prog_4_method_4_code
def yX2_isNumber : MethodName := ⟨RX2, "isNumber", "(I)Z"⟩
abbrev cX2_copyFrom : ByteArray := prog_4_method_5_code
def yX2_copyFrom : MethodName := ⟨RX2, "copyFrom", "(LClosuresThatBounce$Ending;)V"⟩
def RX3 : String := "ClosuresThatBounce$Letters"
def TX3 : u_T := fun k => match k with
  | 0 => ("ClosuresThatBounce$Letters", "told", "[I", true)
  | 1 => ("ClosuresThatBounce$Letters", "owners", "[I", true)
  | 2 => ("ClosuresThatBounce$Letters", "slots", "[I", true)
  | 3 => ("ClosuresThatBounce$Letters", "comingOwners", "[I", true)
  | 4 => ("ClosuresThatBounce$Letters", "comingSlots", "[I", true)
  | 5 => ("ClosuresThatBounce$Letters", "coming", "I", false)
  | 6 => ("ClosuresThatBounce$Letters", "expressions", "I", false)
  | _ => ("ClosuresThatBounce$Letters", "length", "I", false)
def tyX3 : Nat → FieldType := fun k => match k with
  | 0 => .array .int
  | 1 => .array .int
  | 2 => .array .int
  | 3 => .array .int
  | 4 => .array .int
  | 5 => .int
  | 6 => .int
  | _ => .int
abbrev wsX30 : List Cond := u_ws RX3 TX3 8
theorem nmX3 : ∀ a, a < 8 → ∀ b, b < 8 → a ≠ b → (TX3 a).2.1 ≠ (TX3 b).2.1 := by decide +kernel
theorem tyX3_ok : ∀ k, k < 8 → parseFieldDescriptor (TX3 k).2.2.1 = some (tyX3 k) := by decide +kernel
abbrev cX3_init : ByteArray := prog_5_method_1_code
def yX3_init : MethodName := ⟨RX3, "<init>", "()V"⟩
abbrev cX3_isFull : ByteArray := prog_5_method_2_code
def yX3_isFull : MethodName := ⟨RX3, "isFull", "()Z"⟩
abbrev cX3_add : ByteArray := prog_5_method_3_code
def yX3_add : MethodName := ⟨RX3, "add", "(I)I"⟩
abbrev cX3_forget : ByteArray := prog_5_method_4_code
def yX3_forget : MethodName := ⟨RX3, "forget", "()V"⟩
abbrev cX3_findFault : ByteArray := prog_5_method_5_code
def yX3_findFault : MethodName := ⟨RX3, "findFault", "()I"⟩
abbrev cX3_writeInto : ByteArray := prog_5_method_6_code
def yX3_writeInto : MethodName := ⟨RX3, "writeInto", "(LClosuresThatBounce$Program;)V"⟩
abbrev cX3_fits : ByteArray := prog_5_method_7_code
def yX3_fits : MethodName := ⟨RX3, "fits", "(I)Z"⟩
abbrev cX3_await : ByteArray := prog_5_method_8_code
def yX3_await : MethodName := ⟨RX3, "await", "(II)V"⟩
abbrev cX3_placeBeyondLimits : ByteArray := prog_5_method_9_code
def yX3_placeBeyondLimits : MethodName := ⟨RX3, "placeBeyondLimits", "()I"⟩
abbrev cX3_isName : ByteArray := prog_5_method_10_code
def yX3_isName : MethodName := ⟨RX3, "isName", "(I)Z"⟩
abbrev cX3_isDigit : ByteArray := prog_5_method_11_code
def yX3_isDigit : MethodName := ⟨RX3, "isDigit", "(I)Z"⟩
abbrev cX3_isSite : ByteArray := prog_5_method_12_code
def yX3_isSite : MethodName := ⟨RX3, "isSite", "(I)Z"⟩
abbrev cX3_isSign : ByteArray := prog_5_method_13_code
def yX3_isSign : MethodName := ⟨RX3, "isSign", "(I)Z"⟩
abbrev cX3_partsOf : ByteArray := prog_5_method_14_code
def yX3_partsOf : MethodName := ⟨RX3, "partsOf", "(I)Ljava/lang/String;"⟩
def RX4 : String := "ClosuresThatBounce$Machine"
def TX4 : u_T := fun k => match k with
  | 0 => ("ClosuresThatBounce$Machine", "globals", "[I", true)
  | 1 => ("ClosuresThatBounce$Machine", "caches", "LClosuresThatBounce$Caches;", true)
  | 2 => ("ClosuresThatBounce$Machine", "ending", "LClosuresThatBounce$Ending;", true)
  | 3 => ("ClosuresThatBounce$Machine", "cells", "LClosuresThatBounce$Cells;", true)
  | 4 => ("ClosuresThatBounce$Machine", "things", "LClosuresThatBounce$Things;", true)
  | 5 => ("ClosuresThatBounce$Machine", "waiting", "LClosuresThatBounce$Waiting;", true)
  | 6 => ("ClosuresThatBounce$Machine", "program", "LClosuresThatBounce$Program;", false)
  | 7 => ("ClosuresThatBounce$Machine", "mode", "I", false)
  | 8 => ("ClosuresThatBounce$Machine", "expression", "I", false)
  | 9 => ("ClosuresThatBounce$Machine", "frame", "I", false)
  | 10 => ("ClosuresThatBounce$Machine", "value", "I", false)
  | 11 => ("ClosuresThatBounce$Machine", "depth", "I", false)
  | _ => ("ClosuresThatBounce$Machine", "failed", "Z", false)
def tyX4 : Nat → FieldType := fun k => match k with
  | 0 => .array .int
  | 1 => .object "ClosuresThatBounce$Caches"
  | 2 => .object "ClosuresThatBounce$Ending"
  | 3 => .object "ClosuresThatBounce$Cells"
  | 4 => .object "ClosuresThatBounce$Things"
  | 5 => .object "ClosuresThatBounce$Waiting"
  | 6 => .object "ClosuresThatBounce$Program"
  | 7 => .int
  | 8 => .int
  | 9 => .int
  | 10 => .int
  | 11 => .int
  | _ => .boolean
abbrev wsX40 : List Cond := u_ws RX4 TX4 13
theorem nmX4 : ∀ a, a < 13 → ∀ b, b < 13 → a ≠ b → (TX4 a).2.1 ≠ (TX4 b).2.1 := by decide +kernel
theorem tyX4_ok : ∀ k, k < 13 → parseFieldDescriptor (TX4 k).2.2.1 = some (tyX4 k) := by decide +kernel
abbrev cX4_init : ByteArray := prog_6_method_1_code
def yX4_init : MethodName := ⟨RX4, "<init>", "()V"⟩
abbrev cX4_takeUp : ByteArray := prog_6_method_2_code
def yX4_takeUp : MethodName := ⟨RX4, "takeUp", "(LClosuresThatBounce$Situation;)V"⟩
abbrev cX4_perform : ByteArray := prog_6_method_3_code
def yX4_perform : MethodName := ⟨RX4, "perform", "()LClosuresThatBounce$Ending;"⟩
abbrev cX4_start : ByteArray := prog_6_method_4_code
def yX4_start : MethodName := ⟨RX4, "start", "()V"⟩
abbrev cX4_tellEnding : ByteArray := prog_6_method_5_code
def yX4_tellEnding : MethodName := ⟨RX4, "tellEnding", "()V"⟩
abbrev cX4_begin : ByteArray := prog_6_method_6_code
def yX4_begin : MethodName := ⟨RX4, "begin", "(II)V"⟩
abbrev cX4_give : ByteArray := prog_6_method_7_code
def yX4_give : MethodName := ⟨RX4, "give", "(I)V"⟩
abbrev cX4_fail : ByteArray := prog_6_method_8_code
def yX4_fail : MethodName := ⟨RX4, "fail", "(I)V"⟩
abbrev cX4_beginExpression : ByteArray := prog_6_method_9_code
def yX4_beginExpression : MethodName := ⟨RX4, "beginExpression", "()V"⟩
abbrev cX4_useValue : ByteArray := prog_6_method_10_code
def yX4_useValue : MethodName := ⟨RX4, "useValue", "()V"⟩
abbrev cX4_passFaultOn : ByteArray := prog_6_method_11_code
def yX4_passFaultOn : MethodName := ⟨RX4, "passFaultOn", "()V"⟩
abbrev cX4_isCaught : ByteArray := prog_6_method_12_code
def yX4_isCaught : MethodName := ⟨RX4, "isCaught", "(I)Z"⟩
abbrev cX4_forgetFault : ByteArray := prog_6_method_13_code
def yX4_forgetFault : MethodName := ⟨RX4, "forgetFault", "()V"⟩
abbrev cX4_beginSecondWithCell : ByteArray := prog_6_method_14_code
def yX4_beginSecondWithCell : MethodName := ⟨RX4, "beginSecondWithCell", "(III)V"⟩
abbrev cX4_useOneOfTwo : ByteArray := prog_6_method_15_code
def yX4_useOneOfTwo : MethodName := ⟨RX4, "useOneOfTwo", "(III)V"⟩
abbrev cX4_reckon : ByteArray := prog_6_method_16_code
def yX4_reckon : MethodName := ⟨RX4, "reckon", "(III)V"⟩
abbrev cX4_choose : ByteArray := prog_6_method_17_code
def yX4_choose : MethodName := ⟨RX4, "choose", "(II)V"⟩
abbrev cX4_useForCall : ByteArray := prog_6_method_18_code
def yX4_useForCall : MethodName := ⟨RX4, "useForCall", "(II)V"⟩
abbrev cX4_call : ByteArray := prog_6_method_19_code
def yX4_call : MethodName := ⟨RX4, "call", "(III)V"⟩
abbrev cX4_valueOfVariable : ByteArray := prog_6_method_20_code
def yX4_valueOfVariable : MethodName := ⟨RX4, "valueOfVariable", "(II)I"⟩
abbrev cX4_store : ByteArray := prog_6_method_21_code
def yX4_store : MethodName := ⟨RX4, "store", "(II)V"⟩
abbrev cX4_findField : ByteArray := prog_6_method_22_code
def yX4_findField : MethodName := ⟨RX4, "findField", "(II)V"⟩
abbrev cX4_failAsTold : ByteArray := prog_6_method_23_code
def yX4_failAsTold : MethodName := ⟨RX4, "failAsTold", "()V"⟩
def RX5 : String := "ClosuresThatBounce$Program"
def TX5 : u_T := fun k => match k with
  | 0 => ("ClosuresThatBounce$Program", "signs", "[I", true)
  | 1 => ("ClosuresThatBounce$Program", "variables", "[I", true)
  | 2 => ("ClosuresThatBounce$Program", "seconds", "[I", true)
  | 3 => ("ClosuresThatBounce$Program", "thirds", "[I", true)
  | 4 => ("ClosuresThatBounce$Program", "sites", "[I", true)
  | 5 => ("ClosuresThatBounce$Program", "ends", "[I", true)
  | 6 => ("ClosuresThatBounce$Program", "size", "I", false)
  | _ => ("ClosuresThatBounce$Program", "siteCount", "I", false)
def tyX5 : Nat → FieldType := fun k => match k with
  | 0 => .array .int
  | 1 => .array .int
  | 2 => .array .int
  | 3 => .array .int
  | 4 => .array .int
  | 5 => .array .int
  | 6 => .int
  | _ => .int
abbrev wsX50 : List Cond := u_ws RX5 TX5 8
theorem nmX5 : ∀ a, a < 8 → ∀ b, b < 8 → a ≠ b → (TX5 a).2.1 ≠ (TX5 b).2.1 := by decide +kernel
theorem tyX5_ok : ∀ k, k < 8 → parseFieldDescriptor (TX5 k).2.2.1 = some (tyX5 k) := by decide +kernel
abbrev cX5_init : ByteArray := prog_7_method_1_code
def yX5_init : MethodName := ⟨RX5, "<init>", "()V"⟩
abbrev cX5_signOf : ByteArray := prog_7_method_2_code
def yX5_signOf : MethodName := ⟨RX5, "signOf", "(I)I"⟩
abbrev cX5_variableOf : ByteArray := prog_7_method_3_code
def yX5_variableOf : MethodName := ⟨RX5, "variableOf", "(I)I"⟩
abbrev cX5_firstOf : ByteArray := prog_7_method_4_code
def yX5_firstOf : MethodName := ⟨RX5, "firstOf", "(I)I"⟩
abbrev cX5_secondOf : ByteArray := prog_7_method_5_code
def yX5_secondOf : MethodName := ⟨RX5, "secondOf", "(I)I"⟩
abbrev cX5_thirdOf : ByteArray := prog_7_method_6_code
def yX5_thirdOf : MethodName := ⟨RX5, "thirdOf", "(I)I"⟩
abbrev cX5_siteOf : ByteArray := prog_7_method_7_code
def yX5_siteOf : MethodName := ⟨RX5, "siteOf", "(I)I"⟩
abbrev cX5_isAtEnd : ByteArray := prog_7_method_8_code
def yX5_isAtEnd : MethodName := ⟨RX5, "isAtEnd", "(I)Z"⟩
abbrev cX5_empty : ByteArray := prog_7_method_9_code
def yX5_empty : MethodName := ⟨RX5, "empty", "()V"⟩
abbrev cX5_add : ByteArray := prog_7_method_10_code
def yX5_add : MethodName := ⟨RX5, "add", "(III)V"⟩
abbrev cX5_nameVariable : ByteArray := prog_7_method_11_code
def yX5_nameVariable : MethodName := ⟨RX5, "nameVariable", "(II)V"⟩
abbrev cX5_comesToEnd : ByteArray := prog_7_method_12_code
def yX5_comesToEnd : MethodName := ⟨RX5, "comesToEnd", "(II)Z"⟩
abbrev cX5_copyFrom : ByteArray := prog_7_method_13_code
def yX5_copyFrom : MethodName := ⟨RX5, "copyFrom", "(LClosuresThatBounce$Program;)V"⟩
def RX6 : String := "ClosuresThatBounce$Situation"
def TX6 : u_T := fun k => match k with
  | 0 => ("ClosuresThatBounce$Situation", "program", "LClosuresThatBounce$Program;", true)
  | 1 => ("ClosuresThatBounce$Situation", "globals", "[I", true)
  | 2 => ("ClosuresThatBounce$Situation", "caches", "LClosuresThatBounce$Caches;", true)
  | 3 => ("ClosuresThatBounce$Situation", "latest", "LClosuresThatBounce$Ending;", true)
  | 4 => ("ClosuresThatBounce$Situation", "hasRun", "Z", false)
  | _ => ("ClosuresThatBounce$Situation", "runs", "I", false)
def tyX6 : Nat → FieldType := fun k => match k with
  | 0 => .object "ClosuresThatBounce$Program"
  | 1 => .array .int
  | 2 => .object "ClosuresThatBounce$Caches"
  | 3 => .object "ClosuresThatBounce$Ending"
  | 4 => .boolean
  | _ => .int
abbrev wsX60 : List Cond := u_ws RX6 TX6 6
theorem nmX6 : ∀ a, a < 6 → ∀ b, b < 6 → a ≠ b → (TX6 a).2.1 ≠ (TX6 b).2.1 := by decide +kernel
theorem tyX6_ok : ∀ k, k < 6 → parseFieldDescriptor (TX6 k).2.2.1 = some (tyX6 k) := by decide +kernel
abbrev cX6_init : ByteArray := prog_8_method_1_code
def yX6_init : MethodName := ⟨RX6, "<init>", "()V"⟩
abbrev cX6_startAnew : ByteArray := prog_8_method_2_code
def yX6_startAnew : MethodName := ⟨RX6, "startAnew", "()V"⟩
abbrev cX6_keepRun : ByteArray := prog_8_method_3_code
def yX6_keepRun : MethodName := ⟨RX6, "keepRun", "(LClosuresThatBounce$Machine;LClosuresThatBounce$Ending;)V"⟩
abbrev cX6_copyFrom : ByteArray := prog_8_method_4_code
def yX6_copyFrom : MethodName := ⟨RX6, "copyFrom", "(LClosuresThatBounce$Situation;)V"⟩
def RX7 : String := "ClosuresThatBounce$Things"
def TX7 : u_T := fun k => match k with
  | 0 => ("ClosuresThatBounce$Things", "kinds", "[I", true)
  | 1 => ("ClosuresThatBounce$Things", "ones", "[I", true)
  | 2 => ("ClosuresThatBounce$Things", "twos", "[I", true)
  | _ => ("ClosuresThatBounce$Things", "made", "I", false)
def tyX7 : Nat → FieldType := fun k => match k with
  | 0 => .array .int
  | 1 => .array .int
  | 2 => .array .int
  | _ => .int
abbrev wsX70 : List Cond := u_ws RX7 TX7 4
theorem nmX7 : ∀ a, a < 4 → ∀ b, b < 4 → a ≠ b → (TX7 a).2.1 ≠ (TX7 b).2.1 := by decide +kernel
theorem tyX7_ok : ∀ k, k < 4 → parseFieldDescriptor (TX7 k).2.2.1 = some (tyX7 k) := by decide +kernel
abbrev cX7_init : ByteArray := prog_9_method_1_code
def yX7_init : MethodName := ⟨RX7, "<init>", "()V"⟩
abbrev cX7_forget : ByteArray := prog_9_method_2_code
def yX7_forget : MethodName := ⟨RX7, "forget", "()V"⟩
abbrev cX7_add : ByteArray := prog_9_method_3_code
def yX7_add : MethodName := ⟨RX7, "add", "(III)I"⟩
abbrev cX7_isNumber : ByteArray := prog_9_method_4_code
def yX7_isNumber : MethodName := ⟨RX7, "isNumber", "(I)Z"⟩
abbrev cX7_isFunction : ByteArray := prog_9_method_5_code
def yX7_isFunction : MethodName := ⟨RX7, "isFunction", "(I)Z"⟩
abbrev cX7_hasField : ByteArray := prog_9_method_6_code
def yX7_hasField : MethodName := ⟨RX7, "hasField", "(II)Z"⟩
abbrev cX7_kindOf : ByteArray := prog_9_method_7_code
def yX7_kindOf : MethodName := ⟨RX7, "kindOf", "(I)I"⟩
abbrev cX7_fieldOf : ByteArray := prog_9_method_8_code
def yX7_fieldOf : MethodName := ⟨RX7, "fieldOf", "(II)I"⟩
abbrev cX7_expressionOf : ByteArray := prog_9_method_9_code
def yX7_expressionOf : MethodName := ⟨RX7, "expressionOf", "(I)I"⟩
abbrev cX7_frameOf : ByteArray := prog_9_method_10_code
def yX7_frameOf : MethodName := ⟨RX7, "frameOf", "(I)I"⟩
def RX8 : String := "ClosuresThatBounce$Waiting"
def TX8 : u_T := fun k => match k with
  | 0 => ("ClosuresThatBounce$Waiting", "expressions", "[I", true)
  | 1 => ("ClosuresThatBounce$Waiting", "frames", "[I", true)
  | 2 => ("ClosuresThatBounce$Waiting", "stages", "[I", true)
  | 3 => ("ClosuresThatBounce$Waiting", "firsts", "[I", true)
  | _ => ("ClosuresThatBounce$Waiting", "height", "I", false)
def tyX8 : Nat → FieldType := fun k => match k with
  | 0 => .array .int
  | 1 => .array .int
  | 2 => .array .int
  | 3 => .array .int
  | _ => .int
abbrev wsX80 : List Cond := u_ws RX8 TX8 5
theorem nmX8 : ∀ a, a < 5 → ∀ b, b < 5 → a ≠ b → (TX8 a).2.1 ≠ (TX8 b).2.1 := by decide +kernel
theorem tyX8_ok : ∀ k, k < 5 → parseFieldDescriptor (TX8 k).2.2.1 = some (tyX8 k) := by decide +kernel
abbrev cX8_init : ByteArray := prog_10_method_1_code
def yX8_init : MethodName := ⟨RX8, "<init>", "()V"⟩
abbrev cX8_forget : ByteArray := prog_10_method_2_code
def yX8_forget : MethodName := ⟨RX8, "forget", "()V"⟩
abbrev cX8_isEmpty : ByteArray := prog_10_method_3_code
def yX8_isEmpty : MethodName := ⟨RX8, "isEmpty", "()Z"⟩
abbrev cX8_push : ByteArray := prog_10_method_4_code
def yX8_push : MethodName := ⟨RX8, "push", "(IIII)V"⟩
abbrev cX8_pop : ByteArray := prog_10_method_5_code
def yX8_pop : MethodName := ⟨RX8, "pop", "()V"⟩
abbrev cX8_expression : ByteArray := prog_10_method_6_code
def yX8_expression : MethodName := ⟨RX8, "expression", "()I"⟩
abbrev cX8_frame : ByteArray := prog_10_method_7_code
def yX8_frame : MethodName := ⟨RX8, "frame", "()I"⟩
abbrev cX8_stage : ByteArray := prog_10_method_8_code
def yX8_stage : MethodName := ⟨RX8, "stage", "()I"⟩
abbrev cX8_first : ByteArray := prog_10_method_9_code
def yX8_first : MethodName := ⟨RX8, "first", "()I"⟩
def RX9 : String := "ClosuresThatBounce"
def TX9 : u_T := fun k => match k with
  | 0 => ("ClosuresThatBounce", "now", "LClosuresThatBounce$Situation;", true)
  | 1 => ("ClosuresThatBounce", "kept", "LClosuresThatBounce$Situation;", true)
  | 2 => ("ClosuresThatBounce", "machine", "LClosuresThatBounce$Machine;", true)
  | 3 => ("ClosuresThatBounce", "letters", "LClosuresThatBounce$Letters;", true)
  | 4 => ("ClosuresThatBounce", "rowNumbers", "[I", true)
  | 5 => ("ClosuresThatBounce", "refusals", "[I", true)
  | 6 => ("ClosuresThatBounce", "endsOfTries", "[I", true)
  | 7 => ("ClosuresThatBounce", "rowLength", "I", false)
  | _ => ("ClosuresThatBounce", "imageTaken", "Z", false)
def tyX9 : Nat → FieldType := fun k => match k with
  | 0 => .object "ClosuresThatBounce$Situation"
  | 1 => .object "ClosuresThatBounce$Situation"
  | 2 => .object "ClosuresThatBounce$Machine"
  | 3 => .object "ClosuresThatBounce$Letters"
  | 4 => .array .int
  | 5 => .array .int
  | 6 => .array .int
  | 7 => .int
  | _ => .boolean
abbrev wsX90 : List Cond := u_ws RX9 TX9 9
theorem nmX9 : ∀ a, a < 9 → ∀ b, b < 9 → a ≠ b → (TX9 a).2.1 ≠ (TX9 b).2.1 := by decide +kernel
theorem tyX9_ok : ∀ k, k < 9 → parseFieldDescriptor (TX9 k).2.2.1 = some (tyX9 k) := by decide +kernel
abbrev cX9_init : ByteArray := prog_1_method_1_code
def yX9_init : MethodName := ⟨RX9, "<init>", "()V"⟩
abbrev cX9_letter : ByteArray := prog_1_method_2_code
def yX9_letter : MethodName := ⟨RX9, "letter", "(I)I"⟩
abbrev cX9_program : ByteArray := prog_1_method_3_code
def yX9_program : MethodName := ⟨RX9, "program", "()I"⟩
abbrev cX9_global : ByteArray := prog_1_method_4_code
def yX9_global : MethodName := ⟨RX9, "global", "(I)I"⟩
abbrev cX9_sets : ByteArray := prog_1_method_5_code
def yX9_sets : MethodName := ⟨RX9, "sets", "(II)I"⟩
abbrev cX9_run : ByteArray := prog_1_method_6_code
def yX9_run : MethodName := ⟨RX9, "run", "()I"⟩
abbrev cX9_ended : ByteArray := prog_1_method_7_code
def yX9_ended : MethodName := ⟨RX9, "ended", "(I)I"⟩
abbrev cX9_code : ByteArray := prog_1_method_8_code
def yX9_code : MethodName := ⟨RX9, "code", "(I)I"⟩
abbrev cX9_cache : ByteArray := prog_1_method_9_code
def yX9_cache : MethodName := ⟨RX9, "cache", "(II)I"⟩
abbrev cX9_thinks : ByteArray := prog_1_method_10_code
def yX9_thinks : MethodName := ⟨RX9, "thinks", "(I)I"⟩
abbrev cX9_with : ByteArray := prog_1_method_11_code
def yX9_with : MethodName := ⟨RX9, "with", "(III)I"⟩
abbrev cX9_solve : ByteArray := prog_1_method_12_code
def yX9_solve : MethodName := ⟨RX9, "solve", "(II)I"⟩
abbrev cX9_fewest : ByteArray := prog_1_method_13_code
def yX9_fewest : MethodName := ⟨RX9, "fewest", "(II)I"⟩
abbrev cX9_pure : ByteArray := prog_1_method_14_code
def yX9_pure : MethodName := ⟨RX9, "pure", "()I"⟩
abbrev cX9_changes : ByteArray := prog_1_method_15_code
def yX9_changes : MethodName := ⟨RX9, "changes", "()I"⟩
abbrev cX9_again : ByteArray := prog_1_method_16_code
def yX9_again : MethodName := ⟨RX9, "again", "(II)I"⟩
abbrev cX9_likely : ByteArray := prog_1_method_17_code
def yX9_likely : MethodName := ⟨RX9, "likely", "(II)J"⟩
abbrev cX9_mean : ByteArray := prog_1_method_18_code
def yX9_mean : MethodName := ⟨RX9, "mean", "(II)J"⟩
abbrev cX9_whatIs : ByteArray := prog_1_method_19_code
def yX9_whatIs : MethodName := ⟨RX9, "whatIs", "(I)I"⟩
abbrev cX9_row : ByteArray := prog_1_method_20_code
def yX9_row : MethodName := ⟨RX9, "row", "(I)I"⟩
abbrev cX9_judge : ByteArray := prog_1_method_21_code
def yX9_judge : MethodName := ⟨RX9, "judge", "()I"⟩
abbrev cX9_clear : ByteArray := prog_1_method_22_code
def yX9_clear : MethodName := ⟨RX9, "clear", "()I"⟩
abbrev cX9_lots : ByteArray := prog_1_method_23_code
def yX9_lots : MethodName := ⟨RX9, "lots", "(III)I"⟩
abbrev cX9_image : ByteArray := prog_1_method_24_code
def yX9_image : MethodName := ⟨RX9, "image", "()I"⟩
abbrev cX9_on : ByteArray := prog_1_method_25_code
def yX9_on : MethodName := ⟨RX9, "on", "()I"⟩
abbrev cX9_count : ByteArray := prog_1_method_26_code
def yX9_count : MethodName := ⟨RX9, "count", "(I)I"⟩
abbrev cX9_thinkOf : ByteArray := prog_1_method_27_code
def yX9_thinkOf : MethodName := ⟨RX9, "thinkOf", "()LClosuresThatBounce$Ending;"⟩
abbrev cX9_thinkWith : ByteArray := prog_1_method_28_code
def yX9_thinkWith : MethodName := ⟨RX9, "thinkWith", "(II)LClosuresThatBounce$Ending;"⟩
abbrev cX9_rowTellsEndsFrom : ByteArray := prog_1_method_29_code
def yX9_rowTellsEndsFrom : MethodName := ⟨RX9, "rowTellsEndsFrom", "(I)Z"⟩
abbrev cX9_refuse : ByteArray := prog_1_method_30_code
def yX9_refuse : MethodName := ⟨RX9, "refuse", "(I)I"⟩
abbrev cX9_refuseNumber : ByteArray := prog_1_method_31_code
def yX9_refuseNumber : MethodName := ⟨RX9, "refuseNumber", "(I)I"⟩
abbrev cX9_refuseLong : ByteArray := prog_1_method_32_code
def yX9_refuseLong : MethodName := ⟨RX9, "refuseLong", "(I)J"⟩
abbrev cX9_refusalOfGlobal : ByteArray := prog_1_method_33_code
def yX9_refusalOfGlobal : MethodName := ⟨RX9, "refusalOfGlobal", "(II)I"⟩
abbrev cX9_refusalOfMany : ByteArray := prog_1_method_34_code
def yX9_refusalOfMany : MethodName := ⟨RX9, "refusalOfMany", "(IIII)I"⟩
abbrev cX9_isVariable : ByteArray := prog_1_method_35_code
def yX9_isVariable : MethodName := ⟨RX9, "isVariable", "(I)Z"⟩
abbrev cX9_isOfEnding : ByteArray := prog_1_method_36_code
def yX9_isOfEnding : MethodName := ⟨RX9, "isOfEnding", "(I)Z"⟩
abbrev cX9_nextSeed : ByteArray := prog_1_method_37_code
def yX9_nextSeed : MethodName := ⟨RX9, "nextSeed", "(I)I"⟩
abbrev cX9_drawOf : ByteArray := prog_1_method_38_code
def yX9_drawOf : MethodName := ⟨RX9, "drawOf", "(I)I"⟩
abbrev cX9_partOfFraction : ByteArray := prog_1_method_39_code
def yX9_partOfFraction : MethodName := ⟨RX9, "partOfFraction", "(JJI)J"⟩
abbrev cX9_greatestDivisor : ByteArray := prog_1_method_40_code
def yX9_greatestDivisor : MethodName := ⟨RX9, "greatestDivisor", "(JJ)J"⟩
abbrev cX9_sameRows : ByteArray := prog_1_method_41_code
def yX9_sameRows : MethodName := ⟨RX9, "sameRows", "([I[I)Z"⟩
abbrev cX9_at : ByteArray := prog_1_method_42_code
def yX9_at : MethodName := ⟨RX9, "at", "([II)I"⟩
abbrev cX9_put : ByteArray := prog_1_method_43_code
def yX9_put : MethodName := ⟨RX9, "put", "([III)V"⟩
abbrev cX9_copyRow : ByteArray := prog_1_method_44_code
def yX9_copyRow : MethodName := ⟨RX9, "copyRow", "([I[I)V"⟩
def RX10 : String := "ClosuresThatBounceModel"
def TX10 : u_T := fun k => match k with
  | 0 => ("ClosuresThatBounceModel", "refused", "[I", true)
  | 1 => ("ClosuresThatBounceModel", "sign", "[I", true)
  | 2 => ("ClosuresThatBounceModel", "one", "[I", true)
  | 3 => ("ClosuresThatBounceModel", "two", "[I", true)
  | 4 => ("ClosuresThatBounceModel", "three", "[I", true)
  | 5 => ("ClosuresThatBounceModel", "own", "[I", true)
  | 6 => ("ClosuresThatBounceModel", "expressions", "I", false)
  | 7 => ("ClosuresThatBounceModel", "sites", "I", false)
  | 8 => ("ClosuresThatBounceModel", "theProgram", "I", false)
  | 9 => ("ClosuresThatBounceModel", "tape", "[I", true)
  | 10 => ("ClosuresThatBounceModel", "programText", "[I", true)
  | 11 => ("ClosuresThatBounceModel", "programBinder", "[I", true)
  | 12 => ("ClosuresThatBounceModel", "isBinder", "[I", true)
  | 13 => ("ClosuresThatBounceModel", "awaited", "[I", true)
  | 14 => ("ClosuresThatBounceModel", "pile", "[I", true)
  | 15 => ("ClosuresThatBounceModel", "taped", "I", false)
  | 16 => ("ClosuresThatBounceModel", "programMany", "I", false)
  | 17 => ("ClosuresThatBounceModel", "reading", "I", false)
  | 18 => ("ClosuresThatBounceModel", "badAt", "I", false)
  | 19 => ("ClosuresThatBounceModel", "waits", "I", false)
  | 20 => ("ClosuresThatBounceModel", "piled", "I", false)
  | 21 => ("ClosuresThatBounceModel", "siteNow", "I", false)
  | 22 => ("ClosuresThatBounceModel", "expressionsTold", "I", false)
  | 23 => ("ClosuresThatBounceModel", "sitesTold", "I", false)
  | 24 => ("ClosuresThatBounceModel", "globals", "[I", true)
  | 25 => ("ClosuresThatBounceModel", "seen", "[I", true)
  | 26 => ("ClosuresThatBounceModel", "hits", "[I", true)
  | 27 => ("ClosuresThatBounceModel", "misses", "[I", true)
  | 28 => ("ClosuresThatBounceModel", "lastCodes", "[I", true)
  | 29 => ("ClosuresThatBounceModel", "lastHow", "I", false)
  | 30 => ("ClosuresThatBounceModel", "lastNumber", "I", false)
  | 31 => ("ClosuresThatBounceModel", "lastSteps", "I", false)
  | 32 => ("ClosuresThatBounceModel", "lastDepth", "I", false)
  | 33 => ("ClosuresThatBounceModel", "lastBounces", "I", false)
  | 34 => ("ClosuresThatBounceModel", "lastCauses", "I", false)
  | 35 => ("ClosuresThatBounceModel", "runs", "I", false)
  | 36 => ("ClosuresThatBounceModel", "kind", "[I", true)
  | 37 => ("ClosuresThatBounceModel", "valueA", "[I", true)
  | 38 => ("ClosuresThatBounceModel", "valueB", "[I", true)
  | 39 => ("ClosuresThatBounceModel", "valueC", "[I", true)
  | 40 => ("ClosuresThatBounceModel", "cell", "[I", true)
  | 41 => ("ClosuresThatBounceModel", "frameOf", "[I", true)
  | 42 => ("ClosuresThatBounceModel", "frameCell", "[I", true)
  | 43 => ("ClosuresThatBounceModel", "frameBelow", "[I", true)
  | 44 => ("ClosuresThatBounceModel", "faultCode", "[I", true)
  | 45 => ("ClosuresThatBounceModel", "faultCause", "[I", true)
  | 46 => ("ClosuresThatBounceModel", "values", "I", false)
  | 47 => ("ClosuresThatBounceModel", "cells", "I", false)
  | 48 => ("ClosuresThatBounceModel", "frames", "I", false)
  | 49 => ("ClosuresThatBounceModel", "faults", "I", false)
  | 50 => ("ClosuresThatBounceModel", "madeOf", "[I", true)
  | 51 => ("ClosuresThatBounceModel", "madePhase", "[I", true)
  | 52 => ("ClosuresThatBounceModel", "madeFrame", "[I", true)
  | 53 => ("ClosuresThatBounceModel", "madeEnd", "[I", true)
  | 54 => ("ClosuresThatBounceModel", "madeFirst", "[I", true)
  | 55 => ("ClosuresThatBounceModel", "made", "I", false)
  | 56 => ("ClosuresThatBounceModel", "going", "I", false)
  | 57 => ("ClosuresThatBounceModel", "nowOf", "I", false)
  | 58 => ("ClosuresThatBounceModel", "nowFrame", "I", false)
  | 59 => ("ClosuresThatBounceModel", "nowEnd", "I", false)
  | 60 => ("ClosuresThatBounceModel", "nowValue", "I", false)
  | 61 => ("ClosuresThatBounceModel", "nowFault", "I", false)
  | 62 => ("ClosuresThatBounceModel", "steps", "I", false)
  | 63 => ("ClosuresThatBounceModel", "depth", "I", false)
  | 64 => ("ClosuresThatBounceModel", "deepest", "I", false)
  | 65 => ("ClosuresThatBounceModel", "bounces", "I", false)
  | 66 => ("ClosuresThatBounceModel", "lastOnes", "[I", true)
  | 67 => ("ClosuresThatBounceModel", "kept", "[I", true)
  | 68 => ("ClosuresThatBounceModel", "row", "[I", true)
  | 69 => ("ClosuresThatBounceModel", "rowMany", "I", false)
  | 70 => ("ClosuresThatBounceModel", "lots", "I", false)
  | 71 => ("ClosuresThatBounceModel", "image", "[I", true)
  | 72 => ("ClosuresThatBounceModel", "hasImage", "Z", false)
  | 73 => ("ClosuresThatBounceModel", "isKeeping", "Z", false)
  | _ => ("ClosuresThatBounceModel", "cursor", "I", false)
def tyX10 : Nat → FieldType := fun k => match k with
  | 0 => .array .int
  | 1 => .array .int
  | 2 => .array .int
  | 3 => .array .int
  | 4 => .array .int
  | 5 => .array .int
  | 6 => .int
  | 7 => .int
  | 8 => .int
  | 9 => .array .int
  | 10 => .array .int
  | 11 => .array .int
  | 12 => .array .int
  | 13 => .array .int
  | 14 => .array .int
  | 15 => .int
  | 16 => .int
  | 17 => .int
  | 18 => .int
  | 19 => .int
  | 20 => .int
  | 21 => .int
  | 22 => .int
  | 23 => .int
  | 24 => .array .int
  | 25 => .array .int
  | 26 => .array .int
  | 27 => .array .int
  | 28 => .array .int
  | 29 => .int
  | 30 => .int
  | 31 => .int
  | 32 => .int
  | 33 => .int
  | 34 => .int
  | 35 => .int
  | 36 => .array .int
  | 37 => .array .int
  | 38 => .array .int
  | 39 => .array .int
  | 40 => .array .int
  | 41 => .array .int
  | 42 => .array .int
  | 43 => .array .int
  | 44 => .array .int
  | 45 => .array .int
  | 46 => .int
  | 47 => .int
  | 48 => .int
  | 49 => .int
  | 50 => .array .int
  | 51 => .array .int
  | 52 => .array .int
  | 53 => .array .int
  | 54 => .array .int
  | 55 => .int
  | 56 => .int
  | 57 => .int
  | 58 => .int
  | 59 => .int
  | 60 => .int
  | 61 => .int
  | 62 => .int
  | 63 => .int
  | 64 => .int
  | 65 => .int
  | 66 => .array .int
  | 67 => .array .int
  | 68 => .array .int
  | 69 => .int
  | 70 => .int
  | 71 => .array .int
  | 72 => .boolean
  | 73 => .boolean
  | _ => .int
abbrev wsX100 : List Cond := u_ws RX10 TX10 75
theorem nmX10 : ∀ a, a < 75 → ∀ b, b < 75 → a ≠ b → (TX10 a).2.1 ≠ (TX10 b).2.1 := by decide +kernel
theorem tyX10_ok : ∀ k, k < 75 → parseFieldDescriptor (TX10 k).2.2.1 = some (tyX10 k) := by decide +kernel
abbrev cX10_init : ByteArray := prog_12_method_1_code
def yX10_init : MethodName := ⟨RX10, "<init>", "()V"⟩
abbrev cX10_no : ByteArray := prog_12_method_2_code
def yX10_no : MethodName := ⟨RX10, "no", "(I)I"⟩
abbrev cX10_lower : ByteArray := prog_12_method_3_code
def yX10_lower : MethodName := ⟨RX10, "lower", "(I)I"⟩
abbrev cX10_lowestOf : ByteArray := prog_12_method_4_code
def yX10_lowestOf : MethodName := ⟨RX10, "lowestOf", "(I)J"⟩
abbrev cX10_isIn : ByteArray := prog_12_method_5_code
def yX10_isIn : MethodName := ⟨RX10, "isIn", "(III)Z"⟩
abbrev cX10_bound : ByteArray := prog_12_method_6_code
def yX10_bound : MethodName := ⟨RX10, "bound", "(III)I"⟩
abbrev cX10_isVariable : ByteArray := prog_12_method_7_code
def yX10_isVariable : MethodName := ⟨RX10, "isVariable", "(I)Z"⟩
abbrev cX10_bits : ByteArray := prog_12_method_8_code
def yX10_bits : MethodName := ⟨RX10, "bits", "(I)I"⟩
abbrev cX10_letter : ByteArray := prog_12_method_9_code
def yX10_letter : MethodName := ⟨RX10, "letter", "(I)I"⟩
abbrev cX10_awaits : ByteArray := prog_12_method_10_code
def yX10_awaits : MethodName := ⟨RX10, "awaits", "(I)V"⟩
abbrev cX10_isSite : ByteArray := prog_12_method_11_code
def yX10_isSite : MethodName := ⟨RX10, "isSite", "(I)Z"⟩
abbrev cX10_manyOf : ByteArray := prog_12_method_12_code
def yX10_manyOf : MethodName := ⟨RX10, "manyOf", "(I)I"⟩
abbrev cX10_awaitsParts : ByteArray := prog_12_method_13_code
def yX10_awaitsParts : MethodName := ⟨RX10, "awaitsParts", "(I)Z"⟩
abbrev cX10_readsOne : ByteArray := prog_12_method_14_code
def yX10_readsOne : MethodName := ⟨RX10, "readsOne", "(II)Z"⟩
abbrev cX10_reads : ByteArray := prog_12_method_15_code
def yX10_reads : MethodName := ⟨RX10, "reads", "()Z"⟩
abbrev cX10_pops : ByteArray := prog_12_method_16_code
def yX10_pops : MethodName := ⟨RX10, "pops", "()I"⟩
abbrev cX10_buildsOne : ByteArray := prog_12_method_17_code
def yX10_buildsOne : MethodName := ⟨RX10, "buildsOne", "(II)V"⟩
abbrev cX10_builds : ByteArray := prog_12_method_18_code
def yX10_builds : MethodName := ⟨RX10, "builds", "()V"⟩
abbrev cX10_program : ByteArray := prog_12_method_19_code
def yX10_program : MethodName := ⟨RX10, "program", "()I"⟩
abbrev cX10_valueOf : ByteArray := prog_12_method_20_code
def yX10_valueOf : MethodName := ⟨RX10, "valueOf", "(IIII)I"⟩
abbrev cX10_frameWith : ByteArray := prog_12_method_21_code
def yX10_frameWith : MethodName := ⟨RX10, "frameWith", "(III)I"⟩
abbrev cX10_cellOf : ByteArray := prog_12_method_22_code
def yX10_cellOf : MethodName := ⟨RX10, "cellOf", "(II)I"⟩
abbrev cX10_faultOf : ByteArray := prog_12_method_23_code
def yX10_faultOf : MethodName := ⟨RX10, "faultOf", "(II)I"⟩
abbrev cX10_makes : ByteArray := prog_12_method_24_code
def yX10_makes : MethodName := ⟨RX10, "makes", "(III)V"⟩
abbrev cX10_has : ByteArray := prog_12_method_25_code
def yX10_has : MethodName := ⟨RX10, "has", "(I)V"⟩
abbrev cX10_fails : ByteArray := prog_12_method_26_code
def yX10_fails : MethodName := ⟨RX10, "fails", "(I)V"⟩
abbrev cX10_waitsFor : ByteArray := prog_12_method_27_code
def yX10_waitsFor : MethodName := ⟨RX10, "waitsFor", "(I)V"⟩
abbrev cX10_looksUp : ByteArray := prog_12_method_28_code
def yX10_looksUp : MethodName := ⟨RX10, "looksUp", "(I)V"⟩
abbrev cX10_begins : ByteArray := prog_12_method_29_code
def yX10_begins : MethodName := ⟨RX10, "begins", "()V"⟩
abbrev cX10_reckons : ByteArray := prog_12_method_30_code
def yX10_reckons : MethodName := ⟨RX10, "reckons", "(III)V"⟩
abbrev cX10_chooses : ByteArray := prog_12_method_31_code
def yX10_chooses : MethodName := ⟨RX10, "chooses", "(II)V"⟩
abbrev cX10_puts : ByteArray := prog_12_method_32_code
def yX10_puts : MethodName := ⟨RX10, "puts", "(II)V"⟩
abbrev cX10_calls : ByteArray := prog_12_method_33_code
def yX10_calls : MethodName := ⟨RX10, "calls", "(III)V"⟩
abbrev cX10_hasField : ByteArray := prog_12_method_34_code
def yX10_hasField : MethodName := ⟨RX10, "hasField", "(II)Z"⟩
abbrev cX10_passesCache : ByteArray := prog_12_method_35_code
def yX10_passesCache : MethodName := ⟨RX10, "passesCache", "(II)V"⟩
abbrev cX10_findsField : ByteArray := prog_12_method_36_code
def yX10_findsField : MethodName := ⟨RX10, "findsField", "(I)V"⟩
abbrev cX10_throwsNow : ByteArray := prog_12_method_37_code
def yX10_throwsNow : MethodName := ⟨RX10, "throwsNow", "()V"⟩
abbrev cX10_keepsFirst : ByteArray := prog_12_method_38_code
def yX10_keepsFirst : MethodName := ⟨RX10, "keepsFirst", "(II)V"⟩
abbrev cX10_isFirstOfTwo : ByteArray := prog_12_method_39_code
def yX10_isFirstOfTwo : MethodName := ⟨RX10, "isFirstOfTwo", "(II)Z"⟩
abbrev cX10_goesOnOf : ByteArray := prog_12_method_40_code
def yX10_goesOnOf : MethodName := ⟨RX10, "goesOnOf", "(II)V"⟩
abbrev cX10_goesOn : ByteArray := prog_12_method_41_code
def yX10_goesOn : MethodName := ⟨RX10, "goesOn", "()V"⟩
abbrev cX10_falls : ByteArray := prog_12_method_42_code
def yX10_falls : MethodName := ⟨RX10, "falls", "()V"⟩
abbrev cX10_goes : ByteArray := prog_12_method_43_code
def yX10_goes : MethodName := ⟨RX10, "goes", "()V"⟩
abbrev cX10_howNow : ByteArray := prog_12_method_44_code
def yX10_howNow : MethodName := ⟨RX10, "howNow", "()I"⟩
abbrev cX10_numberNow : ByteArray := prog_12_method_45_code
def yX10_numberNow : MethodName := ⟨RX10, "numberNow", "()I"⟩
abbrev cX10_causesNow : ByteArray := prog_12_method_46_code
def yX10_causesNow : MethodName := ⟨RX10, "causesNow", "()I"⟩
abbrev cX10_endedNow : ByteArray := prog_12_method_47_code
def yX10_endedNow : MethodName := ⟨RX10, "endedNow", "(I)I"⟩
abbrev cX10_tellsLast : ByteArray := prog_12_method_48_code
def yX10_tellsLast : MethodName := ⟨RX10, "tellsLast", "()V"⟩
abbrev cX10_run : ByteArray := prog_12_method_49_code
def yX10_run : MethodName := ⟨RX10, "run", "()I"⟩
abbrev cX10_ended : ByteArray := prog_12_method_50_code
def yX10_ended : MethodName := ⟨RX10, "ended", "(I)I"⟩
abbrev cX10_code : ByteArray := prog_12_method_51_code
def yX10_code : MethodName := ⟨RX10, "code", "(I)I"⟩
abbrev cX10_global : ByteArray := prog_12_method_52_code
def yX10_global : MethodName := ⟨RX10, "global", "(I)I"⟩
abbrev cX10_sets : ByteArray := prog_12_method_53_code
def yX10_sets : MethodName := ⟨RX10, "sets", "(II)I"⟩
abbrev cX10_stateOf : ByteArray := prog_12_method_54_code
def yX10_stateOf : MethodName := ⟨RX10, "stateOf", "(I)I"⟩
abbrev cX10_cache : ByteArray := prog_12_method_55_code
def yX10_cache : MethodName := ⟨RX10, "cache", "(II)I"⟩
abbrev cX10_minds : ByteArray := prog_12_method_56_code
def yX10_minds : MethodName := ⟨RX10, "minds", "()V"⟩
abbrev cX10_forgets : ByteArray := prog_12_method_57_code
def yX10_forgets : MethodName := ⟨RX10, "forgets", "()V"⟩
abbrev cX10_goesWith : ByteArray := prog_12_method_58_code
def yX10_goesWith : MethodName := ⟨RX10, "goesWith", "(II)V"⟩
abbrev cX10_thinks : ByteArray := prog_12_method_59_code
def yX10_thinks : MethodName := ⟨RX10, "thinks", "(I)I"⟩
abbrev cX10_with : ByteArray := prog_12_method_60_code
def yX10_with : MethodName := ⟨RX10, "with", "(III)I"⟩
abbrev cX10_solve : ByteArray := prog_12_method_61_code
def yX10_solve : MethodName := ⟨RX10, "solve", "(II)I"⟩
abbrev cX10_fewest : ByteArray := prog_12_method_62_code
def yX10_fewest : MethodName := ⟨RX10, "fewest", "(II)I"⟩
abbrev cX10_pure : ByteArray := prog_12_method_63_code
def yX10_pure : MethodName := ⟨RX10, "pure", "()I"⟩
abbrev cX10_changes : ByteArray := prog_12_method_64_code
def yX10_changes : MethodName := ⟨RX10, "changes", "()I"⟩
abbrev cX10_again : ByteArray := prog_12_method_65_code
def yX10_again : MethodName := ⟨RX10, "again", "(II)I"⟩
abbrev cX10_divisor : ByteArray := prog_12_method_66_code
def yX10_divisor : MethodName := ⟨RX10, "divisor", "(JJ)J"⟩
abbrev cX10_partOf : ByteArray := prog_12_method_67_code
def yX10_partOf : MethodName := ⟨RX10, "partOf", "(JJI)J"⟩
abbrev cX10_likely : ByteArray := prog_12_method_68_code
def yX10_likely : MethodName := ⟨RX10, "likely", "(II)J"⟩
abbrev cX10_mean : ByteArray := prog_12_method_69_code
def yX10_mean : MethodName := ⟨RX10, "mean", "(II)J"⟩
abbrev cX10_endsSo : ByteArray := prog_12_method_70_code
def yX10_endsSo : MethodName := ⟨RX10, "endsSo", "(II)Z"⟩
abbrev cX10_whatIs : ByteArray := prog_12_method_71_code
def yX10_whatIs : MethodName := ⟨RX10, "whatIs", "(I)I"⟩
abbrev cX10_row : ByteArray := prog_12_method_72_code
def yX10_row : MethodName := ⟨RX10, "row", "(I)I"⟩
abbrev cX10_judge : ByteArray := prog_12_method_73_code
def yX10_judge : MethodName := ⟨RX10, "judge", "()I"⟩
abbrev cX10_clear : ByteArray := prog_12_method_74_code
def yX10_clear : MethodName := ⟨RX10, "clear", "()I"⟩
abbrev cX10_draw : ByteArray := prog_12_method_75_code
def yX10_draw : MethodName := ⟨RX10, "draw", "(I)I"⟩
abbrev cX10_lots : ByteArray := prog_12_method_76_code
def yX10_lots : MethodName := ⟨RX10, "lots", "(III)I"⟩
abbrev cX10_passes : ByteArray := prog_12_method_77_code
def yX10_passes : MethodName := ⟨RX10, "passes", "([I)V"⟩
abbrev cX10_passOne : ByteArray := prog_12_method_78_code
def yX10_passOne : MethodName := ⟨RX10, "passOne", "(I)I"⟩
abbrev cX10_passesAll : ByteArray := prog_12_method_79_code
def yX10_passesAll : MethodName := ⟨RX10, "passesAll", "(Z)V"⟩
abbrev cX10_image : ByteArray := prog_12_method_80_code
def yX10_image : MethodName := ⟨RX10, "image", "()I"⟩
abbrev cX10_on : ByteArray := prog_12_method_81_code
def yX10_on : MethodName := ⟨RX10, "on", "()I"⟩
abbrev cX10_allOf : ByteArray := prog_12_method_82_code
def yX10_allOf : MethodName := ⟨RX10, "allOf", "([I)I"⟩
abbrev cX10_count : ByteArray := prog_12_method_83_code
def yX10_count : MethodName := ⟨RX10, "count", "(I)I"⟩
def RJ6 : String := "java/lang/Integer"
def TJ6 : u_T := fun k => match k with
  | _ => ("", "", "", false)
def tyJ6 : Nat → FieldType := fun k => match k with
  | _ => .int
abbrev wsJ60 : List Cond := u_ws RJ6 TJ6 0
theorem nmJ6 : ∀ a, a < 0 → ∀ b, b < 0 → a ≠ b → (TJ6 a).2.1 ≠ (TJ6 b).2.1 := by decide +kernel
theorem tyJ6_ok : ∀ k, k < 0 → parseFieldDescriptor (TJ6 k).2.2.1 = some (tyJ6 k) := by decide +kernel
abbrev cJ6_bitCount_0f7a4 : ByteArray := prog_13_method_49_code
def yJ6_bitCount_0f7a4 : MethodName := ⟨RJ6, "bitCount", "(I)I"⟩
def RJ9 : String := "java/lang/Math"
def TJ9 : u_T := fun k => match k with
  | _ => ("", "", "", false)
def tyJ9 : Nat → FieldType := fun k => match k with
  | _ => .int
abbrev wsJ90 : List Cond := u_ws RJ9 TJ9 0
theorem nmJ9 : ∀ a, a < 0 → ∀ b, b < 0 → a ≠ b → (TJ9 a).2.1 ≠ (TJ9 b).2.1 := by decide +kernel
theorem tyJ9_ok : ∀ k, k < 0 → parseFieldDescriptor (TJ9 k).2.2.1 = some (tyJ9 k) := by decide +kernel
abbrev cJ9_max_7cf53 : ByteArray := prog_14_method_65_code
def yJ9_max_7cf53 : MethodName := ⟨RJ9, "max", "(II)I"⟩
abbrev cJ9_min_7cf53 : ByteArray := prog_14_method_69_code
def yJ9_min_7cf53 : MethodName := ⟨RJ9, "min", "(II)I"⟩
def RJ0 : String := "java/lang/String"
def TJ0 : u_T := fun k => match k with
  | _ => ("", "", "", false)
def tyJ0 : Nat → FieldType := fun k => match k with
  | _ => .int
abbrev wsJ00 : List Cond := u_ws RJ0 TJ0 0
theorem nmJ0 : ∀ a, a < 0 → ∀ b, b < 0 → a ≠ b → (TJ0 a).2.1 ≠ (TJ0 b).2.1 := by decide +kernel
theorem tyJ0_ok : ∀ k, k < 0 → parseFieldDescriptor (TJ0 k).2.2.1 = some (tyJ0 k) := by decide +kernel
abbrev cJ0_length_8abf5 : ByteArray := prog_15_method_54_code
def yJ0_length_8abf5 : MethodName := ⟨RJ0, "length", "()I"⟩
abbrev cJ0_isEmpty_aae02 : ByteArray := prog_15_method_55_code
def yJ0_isEmpty_aae02 : MethodName := ⟨RJ0, "isEmpty", "()Z"⟩
abbrev cJ0_charAt_5068e : ByteArray := prog_15_method_56_code
def yJ0_charAt_5068e : MethodName := ⟨RJ0, "charAt", "(I)C"⟩
abbrev cJ0_coder_7d493 : ByteArray := prog_15_method_152_code
def yJ0_coder_7d493 : MethodName := ⟨RJ0, "coder", "()B"⟩
abbrev cJ0_isLatin1_aae02 : ByteArray := prog_15_method_154_code
def yJ0_isLatin1_aae02 : MethodName := ⟨RJ0, "isLatin1", "()Z"⟩
abbrev cJ0_checkIndex_df160 : ByteArray := prog_15_method_155_code
def yJ0_checkIndex_df160 : MethodName := ⟨RJ0, "checkIndex", "(II)V"⟩
def RJ1 : String := "java/lang/StringLatin1"
def TJ1 : u_T := fun k => match k with
  | _ => ("", "", "", false)
def tyJ1 : Nat → FieldType := fun k => match k with
  | _ => .int
abbrev wsJ10 : List Cond := u_ws RJ1 TJ1 0
theorem nmJ1 : ∀ a, a < 0 → ∀ b, b < 0 → a ≠ b → (TJ1 a).2.1 ≠ (TJ1 b).2.1 := by decide +kernel
theorem tyJ1_ok : ∀ k, k < 0 → parseFieldDescriptor (TJ1 k).2.2.1 = some (tyJ1 k) := by decide +kernel
abbrev cJ1_charAt_3b067 : ByteArray := prog_16_method_2_code
def yJ1_charAt_3b067 : MethodName := ⟨RJ1, "charAt", "([BI)C"⟩
def RJ2 : String := "java/lang/StringUTF16"
def TJ2 : u_T := fun k => match k with
  | _ => ("", "", "", false)
def tyJ2 : Nat → FieldType := fun k => match k with
  | _ => .int
abbrev wsJ20 : List Cond := u_ws RJ2 TJ2 0
theorem nmJ2 : ∀ a, a < 0 → ∀ b, b < 0 → a ≠ b → (TJ2 a).2.1 ≠ (TJ2 b).2.1 := by decide +kernel
theorem tyJ2_ok : ∀ k, k < 0 → parseFieldDescriptor (TJ2 k).2.2.1 = some (tyJ2 k) := by decide +kernel
abbrev cJ2_getChar_3b067 : ByteArray := prog_17_method_5_code
def yJ2_getChar_3b067 : MethodName := ⟨RJ2, "getChar", "([BI)C"⟩
abbrev cJ2_length_9d52b : ByteArray := prog_17_method_6_code
def yJ2_length_9d52b : MethodName := ⟨RJ2, "length", "([B)I"⟩
abbrev cJ2_charAt_3b067 : ByteArray := prog_17_method_83_code
def yJ2_charAt_3b067 : MethodName := ⟨RJ2, "charAt", "([BI)C"⟩
abbrev cJ2_checkIndex_2214a : ByteArray := prog_17_method_91_code
def yJ2_checkIndex_2214a : MethodName := ⟨RJ2, "checkIndex", "(I[B)V"⟩
def RJ10 : String := "java/lang/System"
def TJ10 : u_T := fun k => match k with
  | _ => ("", "", "", false)
def tyJ10 : Nat → FieldType := fun k => match k with
  | _ => .int
abbrev wsJ100 : List Cond := u_ws RJ10 TJ10 0
theorem nmJ10 : ∀ a, a < 0 → ∀ b, b < 0 → a ≠ b → (TJ10 a).2.1 ≠ (TJ10 b).2.1 := by decide +kernel
theorem tyJ10_ok : ∀ k, k < 0 → parseFieldDescriptor (TJ10 k).2.2.1 = some (tyJ10 k) := by decide +kernel
def RJ3 : String := "jdk/internal/util/Preconditions"
def TJ3 : u_T := fun k => match k with
  | _ => ("", "", "", false)
def tyJ3 : Nat → FieldType := fun k => match k with
  | _ => .int
abbrev wsJ30 : List Cond := u_ws RJ3 TJ3 0
theorem nmJ3 : ∀ a, a < 0 → ∀ b, b < 0 → a ≠ b → (TJ3 a).2.1 ≠ (TJ3 b).2.1 := by decide +kernel
theorem tyJ3_ok : ∀ k, k < 0 → parseFieldDescriptor (TJ3 k).2.2.1 = some (tyJ3 k) := by decide +kernel
abbrev cJ3_checkIndex_8e157 : ByteArray := prog_19_method_11_code
def yJ3_checkIndex_8e157 : MethodName := ⟨RJ3, "checkIndex", "(IILjava/util/function/BiFunction;)I"⟩
def RL : String := "ClosuresThatBounceLaw"
abbrev cL_law : ByteArray := code
def yL_law : MethodName := ⟨RL, "law", "([I)Z"⟩
abbrev vwC : List vw_C := [(RX0, TX0, 3), (RX1, TX1, 4), (RX2, TX2, 7), (RX3, TX3, 8), (RX4, TX4, 13), (RX5, TX5, 8), (RX6, TX6, 6), (RX7, TX7, 4), (RX8, TX8, 5), (RX9, TX9, 9), (RX10, TX10, 75)]
/-- the words that every contract carries -/
def lw_good : List Cond := lw_tbl.filter goodWord
/-- the links between nest mates -/
def lw_nest : List Cond := [Cond.methodLinkNest RX9 9 yX6_init "ClosuresThatBounce", Cond.methodLinkNest RX6 24 yX0_init "ClosuresThatBounce", Cond.methodLinkNest RX6 31 yX2_init "ClosuresThatBounce", Cond.methodLinkNest RX9 21 yX4_init "ClosuresThatBounce", Cond.methodLinkNest RX4 17 yX0_init "ClosuresThatBounce", Cond.methodLinkNest RX4 24 yX2_init "ClosuresThatBounce", Cond.methodLinkNest RX4 31 yX1_init "ClosuresThatBounce", Cond.methodLinkNest RX4 38 yX7_init "ClosuresThatBounce", Cond.methodLinkNest RX4 45 yX8_init "ClosuresThatBounce", Cond.methodLinkNest RX9 28 yX3_init "ClosuresThatBounce", Cond.methodLinkNest RX3 37 yX9_put "ClosuresThatBounce", Cond.methodLinkNest RX3 58 yX9_at "ClosuresThatBounce", Cond.methodLinkNest RX5 41 yX9_put "ClosuresThatBounce", Cond.methodLinkNest RX5 37 yX9_at "ClosuresThatBounce", Cond.methodLinkNest RX0 31 yX9_put "ClosuresThatBounce", Cond.methodLinkNest RX4 81 yX9_copyRow "ClosuresThatBounce", Cond.methodLinkNest RX0 48 yX9_copyRow "ClosuresThatBounce", Cond.methodLinkNest RX1 29 yX9_at "ClosuresThatBounce", Cond.methodLinkNest RX4 262 yX9_at "ClosuresThatBounce", Cond.methodLinkNest RX7 25 yX9_put "ClosuresThatBounce", Cond.methodLinkNest RX8 28 yX9_put "ClosuresThatBounce", Cond.methodLinkNest RX8 32 yX9_at "ClosuresThatBounce", Cond.methodLinkNest RX7 33 yX9_at "ClosuresThatBounce", Cond.methodLinkNest RX1 25 yX9_put "ClosuresThatBounce", Cond.methodLinkNest RX4 272 yX9_put "ClosuresThatBounce", Cond.methodLinkNest RX0 21 yX9_at "ClosuresThatBounce", Cond.methodLinkNest RX6 50 yX9_copyRow "ClosuresThatBounce", Cond.methodLinkNest RX5 62 yX9_copyRow "ClosuresThatBounce"]
theorem lw_tin {w : Cond} (h : w ∈ tables_1) (g : goodWord w = true) : w ∈ lw_good := List.mem_filter.mpr ⟨List.mem_append_right _ h, g⟩
theorem lw_t1 {w : Cond} {i : Nat} (e : tables_1_1[i]? = some w) (g : goodWord w = true) : w ∈ lw_good := lw_tin (have h := List.mem_of_getElem? e; by unfold tables_1; exact List.mem_append_left _ h) g
theorem lw_t2 {w : Cond} {i : Nat} (e : tables_1_2[i]? = some w) (g : goodWord w = true) : w ∈ lw_good := lw_tin (have h := List.mem_of_getElem? e; by unfold tables_1; exact List.mem_append_right _ (List.mem_append_left _ h)) g
theorem lw_t3 {w : Cond} {i : Nat} (e : tables_1_3[i]? = some w) (g : goodWord w = true) : w ∈ lw_good := lw_tin (have h := List.mem_of_getElem? e; by unfold tables_1; exact List.mem_append_right _ (List.mem_append_right _ (List.mem_append_left _ h))) g
theorem lw_t4 {w : Cond} {i : Nat} (e : tables_1_4[i]? = some w) (g : goodWord w = true) : w ∈ lw_good := lw_tin (have h := List.mem_of_getElem? e; by unfold tables_1; exact List.mem_append_right _ (List.mem_append_right _ (List.mem_append_right _ (List.mem_append_left _ h)))) g
theorem lw_t5 {w : Cond} {i : Nat} (e : tables_1_5[i]? = some w) (g : goodWord w = true) : w ∈ lw_good := lw_tin (have h := List.mem_of_getElem? e; by unfold tables_1; exact List.mem_append_right _ (List.mem_append_right _ (List.mem_append_right _ (List.mem_append_right _ (List.mem_append_left _ h))))) g
theorem lw_t6 {w : Cond} {i : Nat} (e : tables_1_6[i]? = some w) (g : goodWord w = true) : w ∈ lw_good := lw_tin (have h := List.mem_of_getElem? e; by unfold tables_1; exact List.mem_append_right _ (List.mem_append_right _ (List.mem_append_right _ (List.mem_append_right _ (List.mem_append_right _ (List.mem_append_left _ h)))))) g
theorem lw_t7 {w : Cond} {i : Nat} (e : tables_1_7[i]? = some w) (g : goodWord w = true) : w ∈ lw_good := lw_tin (have h := List.mem_of_getElem? e; by unfold tables_1; exact List.mem_append_right _ (List.mem_append_right _ (List.mem_append_right _ (List.mem_append_right _ (List.mem_append_right _ (List.mem_append_right _ (h))))))) g
theorem tw0 : Cond.initialized RL ∈ lw_good := lw_t1 (i := 0) (by decide +kernel) (by decide +kernel)
theorem tw1 : Cond.initialized RX9 ∈ lw_good := lw_t1 (i := 1) (by decide +kernel) (by decide +kernel)
theorem tw2 : Cond.initialized RX6 ∈ lw_good := lw_t1 (i := 2) (by decide +kernel) (by decide +kernel)
theorem tw3 : Cond.initialized RX5 ∈ lw_good := lw_t1 (i := 3) (by decide +kernel) (by decide +kernel)
theorem tw4 : Cond.initialized RX0 ∈ lw_good := lw_t1 (i := 4) (by decide +kernel) (by decide +kernel)
theorem tw5 : Cond.initialized RX2 ∈ lw_good := lw_t1 (i := 5) (by decide +kernel) (by decide +kernel)
theorem tw6 : Cond.initialized RX4 ∈ lw_good := lw_t1 (i := 6) (by decide +kernel) (by decide +kernel)
theorem tw7 : Cond.initialized RX1 ∈ lw_good := lw_t1 (i := 7) (by decide +kernel) (by decide +kernel)
theorem tw8 : Cond.initialized RX7 ∈ lw_good := lw_t1 (i := 8) (by decide +kernel) (by decide +kernel)
theorem tw9 : Cond.initialized RX8 ∈ lw_good := lw_t1 (i := 9) (by decide +kernel) (by decide +kernel)
theorem tw10 : Cond.initialized RX3 ∈ lw_good := lw_t1 (i := 10) (by decide +kernel) (by decide +kernel)
theorem tw11 : Cond.initialized RX10 ∈ lw_good := lw_t1 (i := 11) (by decide +kernel) (by decide +kernel)
theorem tw12 : Cond.initialized RJ0 ∈ lw_good := lw_t1 (i := 12) (by decide +kernel) (by decide +kernel)
theorem tw13 : Cond.initialized RJ1 ∈ lw_good := lw_t1 (i := 13) (by decide +kernel) (by decide +kernel)
theorem tw14 : Cond.initialized RJ3 ∈ lw_good := lw_t1 (i := 14) (by decide +kernel) (by decide +kernel)
theorem tw15 : Cond.initialized RJ2 ∈ lw_good := lw_t1 (i := 15) (by decide +kernel) (by decide +kernel)
theorem tw16 : Cond.initialized RJ9 ∈ lw_good := lw_t1 (i := 16) (by decide +kernel) (by decide +kernel)
theorem tw17 : Cond.initialized RJ10 ∈ lw_good := lw_t1 (i := 17) (by decide +kernel) (by decide +kernel)
theorem tw18 : Cond.initialized RJ6 ∈ lw_good := lw_t1 (i := 18) (by decide +kernel) (by decide +kernel)
theorem tw19 : Cond.classLink RL 7 "ClosuresThatBounce" ∈ lw_good := lw_t1 (i := 19) (by decide +kernel) (by decide +kernel)
theorem tw20 : Cond.instantiable RX9 9 ∈ lw_good := lw_t1 (i := 20) (by decide +kernel) (by decide +kernel)
theorem tw21 : Cond.methodLink RL 9 yX9_init ∈ lw_good := lw_t1 (i := 21) (by decide +kernel) (by decide +kernel)
theorem tw22 : Cond.instanceMethod yX9_init ∈ lw_good := lw_t1 (i := 22) (by decide +kernel) (by decide +kernel)
theorem tw23 : Cond.code yX9_init prog_1_method_1_code 1 none ∈ lw_good := lw_t1 (i := 23) (by decide +kernel) (by decide +kernel)
theorem tw24 : Cond.methodLink RX9 1 objectInit ∈ lw_good := lw_t1 (i := 24) (by decide +kernel) (by decide +kernel)
theorem tw25 : Cond.instanceMethod objectInit ∈ lw_good := lw_t1 (i := 25) (by decide +kernel) (by decide +kernel)
theorem tw26 : Cond.code objectInit object_method_1_code 1 none ∈ lw_good := lw_t1 (i := 26) (by decide +kernel) (by decide +kernel)
theorem tw27 : Cond.classLink RX9 7 "ClosuresThatBounce$Situation" ∈ lw_good := lw_t1 (i := 27) (by decide +kernel) (by decide +kernel)
theorem tw28 : Cond.instantiable RX6 6 ∈ lw_good := lw_t1 (i := 28) (by decide +kernel) (by decide +kernel)
theorem tw30 : Cond.instanceMethod yX6_init ∈ lw_good := lw_t1 (i := 30) (by decide +kernel) (by decide +kernel)
theorem tw31 : Cond.code yX6_init prog_8_method_1_code 1 none ∈ lw_good := lw_t1 (i := 31) (by decide +kernel) (by decide +kernel)
theorem tw32 : Cond.methodLink RX6 3 objectInit ∈ lw_good := lw_t1 (i := 32) (by decide +kernel) (by decide +kernel)
theorem tw33 : Cond.classLink RX6 9 "ClosuresThatBounce$Program" ∈ lw_good := lw_t1 (i := 33) (by decide +kernel) (by decide +kernel)
theorem tw34 : Cond.instantiable RX5 8 ∈ lw_good := lw_t1 (i := 34) (by decide +kernel) (by decide +kernel)
theorem tw35 : Cond.methodLink RX6 11 yX5_init ∈ lw_good := lw_t1 (i := 35) (by decide +kernel) (by decide +kernel)
theorem tw36 : Cond.instanceMethod yX5_init ∈ lw_good := lw_t1 (i := 36) (by decide +kernel) (by decide +kernel)
theorem tw37 : Cond.code yX5_init prog_7_method_1_code 1 none ∈ lw_good := lw_t1 (i := 37) (by decide +kernel) (by decide +kernel)
theorem tw38 : Cond.methodLink RX5 3 objectInit ∈ lw_good := lw_t1 (i := 38) (by decide +kernel) (by decide +kernel)
theorem tw39 : Cond.fieldLink RX5 9 "ClosuresThatBounce$Program" "signs" "[I" ∈ lw_good := lw_t1 (i := 39) (by decide +kernel) (by decide +kernel)
theorem tw40 : Cond.fieldLink RX5 15 "ClosuresThatBounce$Program" "variables" "[I" ∈ lw_good := lw_t1 (i := 40) (by decide +kernel) (by decide +kernel)
theorem tw41 : Cond.fieldLink RX5 18 "ClosuresThatBounce$Program" "seconds" "[I" ∈ lw_good := lw_t1 (i := 41) (by decide +kernel) (by decide +kernel)
theorem tw42 : Cond.fieldLink RX5 21 "ClosuresThatBounce$Program" "thirds" "[I" ∈ lw_good := lw_t1 (i := 42) (by decide +kernel) (by decide +kernel)
theorem tw43 : Cond.fieldLink RX5 24 "ClosuresThatBounce$Program" "sites" "[I" ∈ lw_good := lw_t1 (i := 43) (by decide +kernel) (by decide +kernel)
theorem tw44 : Cond.fieldLink RX5 27 "ClosuresThatBounce$Program" "ends" "[I" ∈ lw_good := lw_t1 (i := 44) (by decide +kernel) (by decide +kernel)
theorem tw45 : Cond.fieldLink RX5 30 "ClosuresThatBounce$Program" "size" "I" ∈ lw_good := lw_t1 (i := 45) (by decide +kernel) (by decide +kernel)
theorem tw46 : Cond.fieldLink RX9 80 "ClosuresThatBounce$Program" "size" "I" ∈ lw_good := lw_t1 (i := 46) (by decide +kernel) (by decide +kernel)
theorem tw47 : Cond.fieldLink RX5 34 "ClosuresThatBounce$Program" "siteCount" "I" ∈ lw_good := lw_t1 (i := 47) (by decide +kernel) (by decide +kernel)
theorem tw48 : Cond.fieldLink RX9 139 "ClosuresThatBounce$Program" "siteCount" "I" ∈ lw_good := lw_t1 (i := 48) (by decide +kernel) (by decide +kernel)
theorem tw49 : Cond.laysFinal "ClosuresThatBounce$Program" "ClosuresThatBounce$Program" "signs" "[I" ∈ lw_good := lw_t1 (i := 49) (by decide +kernel) (by decide +kernel)
theorem tw50 : Cond.soleField "ClosuresThatBounce$Program" "signs" ∈ lw_good := lw_t1 (i := 50) (by decide +kernel) (by decide +kernel)
theorem tw51 : Cond.laysFinal "ClosuresThatBounce$Program" "ClosuresThatBounce$Program" "variables" "[I" ∈ lw_good := lw_t1 (i := 51) (by decide +kernel) (by decide +kernel)
theorem tw52 : Cond.soleField "ClosuresThatBounce$Program" "variables" ∈ lw_good := lw_t1 (i := 52) (by decide +kernel) (by decide +kernel)
theorem tw53 : Cond.laysFinal "ClosuresThatBounce$Program" "ClosuresThatBounce$Program" "seconds" "[I" ∈ lw_good := lw_t1 (i := 53) (by decide +kernel) (by decide +kernel)
theorem tw54 : Cond.soleField "ClosuresThatBounce$Program" "seconds" ∈ lw_good := lw_t1 (i := 54) (by decide +kernel) (by decide +kernel)
theorem tw55 : Cond.laysFinal "ClosuresThatBounce$Program" "ClosuresThatBounce$Program" "thirds" "[I" ∈ lw_good := lw_t1 (i := 55) (by decide +kernel) (by decide +kernel)
theorem tw56 : Cond.soleField "ClosuresThatBounce$Program" "thirds" ∈ lw_good := lw_t1 (i := 56) (by decide +kernel) (by decide +kernel)
theorem tw57 : Cond.laysFinal "ClosuresThatBounce$Program" "ClosuresThatBounce$Program" "sites" "[I" ∈ lw_good := lw_t1 (i := 57) (by decide +kernel) (by decide +kernel)
theorem tw58 : Cond.soleField "ClosuresThatBounce$Program" "sites" ∈ lw_good := lw_t1 (i := 58) (by decide +kernel) (by decide +kernel)
theorem tw59 : Cond.laysFinal "ClosuresThatBounce$Program" "ClosuresThatBounce$Program" "ends" "[I" ∈ lw_good := lw_t1 (i := 59) (by decide +kernel) (by decide +kernel)
theorem tw60 : Cond.soleField "ClosuresThatBounce$Program" "ends" ∈ lw_good := lw_t1 (i := 60) (by decide +kernel) (by decide +kernel)
theorem tw61 : Cond.lays "ClosuresThatBounce$Program" "ClosuresThatBounce$Program" "size" "I" ∈ lw_good := lw_t1 (i := 61) (by decide +kernel) (by decide +kernel)
theorem tw62 : Cond.soleField "ClosuresThatBounce$Program" "size" ∈ lw_good := lw_t1 (i := 62) (by decide +kernel) (by decide +kernel)
theorem tw63 : Cond.lays "ClosuresThatBounce$Program" "ClosuresThatBounce$Program" "siteCount" "I" ∈ lw_good := lw_t1 (i := 63) (by decide +kernel) (by decide +kernel)
theorem tw64 : Cond.soleField "ClosuresThatBounce$Program" "siteCount" ∈ lw_good := lw_t1 (i := 64) (by decide +kernel) (by decide +kernel)
theorem tw67 : Cond.classLink RX6 22 "ClosuresThatBounce$Caches" ∈ lw_good := lw_t1 (i := 67) (by decide +kernel) (by decide +kernel)
theorem tw68 : Cond.instantiable RX0 3 ∈ lw_good := lw_t1 (i := 68) (by decide +kernel) (by decide +kernel)
theorem tw70 : Cond.instanceMethod yX0_init ∈ lw_good := lw_t1 (i := 70) (by decide +kernel) (by decide +kernel)
theorem tw71 : Cond.code yX0_init prog_2_method_1_code 1 none ∈ lw_good := lw_t1 (i := 71) (by decide +kernel) (by decide +kernel)
theorem tw72 : Cond.methodLink RX0 3 objectInit ∈ lw_good := lw_t1 (i := 72) (by decide +kernel) (by decide +kernel)
theorem tw73 : Cond.fieldLink RX0 9 "ClosuresThatBounce$Caches" "shapes" "[I" ∈ lw_good := lw_t1 (i := 73) (by decide +kernel) (by decide +kernel)
theorem tw74 : Cond.fieldLink RX0 15 "ClosuresThatBounce$Caches" "hits" "[I" ∈ lw_good := lw_t1 (i := 74) (by decide +kernel) (by decide +kernel)
theorem tw75 : Cond.fieldLink RX0 18 "ClosuresThatBounce$Caches" "misses" "[I" ∈ lw_good := lw_t1 (i := 75) (by decide +kernel) (by decide +kernel)
theorem tw76 : Cond.laysFinal "ClosuresThatBounce$Caches" "ClosuresThatBounce$Caches" "shapes" "[I" ∈ lw_good := lw_t1 (i := 76) (by decide +kernel) (by decide +kernel)
theorem tw77 : Cond.soleField "ClosuresThatBounce$Caches" "shapes" ∈ lw_good := lw_t1 (i := 77) (by decide +kernel) (by decide +kernel)
theorem tw78 : Cond.laysFinal "ClosuresThatBounce$Caches" "ClosuresThatBounce$Caches" "hits" "[I" ∈ lw_good := lw_t1 (i := 78) (by decide +kernel) (by decide +kernel)
theorem tw79 : Cond.soleField "ClosuresThatBounce$Caches" "hits" ∈ lw_good := lw_t1 (i := 79) (by decide +kernel) (by decide +kernel)
theorem tw80 : Cond.laysFinal "ClosuresThatBounce$Caches" "ClosuresThatBounce$Caches" "misses" "[I" ∈ lw_good := lw_t1 (i := 80) (by decide +kernel) (by decide +kernel)
theorem tw81 : Cond.soleField "ClosuresThatBounce$Caches" "misses" ∈ lw_good := lw_t1 (i := 81) (by decide +kernel) (by decide +kernel)
theorem tw83 : Cond.classLink RX6 29 "ClosuresThatBounce$Ending" ∈ lw_good := lw_t1 (i := 83) (by decide +kernel) (by decide +kernel)
theorem tw84 : Cond.instantiable RX2 7 ∈ lw_good := lw_t1 (i := 84) (by decide +kernel) (by decide +kernel)
theorem tw86 : Cond.instanceMethod yX2_init ∈ lw_good := lw_t1 (i := 86) (by decide +kernel) (by decide +kernel)
theorem tw87 : Cond.code yX2_init prog_4_method_1_code 1 none ∈ lw_good := lw_t1 (i := 87) (by decide +kernel) (by decide +kernel)
theorem tw88 : Cond.methodLink RX2 3 objectInit ∈ lw_good := lw_t1 (i := 88) (by decide +kernel) (by decide +kernel)
theorem tw89 : Cond.fieldLink RX2 9 "ClosuresThatBounce$Ending" "how" "I" ∈ lw_good := lw_t1 (i := 89) (by decide +kernel) (by decide +kernel)
theorem tw90 : Cond.fieldLink RX4 127 "ClosuresThatBounce$Ending" "how" "I" ∈ lw_good := lw_t1 (i := 90) (by decide +kernel) (by decide +kernel)
theorem tw91 : Cond.fieldLink RX9 119 "ClosuresThatBounce$Ending" "how" "I" ∈ lw_good := lw_t1 (i := 91) (by decide +kernel) (by decide +kernel)
theorem tw92 : Cond.fieldLink RX2 15 "ClosuresThatBounce$Ending" "told" "I" ∈ lw_good := lw_t1 (i := 92) (by decide +kernel) (by decide +kernel)
theorem tw93 : Cond.fieldLink RX4 134 "ClosuresThatBounce$Ending" "told" "I" ∈ lw_good := lw_t1 (i := 93) (by decide +kernel) (by decide +kernel)
theorem tw94 : Cond.fieldLink RX9 161 "ClosuresThatBounce$Ending" "told" "I" ∈ lw_good := lw_t1 (i := 94) (by decide +kernel) (by decide +kernel)
theorem tw95 : Cond.fieldLink RX2 18 "ClosuresThatBounce$Ending" "steps" "I" ∈ lw_good := lw_t1 (i := 95) (by decide +kernel) (by decide +kernel)
theorem tw96 : Cond.fieldLink RX4 114 "ClosuresThatBounce$Ending" "steps" "I" ∈ lw_good := lw_t1 (i := 96) (by decide +kernel) (by decide +kernel)
theorem tw97 : Cond.fieldLink RX9 158 "ClosuresThatBounce$Ending" "steps" "I" ∈ lw_good := lw_t1 (i := 97) (by decide +kernel) (by decide +kernel)
theorem tw98 : Cond.fieldLink RX2 21 "ClosuresThatBounce$Ending" "greatestDepth" "I" ∈ lw_good := lw_t1 (i := 98) (by decide +kernel) (by decide +kernel)
theorem tw99 : Cond.fieldLink RX4 117 "ClosuresThatBounce$Ending" "greatestDepth" "I" ∈ lw_good := lw_t1 (i := 99) (by decide +kernel) (by decide +kernel)
theorem tw100 : Cond.fieldLink RX2 24 "ClosuresThatBounce$Ending" "bounces" "I" ∈ lw_good := lw_t1 (i := 100) (by decide +kernel) (by decide +kernel)
theorem tw101 : Cond.fieldLink RX4 120 "ClosuresThatBounce$Ending" "bounces" "I" ∈ lw_good := lw_t1 (i := 101) (by decide +kernel) (by decide +kernel)
theorem tw102 : Cond.fieldLink RX2 27 "ClosuresThatBounce$Ending" "causes" "I" ∈ lw_good := lw_t1 (i := 102) (by decide +kernel) (by decide +kernel)
theorem tw103 : Cond.fieldLink RX4 153 "ClosuresThatBounce$Ending" "causes" "I" ∈ lw_good := lw_t1 (i := 103) (by decide +kernel) (by decide +kernel)
theorem tw104 : Cond.fieldLink RX9 133 "ClosuresThatBounce$Ending" "causes" "I" ∈ lw_good := lw_t1 (i := 104) (by decide +kernel) (by decide +kernel)
theorem tw105 : Cond.fieldLink RX2 30 "ClosuresThatBounce$Ending" "lastCode" "I" ∈ lw_good := lw_t1 (i := 105) (by decide +kernel) (by decide +kernel)
theorem tw106 : Cond.fieldLink RX4 156 "ClosuresThatBounce$Ending" "lastCode" "I" ∈ lw_good := lw_t1 (i := 106) (by decide +kernel) (by decide +kernel)
theorem tw107 : Cond.lays "ClosuresThatBounce$Ending" "ClosuresThatBounce$Ending" "how" "I" ∈ lw_good := lw_t1 (i := 107) (by decide +kernel) (by decide +kernel)
theorem tw108 : Cond.soleField "ClosuresThatBounce$Ending" "how" ∈ lw_good := lw_t1 (i := 108) (by decide +kernel) (by decide +kernel)
theorem tw109 : Cond.lays "ClosuresThatBounce$Ending" "ClosuresThatBounce$Ending" "told" "I" ∈ lw_good := lw_t1 (i := 109) (by decide +kernel) (by decide +kernel)
theorem tw110 : Cond.soleField "ClosuresThatBounce$Ending" "told" ∈ lw_good := lw_t1 (i := 110) (by decide +kernel) (by decide +kernel)
theorem tw111 : Cond.lays "ClosuresThatBounce$Ending" "ClosuresThatBounce$Ending" "steps" "I" ∈ lw_good := lw_t1 (i := 111) (by decide +kernel) (by decide +kernel)
theorem tw112 : Cond.soleField "ClosuresThatBounce$Ending" "steps" ∈ lw_good := lw_t1 (i := 112) (by decide +kernel) (by decide +kernel)
theorem tw113 : Cond.lays "ClosuresThatBounce$Ending" "ClosuresThatBounce$Ending" "greatestDepth" "I" ∈ lw_good := lw_t1 (i := 113) (by decide +kernel) (by decide +kernel)
theorem tw114 : Cond.soleField "ClosuresThatBounce$Ending" "greatestDepth" ∈ lw_good := lw_t1 (i := 114) (by decide +kernel) (by decide +kernel)
theorem tw115 : Cond.lays "ClosuresThatBounce$Ending" "ClosuresThatBounce$Ending" "bounces" "I" ∈ lw_good := lw_t1 (i := 115) (by decide +kernel) (by decide +kernel)
theorem tw116 : Cond.soleField "ClosuresThatBounce$Ending" "bounces" ∈ lw_good := lw_t1 (i := 116) (by decide +kernel) (by decide +kernel)
theorem tw117 : Cond.lays "ClosuresThatBounce$Ending" "ClosuresThatBounce$Ending" "causes" "I" ∈ lw_good := lw_t1 (i := 117) (by decide +kernel) (by decide +kernel)
theorem tw118 : Cond.soleField "ClosuresThatBounce$Ending" "causes" ∈ lw_good := lw_t1 (i := 118) (by decide +kernel) (by decide +kernel)
theorem tw119 : Cond.lays "ClosuresThatBounce$Ending" "ClosuresThatBounce$Ending" "lastCode" "I" ∈ lw_good := lw_t1 (i := 119) (by decide +kernel) (by decide +kernel)
theorem tw120 : Cond.soleField "ClosuresThatBounce$Ending" "lastCode" ∈ lw_good := lw_t1 (i := 120) (by decide +kernel) (by decide +kernel)
theorem tw122 : Cond.fieldLink RX6 12 "ClosuresThatBounce$Situation" "program" "LClosuresThatBounce$Program;" ∈ lw_good := lw_t1 (i := 122) (by decide +kernel) (by decide +kernel)
theorem tw123 : Cond.fieldLink RX4 77 "ClosuresThatBounce$Situation" "program" "LClosuresThatBounce$Program;" ∈ lw_good := lw_t1 (i := 123) (by decide +kernel) (by decide +kernel)
theorem tw124 : Cond.fieldLink RX9 66 "ClosuresThatBounce$Situation" "program" "LClosuresThatBounce$Program;" ∈ lw_good := lw_t1 (i := 124) (by decide +kernel) (by decide +kernel)
theorem tw125 : Cond.fieldLink RX6 18 "ClosuresThatBounce$Situation" "globals" "[I" ∈ lw_good := lw_t1 (i := 125) (by decide +kernel) (by decide +kernel)
theorem tw126 : Cond.fieldLink RX4 80 "ClosuresThatBounce$Situation" "globals" "[I" ∈ lw_good := lw_t1 (i := 126) (by decide +kernel) (by decide +kernel)
theorem tw127 : Cond.fieldLink RX9 92 "ClosuresThatBounce$Situation" "globals" "[I" ∈ lw_good := lw_t1 (i := 127) (by decide +kernel) (by decide +kernel)
theorem tw128 : Cond.fieldLink RX6 25 "ClosuresThatBounce$Situation" "caches" "LClosuresThatBounce$Caches;" ∈ lw_good := lw_t1 (i := 128) (by decide +kernel) (by decide +kernel)
theorem tw129 : Cond.fieldLink RX4 85 "ClosuresThatBounce$Situation" "caches" "LClosuresThatBounce$Caches;" ∈ lw_good := lw_t1 (i := 129) (by decide +kernel) (by decide +kernel)
theorem tw130 : Cond.fieldLink RX9 142 "ClosuresThatBounce$Situation" "caches" "LClosuresThatBounce$Caches;" ∈ lw_good := lw_t1 (i := 130) (by decide +kernel) (by decide +kernel)
theorem tw131 : Cond.fieldLink RX6 32 "ClosuresThatBounce$Situation" "latest" "LClosuresThatBounce$Ending;" ∈ lw_good := lw_t1 (i := 131) (by decide +kernel) (by decide +kernel)
theorem tw132 : Cond.fieldLink RX9 115 "ClosuresThatBounce$Situation" "latest" "LClosuresThatBounce$Ending;" ∈ lw_good := lw_t1 (i := 132) (by decide +kernel) (by decide +kernel)
theorem tw133 : Cond.fieldLink RX6 36 "ClosuresThatBounce$Situation" "hasRun" "Z" ∈ lw_good := lw_t1 (i := 133) (by decide +kernel) (by decide +kernel)
theorem tw134 : Cond.fieldLink RX9 127 "ClosuresThatBounce$Situation" "hasRun" "Z" ∈ lw_good := lw_t1 (i := 134) (by decide +kernel) (by decide +kernel)
theorem tw135 : Cond.fieldLink RX6 40 "ClosuresThatBounce$Situation" "runs" "I" ∈ lw_good := lw_t1 (i := 135) (by decide +kernel) (by decide +kernel)
theorem tw136 : Cond.fieldLink RX9 212 "ClosuresThatBounce$Situation" "runs" "I" ∈ lw_good := lw_t1 (i := 136) (by decide +kernel) (by decide +kernel)
theorem tw137 : Cond.laysFinal "ClosuresThatBounce$Situation" "ClosuresThatBounce$Situation" "program" "LClosuresThatBounce$Program;" ∈ lw_good := lw_t1 (i := 137) (by decide +kernel) (by decide +kernel)
theorem tw138 : Cond.soleField "ClosuresThatBounce$Situation" "program" ∈ lw_good := lw_t1 (i := 138) (by decide +kernel) (by decide +kernel)
theorem tw139 : Cond.laysFinal "ClosuresThatBounce$Situation" "ClosuresThatBounce$Situation" "globals" "[I" ∈ lw_good := lw_t1 (i := 139) (by decide +kernel) (by decide +kernel)
theorem tw140 : Cond.soleField "ClosuresThatBounce$Situation" "globals" ∈ lw_good := lw_t1 (i := 140) (by decide +kernel) (by decide +kernel)
theorem tw141 : Cond.laysFinal "ClosuresThatBounce$Situation" "ClosuresThatBounce$Situation" "caches" "LClosuresThatBounce$Caches;" ∈ lw_good := lw_t1 (i := 141) (by decide +kernel) (by decide +kernel)
theorem tw142 : Cond.soleField "ClosuresThatBounce$Situation" "caches" ∈ lw_good := lw_t1 (i := 142) (by decide +kernel) (by decide +kernel)
theorem tw143 : Cond.laysFinal "ClosuresThatBounce$Situation" "ClosuresThatBounce$Situation" "latest" "LClosuresThatBounce$Ending;" ∈ lw_good := lw_t1 (i := 143) (by decide +kernel) (by decide +kernel)
theorem tw144 : Cond.soleField "ClosuresThatBounce$Situation" "latest" ∈ lw_good := lw_t1 (i := 144) (by decide +kernel) (by decide +kernel)
theorem tw145 : Cond.lays "ClosuresThatBounce$Situation" "ClosuresThatBounce$Situation" "hasRun" "Z" ∈ lw_good := lw_t1 (i := 145) (by decide +kernel) (by decide +kernel)
theorem tw146 : Cond.soleField "ClosuresThatBounce$Situation" "hasRun" ∈ lw_good := lw_t1 (i := 146) (by decide +kernel) (by decide +kernel)
theorem tw147 : Cond.lays "ClosuresThatBounce$Situation" "ClosuresThatBounce$Situation" "runs" "I" ∈ lw_good := lw_t1 (i := 147) (by decide +kernel) (by decide +kernel)
theorem tw148 : Cond.soleField "ClosuresThatBounce$Situation" "runs" ∈ lw_good := lw_t1 (i := 148) (by decide +kernel) (by decide +kernel)
theorem tw150 : Cond.classLink RX9 19 "ClosuresThatBounce$Machine" ∈ lw_good := lw_t1 (i := 150) (by decide +kernel) (by decide +kernel)
theorem tw151 : Cond.instantiable RX4 13 ∈ lw_good := lw_t1 (i := 151) (by decide +kernel) (by decide +kernel)
theorem tw153 : Cond.instanceMethod yX4_init ∈ lw_good := lw_t1 (i := 153) (by decide +kernel) (by decide +kernel)
theorem tw154 : Cond.code yX4_init prog_6_method_1_code 1 none ∈ lw_good := lw_t1 (i := 154) (by decide +kernel) (by decide +kernel)
theorem tw155 : Cond.methodLink RX4 3 objectInit ∈ lw_good := lw_t1 (i := 155) (by decide +kernel) (by decide +kernel)
theorem tw156 : Cond.classLink RX4 15 "ClosuresThatBounce$Caches" ∈ lw_good := lw_t1 (i := 156) (by decide +kernel) (by decide +kernel)
theorem tw158 : Cond.classLink RX4 22 "ClosuresThatBounce$Ending" ∈ lw_good := lw_t1 (i := 158) (by decide +kernel) (by decide +kernel)
theorem tw160 : Cond.classLink RX4 29 "ClosuresThatBounce$Cells" ∈ lw_good := lw_t1 (i := 160) (by decide +kernel) (by decide +kernel)
theorem tw161 : Cond.instantiable RX1 4 ∈ lw_good := lw_t1 (i := 161) (by decide +kernel) (by decide +kernel)
theorem tw163 : Cond.instanceMethod yX1_init ∈ lw_good := lw_t1 (i := 163) (by decide +kernel) (by decide +kernel)
theorem tw164 : Cond.code yX1_init prog_3_method_1_code 1 none ∈ lw_good := lw_t1 (i := 164) (by decide +kernel) (by decide +kernel)
theorem tw165 : Cond.methodLink RX1 3 objectInit ∈ lw_good := lw_t1 (i := 165) (by decide +kernel) (by decide +kernel)
theorem tw166 : Cond.fieldLink RX1 9 "ClosuresThatBounce$Cells" "variables" "[I" ∈ lw_good := lw_t1 (i := 166) (by decide +kernel) (by decide +kernel)
theorem tw167 : Cond.fieldLink RX1 15 "ClosuresThatBounce$Cells" "values" "[I" ∈ lw_good := lw_t1 (i := 167) (by decide +kernel) (by decide +kernel)
theorem tw168 : Cond.fieldLink RX1 18 "ClosuresThatBounce$Cells" "outer" "[I" ∈ lw_good := lw_t1 (i := 168) (by decide +kernel) (by decide +kernel)
theorem tw169 : Cond.fieldLink RX1 21 "ClosuresThatBounce$Cells" "made" "I" ∈ lw_good := lw_t1 (i := 169) (by decide +kernel) (by decide +kernel)
theorem tw170 : Cond.laysFinal "ClosuresThatBounce$Cells" "ClosuresThatBounce$Cells" "variables" "[I" ∈ lw_good := lw_t1 (i := 170) (by decide +kernel) (by decide +kernel)
theorem tw171 : Cond.soleField "ClosuresThatBounce$Cells" "variables" ∈ lw_good := lw_t1 (i := 171) (by decide +kernel) (by decide +kernel)
theorem tw172 : Cond.laysFinal "ClosuresThatBounce$Cells" "ClosuresThatBounce$Cells" "values" "[I" ∈ lw_good := lw_t1 (i := 172) (by decide +kernel) (by decide +kernel)
theorem tw173 : Cond.soleField "ClosuresThatBounce$Cells" "values" ∈ lw_good := lw_t1 (i := 173) (by decide +kernel) (by decide +kernel)
theorem tw174 : Cond.laysFinal "ClosuresThatBounce$Cells" "ClosuresThatBounce$Cells" "outer" "[I" ∈ lw_good := lw_t1 (i := 174) (by decide +kernel) (by decide +kernel)
theorem tw175 : Cond.soleField "ClosuresThatBounce$Cells" "outer" ∈ lw_good := lw_t1 (i := 175) (by decide +kernel) (by decide +kernel)
theorem tw176 : Cond.lays "ClosuresThatBounce$Cells" "ClosuresThatBounce$Cells" "made" "I" ∈ lw_good := lw_t1 (i := 176) (by decide +kernel) (by decide +kernel)
theorem tw177 : Cond.soleField "ClosuresThatBounce$Cells" "made" ∈ lw_good := lw_t1 (i := 177) (by decide +kernel) (by decide +kernel)
theorem tw179 : Cond.classLink RX4 36 "ClosuresThatBounce$Things" ∈ lw_good := lw_t1 (i := 179) (by decide +kernel) (by decide +kernel)
theorem tw180 : Cond.instantiable RX7 4 ∈ lw_good := lw_t1 (i := 180) (by decide +kernel) (by decide +kernel)
theorem tw182 : Cond.instanceMethod yX7_init ∈ lw_good := lw_t1 (i := 182) (by decide +kernel) (by decide +kernel)
theorem tw183 : Cond.code yX7_init prog_9_method_1_code 1 none ∈ lw_good := lw_t1 (i := 183) (by decide +kernel) (by decide +kernel)
theorem tw184 : Cond.methodLink RX7 3 objectInit ∈ lw_good := lw_t1 (i := 184) (by decide +kernel) (by decide +kernel)
theorem tw185 : Cond.fieldLink RX7 9 "ClosuresThatBounce$Things" "kinds" "[I" ∈ lw_good := lw_t1 (i := 185) (by decide +kernel) (by decide +kernel)
theorem tw186 : Cond.fieldLink RX7 15 "ClosuresThatBounce$Things" "ones" "[I" ∈ lw_good := lw_t1 (i := 186) (by decide +kernel) (by decide +kernel)
theorem tw187 : Cond.fieldLink RX7 18 "ClosuresThatBounce$Things" "twos" "[I" ∈ lw_good := lw_t1 (i := 187) (by decide +kernel) (by decide +kernel)
theorem tw188 : Cond.fieldLink RX7 21 "ClosuresThatBounce$Things" "made" "I" ∈ lw_good := lw_t1 (i := 188) (by decide +kernel) (by decide +kernel)
theorem tw189 : Cond.laysFinal "ClosuresThatBounce$Things" "ClosuresThatBounce$Things" "kinds" "[I" ∈ lw_good := lw_t1 (i := 189) (by decide +kernel) (by decide +kernel)
theorem tw190 : Cond.soleField "ClosuresThatBounce$Things" "kinds" ∈ lw_good := lw_t1 (i := 190) (by decide +kernel) (by decide +kernel)
theorem tw191 : Cond.laysFinal "ClosuresThatBounce$Things" "ClosuresThatBounce$Things" "ones" "[I" ∈ lw_good := lw_t1 (i := 191) (by decide +kernel) (by decide +kernel)
theorem tw192 : Cond.soleField "ClosuresThatBounce$Things" "ones" ∈ lw_good := lw_t1 (i := 192) (by decide +kernel) (by decide +kernel)
theorem tw193 : Cond.laysFinal "ClosuresThatBounce$Things" "ClosuresThatBounce$Things" "twos" "[I" ∈ lw_good := lw_t1 (i := 193) (by decide +kernel) (by decide +kernel)
theorem tw194 : Cond.soleField "ClosuresThatBounce$Things" "twos" ∈ lw_good := lw_t1 (i := 194) (by decide +kernel) (by decide +kernel)
theorem tw195 : Cond.lays "ClosuresThatBounce$Things" "ClosuresThatBounce$Things" "made" "I" ∈ lw_good := lw_t1 (i := 195) (by decide +kernel) (by decide +kernel)
theorem tw196 : Cond.soleField "ClosuresThatBounce$Things" "made" ∈ lw_good := lw_t1 (i := 196) (by decide +kernel) (by decide +kernel)
theorem tw198 : Cond.classLink RX4 43 "ClosuresThatBounce$Waiting" ∈ lw_good := lw_t1 (i := 198) (by decide +kernel) (by decide +kernel)
theorem tw199 : Cond.instantiable RX8 5 ∈ lw_good := lw_t1 (i := 199) (by decide +kernel) (by decide +kernel)
theorem tw201 : Cond.instanceMethod yX8_init ∈ lw_good := lw_t1 (i := 201) (by decide +kernel) (by decide +kernel)
theorem tw202 : Cond.code yX8_init prog_10_method_1_code 1 none ∈ lw_good := lw_t1 (i := 202) (by decide +kernel) (by decide +kernel)
theorem tw203 : Cond.methodLink RX8 3 objectInit ∈ lw_good := lw_t1 (i := 203) (by decide +kernel) (by decide +kernel)
theorem tw204 : Cond.fieldLink RX8 9 "ClosuresThatBounce$Waiting" "expressions" "[I" ∈ lw_good := lw_t1 (i := 204) (by decide +kernel) (by decide +kernel)
theorem tw205 : Cond.fieldLink RX8 15 "ClosuresThatBounce$Waiting" "frames" "[I" ∈ lw_good := lw_t1 (i := 205) (by decide +kernel) (by decide +kernel)
theorem tw206 : Cond.fieldLink RX8 18 "ClosuresThatBounce$Waiting" "stages" "[I" ∈ lw_good := lw_t1 (i := 206) (by decide +kernel) (by decide +kernel)
theorem tw207 : Cond.fieldLink RX8 21 "ClosuresThatBounce$Waiting" "firsts" "[I" ∈ lw_good := lw_t1 (i := 207) (by decide +kernel) (by decide +kernel)
theorem tw208 : Cond.fieldLink RX8 24 "ClosuresThatBounce$Waiting" "height" "I" ∈ lw_good := lw_t1 (i := 208) (by decide +kernel) (by decide +kernel)
theorem tw209 : Cond.laysFinal "ClosuresThatBounce$Waiting" "ClosuresThatBounce$Waiting" "expressions" "[I" ∈ lw_good := lw_t1 (i := 209) (by decide +kernel) (by decide +kernel)
theorem tw210 : Cond.soleField "ClosuresThatBounce$Waiting" "expressions" ∈ lw_good := lw_t1 (i := 210) (by decide +kernel) (by decide +kernel)
theorem tw211 : Cond.laysFinal "ClosuresThatBounce$Waiting" "ClosuresThatBounce$Waiting" "frames" "[I" ∈ lw_good := lw_t1 (i := 211) (by decide +kernel) (by decide +kernel)
theorem tw212 : Cond.soleField "ClosuresThatBounce$Waiting" "frames" ∈ lw_good := lw_t1 (i := 212) (by decide +kernel) (by decide +kernel)
theorem tw213 : Cond.laysFinal "ClosuresThatBounce$Waiting" "ClosuresThatBounce$Waiting" "stages" "[I" ∈ lw_good := lw_t1 (i := 213) (by decide +kernel) (by decide +kernel)
theorem tw214 : Cond.soleField "ClosuresThatBounce$Waiting" "stages" ∈ lw_good := lw_t1 (i := 214) (by decide +kernel) (by decide +kernel)
theorem tw215 : Cond.laysFinal "ClosuresThatBounce$Waiting" "ClosuresThatBounce$Waiting" "firsts" "[I" ∈ lw_good := lw_t1 (i := 215) (by decide +kernel) (by decide +kernel)
theorem tw216 : Cond.soleField "ClosuresThatBounce$Waiting" "firsts" ∈ lw_good := lw_t1 (i := 216) (by decide +kernel) (by decide +kernel)
theorem tw217 : Cond.lays "ClosuresThatBounce$Waiting" "ClosuresThatBounce$Waiting" "height" "I" ∈ lw_good := lw_t1 (i := 217) (by decide +kernel) (by decide +kernel)
theorem tw218 : Cond.soleField "ClosuresThatBounce$Waiting" "height" ∈ lw_good := lw_t1 (i := 218) (by decide +kernel) (by decide +kernel)
theorem tw220 : Cond.classLink RX4 50 "ClosuresThatBounce$Program" ∈ lw_good := lw_t1 (i := 220) (by decide +kernel) (by decide +kernel)
theorem tw221 : Cond.methodLink RX4 52 yX5_init ∈ lw_good := lw_t1 (i := 221) (by decide +kernel) (by decide +kernel)
theorem tw222 : Cond.fieldLink RX4 9 "ClosuresThatBounce$Machine" "globals" "[I" ∈ lw_good := lw_t1 (i := 222) (by decide +kernel) (by decide +kernel)
theorem tw223 : Cond.fieldLink RX6 47 "ClosuresThatBounce$Machine" "globals" "[I" ∈ lw_good := lw_t1 (i := 223) (by decide +kernel) (by decide +kernel)
theorem tw224 : Cond.fieldLink RX9 167 "ClosuresThatBounce$Machine" "globals" "[I" ∈ lw_good := lw_t1 (i := 224) (by decide +kernel) (by decide +kernel)
theorem tw225 : Cond.fieldLink RX4 18 "ClosuresThatBounce$Machine" "caches" "LClosuresThatBounce$Caches;" ∈ lw_good := lw_t1 (i := 225) (by decide +kernel) (by decide +kernel)
theorem tw226 : Cond.fieldLink RX6 54 "ClosuresThatBounce$Machine" "caches" "LClosuresThatBounce$Caches;" ∈ lw_good := lw_t1 (i := 226) (by decide +kernel) (by decide +kernel)
theorem tw227 : Cond.fieldLink RX9 172 "ClosuresThatBounce$Machine" "caches" "LClosuresThatBounce$Caches;" ∈ lw_good := lw_t1 (i := 227) (by decide +kernel) (by decide +kernel)
theorem tw228 : Cond.fieldLink RX4 25 "ClosuresThatBounce$Machine" "ending" "LClosuresThatBounce$Ending;" ∈ lw_good := lw_t1 (i := 228) (by decide +kernel) (by decide +kernel)
theorem tw229 : Cond.fieldLink RX4 32 "ClosuresThatBounce$Machine" "cells" "LClosuresThatBounce$Cells;" ∈ lw_good := lw_t1 (i := 229) (by decide +kernel) (by decide +kernel)
theorem tw230 : Cond.fieldLink RX4 39 "ClosuresThatBounce$Machine" "things" "LClosuresThatBounce$Things;" ∈ lw_good := lw_t1 (i := 230) (by decide +kernel) (by decide +kernel)
theorem tw231 : Cond.fieldLink RX4 46 "ClosuresThatBounce$Machine" "waiting" "LClosuresThatBounce$Waiting;" ∈ lw_good := lw_t1 (i := 231) (by decide +kernel) (by decide +kernel)
theorem tw232 : Cond.fieldLink RX4 53 "ClosuresThatBounce$Machine" "program" "LClosuresThatBounce$Program;" ∈ lw_good := lw_t1 (i := 232) (by decide +kernel) (by decide +kernel)
theorem tw233 : Cond.fieldLink RX4 57 "ClosuresThatBounce$Machine" "mode" "I" ∈ lw_good := lw_t1 (i := 233) (by decide +kernel) (by decide +kernel)
theorem tw234 : Cond.fieldLink RX4 61 "ClosuresThatBounce$Machine" "expression" "I" ∈ lw_good := lw_t1 (i := 234) (by decide +kernel) (by decide +kernel)
theorem tw235 : Cond.fieldLink RX4 64 "ClosuresThatBounce$Machine" "frame" "I" ∈ lw_good := lw_t1 (i := 235) (by decide +kernel) (by decide +kernel)
theorem tw236 : Cond.fieldLink RX4 67 "ClosuresThatBounce$Machine" "value" "I" ∈ lw_good := lw_t1 (i := 236) (by decide +kernel) (by decide +kernel)
theorem tw237 : Cond.fieldLink RX4 70 "ClosuresThatBounce$Machine" "depth" "I" ∈ lw_good := lw_t1 (i := 237) (by decide +kernel) (by decide +kernel)
theorem tw238 : Cond.fieldLink RX4 73 "ClosuresThatBounce$Machine" "failed" "Z" ∈ lw_good := lw_t1 (i := 238) (by decide +kernel) (by decide +kernel)
theorem tw239 : Cond.laysFinal "ClosuresThatBounce$Machine" "ClosuresThatBounce$Machine" "globals" "[I" ∈ lw_good := lw_t1 (i := 239) (by decide +kernel) (by decide +kernel)
theorem tw240 : Cond.soleField "ClosuresThatBounce$Machine" "globals" ∈ lw_good := lw_t2 (i := 0) (by decide +kernel) (by decide +kernel)
theorem tw241 : Cond.laysFinal "ClosuresThatBounce$Machine" "ClosuresThatBounce$Machine" "caches" "LClosuresThatBounce$Caches;" ∈ lw_good := lw_t2 (i := 1) (by decide +kernel) (by decide +kernel)
theorem tw242 : Cond.soleField "ClosuresThatBounce$Machine" "caches" ∈ lw_good := lw_t2 (i := 2) (by decide +kernel) (by decide +kernel)
theorem tw243 : Cond.laysFinal "ClosuresThatBounce$Machine" "ClosuresThatBounce$Machine" "ending" "LClosuresThatBounce$Ending;" ∈ lw_good := lw_t2 (i := 3) (by decide +kernel) (by decide +kernel)
theorem tw244 : Cond.soleField "ClosuresThatBounce$Machine" "ending" ∈ lw_good := lw_t2 (i := 4) (by decide +kernel) (by decide +kernel)
theorem tw245 : Cond.laysFinal "ClosuresThatBounce$Machine" "ClosuresThatBounce$Machine" "cells" "LClosuresThatBounce$Cells;" ∈ lw_good := lw_t2 (i := 5) (by decide +kernel) (by decide +kernel)
theorem tw246 : Cond.soleField "ClosuresThatBounce$Machine" "cells" ∈ lw_good := lw_t2 (i := 6) (by decide +kernel) (by decide +kernel)
theorem tw247 : Cond.laysFinal "ClosuresThatBounce$Machine" "ClosuresThatBounce$Machine" "things" "LClosuresThatBounce$Things;" ∈ lw_good := lw_t2 (i := 7) (by decide +kernel) (by decide +kernel)
theorem tw248 : Cond.soleField "ClosuresThatBounce$Machine" "things" ∈ lw_good := lw_t2 (i := 8) (by decide +kernel) (by decide +kernel)
theorem tw249 : Cond.laysFinal "ClosuresThatBounce$Machine" "ClosuresThatBounce$Machine" "waiting" "LClosuresThatBounce$Waiting;" ∈ lw_good := lw_t2 (i := 9) (by decide +kernel) (by decide +kernel)
theorem tw250 : Cond.soleField "ClosuresThatBounce$Machine" "waiting" ∈ lw_good := lw_t2 (i := 10) (by decide +kernel) (by decide +kernel)
theorem tw251 : Cond.lays "ClosuresThatBounce$Machine" "ClosuresThatBounce$Machine" "program" "LClosuresThatBounce$Program;" ∈ lw_good := lw_t2 (i := 11) (by decide +kernel) (by decide +kernel)
theorem tw252 : Cond.soleField "ClosuresThatBounce$Machine" "program" ∈ lw_good := lw_t2 (i := 12) (by decide +kernel) (by decide +kernel)
theorem tw253 : Cond.lays "ClosuresThatBounce$Machine" "ClosuresThatBounce$Machine" "mode" "I" ∈ lw_good := lw_t2 (i := 13) (by decide +kernel) (by decide +kernel)
theorem tw254 : Cond.soleField "ClosuresThatBounce$Machine" "mode" ∈ lw_good := lw_t2 (i := 14) (by decide +kernel) (by decide +kernel)
theorem tw255 : Cond.lays "ClosuresThatBounce$Machine" "ClosuresThatBounce$Machine" "expression" "I" ∈ lw_good := lw_t2 (i := 15) (by decide +kernel) (by decide +kernel)
theorem tw256 : Cond.soleField "ClosuresThatBounce$Machine" "expression" ∈ lw_good := lw_t2 (i := 16) (by decide +kernel) (by decide +kernel)
theorem tw257 : Cond.lays "ClosuresThatBounce$Machine" "ClosuresThatBounce$Machine" "frame" "I" ∈ lw_good := lw_t2 (i := 17) (by decide +kernel) (by decide +kernel)
theorem tw258 : Cond.soleField "ClosuresThatBounce$Machine" "frame" ∈ lw_good := lw_t2 (i := 18) (by decide +kernel) (by decide +kernel)
theorem tw259 : Cond.lays "ClosuresThatBounce$Machine" "ClosuresThatBounce$Machine" "value" "I" ∈ lw_good := lw_t2 (i := 19) (by decide +kernel) (by decide +kernel)
theorem tw260 : Cond.soleField "ClosuresThatBounce$Machine" "value" ∈ lw_good := lw_t2 (i := 20) (by decide +kernel) (by decide +kernel)
theorem tw261 : Cond.lays "ClosuresThatBounce$Machine" "ClosuresThatBounce$Machine" "depth" "I" ∈ lw_good := lw_t2 (i := 21) (by decide +kernel) (by decide +kernel)
theorem tw262 : Cond.soleField "ClosuresThatBounce$Machine" "depth" ∈ lw_good := lw_t2 (i := 22) (by decide +kernel) (by decide +kernel)
theorem tw263 : Cond.lays "ClosuresThatBounce$Machine" "ClosuresThatBounce$Machine" "failed" "Z" ∈ lw_good := lw_t2 (i := 23) (by decide +kernel) (by decide +kernel)
theorem tw264 : Cond.soleField "ClosuresThatBounce$Machine" "failed" ∈ lw_good := lw_t2 (i := 24) (by decide +kernel) (by decide +kernel)
theorem tw266 : Cond.classLink RX9 26 "ClosuresThatBounce$Letters" ∈ lw_good := lw_t2 (i := 26) (by decide +kernel) (by decide +kernel)
theorem tw267 : Cond.instantiable RX3 8 ∈ lw_good := lw_t2 (i := 27) (by decide +kernel) (by decide +kernel)
theorem tw269 : Cond.instanceMethod yX3_init ∈ lw_good := lw_t2 (i := 29) (by decide +kernel) (by decide +kernel)
theorem tw270 : Cond.code yX3_init prog_5_method_1_code 1 none ∈ lw_good := lw_t2 (i := 30) (by decide +kernel) (by decide +kernel)
theorem tw271 : Cond.methodLink RX3 3 objectInit ∈ lw_good := lw_t2 (i := 31) (by decide +kernel) (by decide +kernel)
theorem tw272 : Cond.fieldLink RX3 9 "ClosuresThatBounce$Letters" "told" "[I" ∈ lw_good := lw_t2 (i := 32) (by decide +kernel) (by decide +kernel)
theorem tw273 : Cond.fieldLink RX3 15 "ClosuresThatBounce$Letters" "owners" "[I" ∈ lw_good := lw_t2 (i := 33) (by decide +kernel) (by decide +kernel)
theorem tw274 : Cond.fieldLink RX3 18 "ClosuresThatBounce$Letters" "slots" "[I" ∈ lw_good := lw_t2 (i := 34) (by decide +kernel) (by decide +kernel)
theorem tw275 : Cond.fieldLink RX3 21 "ClosuresThatBounce$Letters" "comingOwners" "[I" ∈ lw_good := lw_t2 (i := 35) (by decide +kernel) (by decide +kernel)
theorem tw276 : Cond.fieldLink RX3 24 "ClosuresThatBounce$Letters" "comingSlots" "[I" ∈ lw_good := lw_t2 (i := 36) (by decide +kernel) (by decide +kernel)
theorem tw277 : Cond.fieldLink RX3 27 "ClosuresThatBounce$Letters" "coming" "I" ∈ lw_good := lw_t2 (i := 37) (by decide +kernel) (by decide +kernel)
theorem tw278 : Cond.fieldLink RX3 31 "ClosuresThatBounce$Letters" "expressions" "I" ∈ lw_good := lw_t2 (i := 38) (by decide +kernel) (by decide +kernel)
theorem tw279 : Cond.fieldLink RX3 34 "ClosuresThatBounce$Letters" "length" "I" ∈ lw_good := lw_t2 (i := 39) (by decide +kernel) (by decide +kernel)
theorem tw280 : Cond.fieldLink RX9 215 "ClosuresThatBounce$Letters" "length" "I" ∈ lw_good := lw_t2 (i := 40) (by decide +kernel) (by decide +kernel)
theorem tw281 : Cond.laysFinal "ClosuresThatBounce$Letters" "ClosuresThatBounce$Letters" "told" "[I" ∈ lw_good := lw_t2 (i := 41) (by decide +kernel) (by decide +kernel)
theorem tw282 : Cond.soleField "ClosuresThatBounce$Letters" "told" ∈ lw_good := lw_t2 (i := 42) (by decide +kernel) (by decide +kernel)
theorem tw283 : Cond.laysFinal "ClosuresThatBounce$Letters" "ClosuresThatBounce$Letters" "owners" "[I" ∈ lw_good := lw_t2 (i := 43) (by decide +kernel) (by decide +kernel)
theorem tw284 : Cond.soleField "ClosuresThatBounce$Letters" "owners" ∈ lw_good := lw_t2 (i := 44) (by decide +kernel) (by decide +kernel)
theorem tw285 : Cond.laysFinal "ClosuresThatBounce$Letters" "ClosuresThatBounce$Letters" "slots" "[I" ∈ lw_good := lw_t2 (i := 45) (by decide +kernel) (by decide +kernel)
theorem tw286 : Cond.soleField "ClosuresThatBounce$Letters" "slots" ∈ lw_good := lw_t2 (i := 46) (by decide +kernel) (by decide +kernel)
theorem tw287 : Cond.laysFinal "ClosuresThatBounce$Letters" "ClosuresThatBounce$Letters" "comingOwners" "[I" ∈ lw_good := lw_t2 (i := 47) (by decide +kernel) (by decide +kernel)
theorem tw288 : Cond.soleField "ClosuresThatBounce$Letters" "comingOwners" ∈ lw_good := lw_t2 (i := 48) (by decide +kernel) (by decide +kernel)
theorem tw289 : Cond.laysFinal "ClosuresThatBounce$Letters" "ClosuresThatBounce$Letters" "comingSlots" "[I" ∈ lw_good := lw_t2 (i := 49) (by decide +kernel) (by decide +kernel)
theorem tw290 : Cond.soleField "ClosuresThatBounce$Letters" "comingSlots" ∈ lw_good := lw_t2 (i := 50) (by decide +kernel) (by decide +kernel)
theorem tw291 : Cond.lays "ClosuresThatBounce$Letters" "ClosuresThatBounce$Letters" "coming" "I" ∈ lw_good := lw_t2 (i := 51) (by decide +kernel) (by decide +kernel)
theorem tw292 : Cond.soleField "ClosuresThatBounce$Letters" "coming" ∈ lw_good := lw_t2 (i := 52) (by decide +kernel) (by decide +kernel)
theorem tw293 : Cond.lays "ClosuresThatBounce$Letters" "ClosuresThatBounce$Letters" "expressions" "I" ∈ lw_good := lw_t2 (i := 53) (by decide +kernel) (by decide +kernel)
theorem tw294 : Cond.soleField "ClosuresThatBounce$Letters" "expressions" ∈ lw_good := lw_t2 (i := 54) (by decide +kernel) (by decide +kernel)
theorem tw295 : Cond.lays "ClosuresThatBounce$Letters" "ClosuresThatBounce$Letters" "length" "I" ∈ lw_good := lw_t2 (i := 55) (by decide +kernel) (by decide +kernel)
theorem tw296 : Cond.soleField "ClosuresThatBounce$Letters" "length" ∈ lw_good := lw_t2 (i := 56) (by decide +kernel) (by decide +kernel)
theorem tw298 : Cond.fieldLink RX9 10 "ClosuresThatBounce" "now" "LClosuresThatBounce$Situation;" ∈ lw_good := lw_t2 (i := 58) (by decide +kernel) (by decide +kernel)
theorem tw299 : Cond.fieldLink RX9 16 "ClosuresThatBounce" "kept" "LClosuresThatBounce$Situation;" ∈ lw_good := lw_t2 (i := 59) (by decide +kernel) (by decide +kernel)
theorem tw300 : Cond.fieldLink RX9 22 "ClosuresThatBounce" "machine" "LClosuresThatBounce$Machine;" ∈ lw_good := lw_t2 (i := 60) (by decide +kernel) (by decide +kernel)
theorem tw301 : Cond.fieldLink RX9 29 "ClosuresThatBounce" "letters" "LClosuresThatBounce$Letters;" ∈ lw_good := lw_t2 (i := 61) (by decide +kernel) (by decide +kernel)
theorem tw302 : Cond.fieldLink RX9 33 "ClosuresThatBounce" "rowNumbers" "[I" ∈ lw_good := lw_t2 (i := 62) (by decide +kernel) (by decide +kernel)
theorem tw303 : Cond.fieldLink RX9 37 "ClosuresThatBounce" "refusals" "[I" ∈ lw_good := lw_t2 (i := 63) (by decide +kernel) (by decide +kernel)
theorem tw304 : Cond.fieldLink RX9 40 "ClosuresThatBounce" "endsOfTries" "[I" ∈ lw_good := lw_t2 (i := 64) (by decide +kernel) (by decide +kernel)
theorem tw305 : Cond.fieldLink RX9 43 "ClosuresThatBounce" "rowLength" "I" ∈ lw_good := lw_t2 (i := 65) (by decide +kernel) (by decide +kernel)
theorem tw306 : Cond.fieldLink RX9 47 "ClosuresThatBounce" "imageTaken" "Z" ∈ lw_good := lw_t2 (i := 66) (by decide +kernel) (by decide +kernel)
theorem tw307 : Cond.laysFinal "ClosuresThatBounce" "ClosuresThatBounce" "now" "LClosuresThatBounce$Situation;" ∈ lw_good := lw_t2 (i := 67) (by decide +kernel) (by decide +kernel)
theorem tw308 : Cond.soleField "ClosuresThatBounce" "now" ∈ lw_good := lw_t2 (i := 68) (by decide +kernel) (by decide +kernel)
theorem tw309 : Cond.laysFinal "ClosuresThatBounce" "ClosuresThatBounce" "kept" "LClosuresThatBounce$Situation;" ∈ lw_good := lw_t2 (i := 69) (by decide +kernel) (by decide +kernel)
theorem tw310 : Cond.soleField "ClosuresThatBounce" "kept" ∈ lw_good := lw_t2 (i := 70) (by decide +kernel) (by decide +kernel)
theorem tw311 : Cond.laysFinal "ClosuresThatBounce" "ClosuresThatBounce" "machine" "LClosuresThatBounce$Machine;" ∈ lw_good := lw_t2 (i := 71) (by decide +kernel) (by decide +kernel)
theorem tw312 : Cond.soleField "ClosuresThatBounce" "machine" ∈ lw_good := lw_t2 (i := 72) (by decide +kernel) (by decide +kernel)
theorem tw313 : Cond.laysFinal "ClosuresThatBounce" "ClosuresThatBounce" "letters" "LClosuresThatBounce$Letters;" ∈ lw_good := lw_t2 (i := 73) (by decide +kernel) (by decide +kernel)
theorem tw314 : Cond.soleField "ClosuresThatBounce" "letters" ∈ lw_good := lw_t2 (i := 74) (by decide +kernel) (by decide +kernel)
theorem tw315 : Cond.laysFinal "ClosuresThatBounce" "ClosuresThatBounce" "rowNumbers" "[I" ∈ lw_good := lw_t2 (i := 75) (by decide +kernel) (by decide +kernel)
theorem tw316 : Cond.soleField "ClosuresThatBounce" "rowNumbers" ∈ lw_good := lw_t2 (i := 76) (by decide +kernel) (by decide +kernel)
theorem tw317 : Cond.laysFinal "ClosuresThatBounce" "ClosuresThatBounce" "refusals" "[I" ∈ lw_good := lw_t2 (i := 77) (by decide +kernel) (by decide +kernel)
theorem tw318 : Cond.soleField "ClosuresThatBounce" "refusals" ∈ lw_good := lw_t2 (i := 78) (by decide +kernel) (by decide +kernel)
theorem tw319 : Cond.laysFinal "ClosuresThatBounce" "ClosuresThatBounce" "endsOfTries" "[I" ∈ lw_good := lw_t2 (i := 79) (by decide +kernel) (by decide +kernel)
theorem tw320 : Cond.soleField "ClosuresThatBounce" "endsOfTries" ∈ lw_good := lw_t2 (i := 80) (by decide +kernel) (by decide +kernel)
theorem tw321 : Cond.lays "ClosuresThatBounce" "ClosuresThatBounce" "rowLength" "I" ∈ lw_good := lw_t2 (i := 81) (by decide +kernel) (by decide +kernel)
theorem tw322 : Cond.soleField "ClosuresThatBounce" "rowLength" ∈ lw_good := lw_t2 (i := 82) (by decide +kernel) (by decide +kernel)
theorem tw323 : Cond.lays "ClosuresThatBounce" "ClosuresThatBounce" "imageTaken" "Z" ∈ lw_good := lw_t2 (i := 83) (by decide +kernel) (by decide +kernel)
theorem tw324 : Cond.soleField "ClosuresThatBounce" "imageTaken" ∈ lw_good := lw_t2 (i := 84) (by decide +kernel) (by decide +kernel)
theorem tw326 : Cond.methodLink RL 13 yX9_letter ∈ lw_good := lw_t2 (i := 86) (by decide +kernel) (by decide +kernel)
theorem tw327 : Cond.instanceMethod yX9_letter ∈ lw_good := lw_t2 (i := 87) (by decide +kernel) (by decide +kernel)
theorem tw328 : Cond.selects RX9 yX9_letter yX9_letter ∈ lw_good := lw_t2 (i := 88) (by decide +kernel) (by decide +kernel)
theorem tw329 : Cond.code yX9_letter prog_1_method_2_code 2 (some .int) ∈ lw_good := lw_t2 (i := 89) (by decide +kernel) (by decide +kernel)
theorem tw330 : Cond.methodLink RX9 51 yX9_refuse ∈ lw_good := lw_t2 (i := 90) (by decide +kernel) (by decide +kernel)
theorem tw332 : Cond.instanceMethod yX9_refuse ∈ lw_good := lw_t2 (i := 92) (by decide +kernel) (by decide +kernel)
theorem tw333 : Cond.code yX9_refuse prog_1_method_30_code 2 (some .int) ∈ lw_good := lw_t2 (i := 93) (by decide +kernel) (by decide +kernel)
theorem tw334 : Cond.methodLink RX9 95 yX9_at ∈ lw_good := lw_t2 (i := 94) (by decide +kernel) (by decide +kernel)
theorem tw335 : Cond.static yX9_at ∈ lw_good := lw_t2 (i := 95) (by decide +kernel) (by decide +kernel)
theorem tw336 : Cond.code yX9_at prog_1_method_42_code 2 (some .int) ∈ lw_good := lw_t2 (i := 96) (by decide +kernel) (by decide +kernel)
theorem tw337 : Cond.methodLink RX9 103 yX9_put ∈ lw_good := lw_t2 (i := 97) (by decide +kernel) (by decide +kernel)
theorem tw338 : Cond.static yX9_put ∈ lw_good := lw_t2 (i := 98) (by decide +kernel) (by decide +kernel)
theorem tw339 : Cond.code yX9_put prog_1_method_43_code 3 none ∈ lw_good := lw_t2 (i := 99) (by decide +kernel) (by decide +kernel)
theorem tw340 : Cond.methodLink RX9 55 yX3_isFull ∈ lw_good := lw_t2 (i := 100) (by decide +kernel) (by decide +kernel)
theorem tw341 : Cond.instanceMethod yX3_isFull ∈ lw_good := lw_t2 (i := 101) (by decide +kernel) (by decide +kernel)
theorem tw342 : Cond.selects RX3 yX3_isFull yX3_isFull ∈ lw_good := lw_t2 (i := 102) (by decide +kernel) (by decide +kernel)
theorem tw343 : Cond.code yX3_isFull prog_5_method_2_code 1 (some .boolean) ∈ lw_good := lw_t2 (i := 103) (by decide +kernel) (by decide +kernel)
theorem tw344 : Cond.methodLink RX9 59 yX3_add ∈ lw_good := lw_t2 (i := 104) (by decide +kernel) (by decide +kernel)
theorem tw345 : Cond.instanceMethod yX3_add ∈ lw_good := lw_t2 (i := 105) (by decide +kernel) (by decide +kernel)
theorem tw346 : Cond.selects RX3 yX3_add yX3_add ∈ lw_good := lw_t2 (i := 106) (by decide +kernel) (by decide +kernel)
theorem tw347 : Cond.code yX3_add prog_5_method_3_code 2 (some .int) ∈ lw_good := lw_t2 (i := 107) (by decide +kernel) (by decide +kernel)
theorem tw349 : Cond.methodLink RL 18 yX9_program ∈ lw_good := lw_t2 (i := 109) (by decide +kernel) (by decide +kernel)
theorem tw350 : Cond.instanceMethod yX9_program ∈ lw_good := lw_t2 (i := 110) (by decide +kernel) (by decide +kernel)
theorem tw351 : Cond.selects RX9 yX9_program yX9_program ∈ lw_good := lw_t2 (i := 111) (by decide +kernel) (by decide +kernel)
theorem tw352 : Cond.code yX9_program prog_1_method_3_code 2 (some .int) ∈ lw_good := lw_t2 (i := 112) (by decide +kernel) (by decide +kernel)
theorem tw353 : Cond.methodLink RX9 62 yX3_findFault ∈ lw_good := lw_t2 (i := 113) (by decide +kernel) (by decide +kernel)
theorem tw354 : Cond.instanceMethod yX3_findFault ∈ lw_good := lw_t2 (i := 114) (by decide +kernel) (by decide +kernel)
theorem tw355 : Cond.selects RX3 yX3_findFault yX3_findFault ∈ lw_good := lw_t2 (i := 115) (by decide +kernel) (by decide +kernel)
theorem tw356 : Cond.code yX3_findFault prog_5_method_5_code 2 (some .int) ∈ lw_good := lw_t2 (i := 116) (by decide +kernel) (by decide +kernel)
theorem tw357 : Cond.methodLink RX3 41 yX3_await ∈ lw_good := lw_t2 (i := 117) (by decide +kernel) (by decide +kernel)
theorem tw359 : Cond.instanceMethod yX3_await ∈ lw_good := lw_t2 (i := 119) (by decide +kernel) (by decide +kernel)
theorem tw360 : Cond.code yX3_await prog_5_method_8_code 3 none ∈ lw_good := lw_t2 (i := 120) (by decide +kernel) (by decide +kernel)
theorem tw361 : Cond.methodLink RX3 45 yX3_fits ∈ lw_good := lw_t2 (i := 121) (by decide +kernel) (by decide +kernel)
theorem tw363 : Cond.instanceMethod yX3_fits ∈ lw_good := lw_t2 (i := 123) (by decide +kernel) (by decide +kernel)
theorem tw364 : Cond.code yX3_fits prog_5_method_7_code 6 (some .boolean) ∈ lw_good := lw_t2 (i := 124) (by decide +kernel) (by decide +kernel)
theorem tw366 : Cond.methodLink RX3 69 yX3_isName ∈ lw_good := lw_t2 (i := 126) (by decide +kernel) (by decide +kernel)
theorem tw367 : Cond.static yX3_isName ∈ lw_good := lw_t2 (i := 127) (by decide +kernel) (by decide +kernel)
theorem tw368 : Cond.code yX3_isName prog_5_method_10_code 1 (some .boolean) ∈ lw_good := lw_t2 (i := 128) (by decide +kernel) (by decide +kernel)
theorem tw369 : Cond.methodLink RX3 72 yX3_isSign ∈ lw_good := lw_t2 (i := 129) (by decide +kernel) (by decide +kernel)
theorem tw370 : Cond.static yX3_isSign ∈ lw_good := lw_t2 (i := 130) (by decide +kernel) (by decide +kernel)
theorem tw371 : Cond.code yX3_isSign prog_5_method_13_code 1 (some .boolean) ∈ lw_good := lw_t2 (i := 131) (by decide +kernel) (by decide +kernel)
theorem tw372 : Cond.methodLink RX3 90 yX3_isDigit ∈ lw_good := lw_t2 (i := 132) (by decide +kernel) (by decide +kernel)
theorem tw373 : Cond.static yX3_isDigit ∈ lw_good := lw_t2 (i := 133) (by decide +kernel) (by decide +kernel)
theorem tw374 : Cond.code yX3_isDigit prog_5_method_11_code 1 (some .boolean) ∈ lw_good := lw_t2 (i := 134) (by decide +kernel) (by decide +kernel)
theorem tw375 : Cond.methodLink RX3 75 yX3_partsOf ∈ lw_good := lw_t2 (i := 135) (by decide +kernel) (by decide +kernel)
theorem tw376 : Cond.static yX3_partsOf ∈ lw_good := lw_t2 (i := 136) (by decide +kernel) (by decide +kernel)
theorem tw377 : Cond.code yX3_partsOf prog_5_method_14_code 1 (some (.object "java/lang/String")) ∈ lw_good := lw_t2 (i := 137) (by decide +kernel) (by decide +kernel)
theorem tw385 : Cond.methodLink RX3 93 yJ0_isEmpty_aae02 ∈ lw_good := lw_t2 (i := 145) (by decide +kernel) (by decide +kernel)
theorem tw386 : Cond.instanceMethod yJ0_isEmpty_aae02 ∈ lw_good := lw_t2 (i := 146) (by decide +kernel) (by decide +kernel)
theorem tw387 : Cond.selects RJ0 yJ0_isEmpty_aae02 yJ0_isEmpty_aae02 ∈ lw_good := lw_t2 (i := 147) (by decide +kernel) (by decide +kernel)
theorem tw388 : Cond.code yJ0_isEmpty_aae02 prog_15_method_55_code 1 (some .boolean) ∈ lw_good := lw_t2 (i := 148) (by decide +kernel) (by decide +kernel)
theorem tw389 : Cond.methodLink RX3 79 yJ0_length_8abf5 ∈ lw_good := lw_t2 (i := 149) (by decide +kernel) (by decide +kernel)
theorem tw390 : Cond.instanceMethod yJ0_length_8abf5 ∈ lw_good := lw_t2 (i := 150) (by decide +kernel) (by decide +kernel)
theorem tw391 : Cond.selects RJ0 yJ0_length_8abf5 yJ0_length_8abf5 ∈ lw_good := lw_t2 (i := 151) (by decide +kernel) (by decide +kernel)
theorem tw392 : Cond.code yJ0_length_8abf5 prog_15_method_54_code 1 (some .int) ∈ lw_good := lw_t2 (i := 152) (by decide +kernel) (by decide +kernel)
theorem tw393 : Cond.methodLink RJ0 335 yJ0_coder_7d493 ∈ lw_good := lw_t2 (i := 153) (by decide +kernel) (by decide +kernel)
theorem tw394 : Cond.instanceMethod yJ0_coder_7d493 ∈ lw_good := lw_t2 (i := 154) (by decide +kernel) (by decide +kernel)
theorem tw395 : Cond.selects RJ0 yJ0_coder_7d493 yJ0_coder_7d493 ∈ lw_good := lw_t2 (i := 155) (by decide +kernel) (by decide +kernel)
theorem tw396 : Cond.code yJ0_coder_7d493 prog_15_method_152_code 1 (some .byte) ∈ lw_good := lw_t2 (i := 156) (by decide +kernel) (by decide +kernel)
theorem tw397 : Cond.fieldLink RJ0 38 "java/lang/String" "COMPACT_STRINGS" "Z" ∈ lw_good := lw_t2 (i := 157) (by decide +kernel) (by decide +kernel)
theorem tw399 : Cond.methodLink RX3 83 yJ0_charAt_5068e ∈ lw_good := lw_t2 (i := 159) (by decide +kernel) (by decide +kernel)
theorem tw400 : Cond.instanceMethod yJ0_charAt_5068e ∈ lw_good := lw_t2 (i := 160) (by decide +kernel) (by decide +kernel)
theorem tw401 : Cond.selects RJ0 yJ0_charAt_5068e yJ0_charAt_5068e ∈ lw_good := lw_t2 (i := 161) (by decide +kernel) (by decide +kernel)
theorem tw402 : Cond.code yJ0_charAt_5068e prog_15_method_56_code 2 (some .char) ∈ lw_good := lw_t2 (i := 162) (by decide +kernel) (by decide +kernel)
theorem tw403 : Cond.methodLink RJ0 492 yJ0_isLatin1_aae02 ∈ lw_good := lw_t2 (i := 163) (by decide +kernel) (by decide +kernel)
theorem tw404 : Cond.instanceMethod yJ0_isLatin1_aae02 ∈ lw_good := lw_t2 (i := 164) (by decide +kernel) (by decide +kernel)
theorem tw405 : Cond.selects RJ0 yJ0_isLatin1_aae02 yJ0_isLatin1_aae02 ∈ lw_good := lw_t2 (i := 165) (by decide +kernel) (by decide +kernel)
theorem tw406 : Cond.code yJ0_isLatin1_aae02 prog_15_method_154_code 1 (some .boolean) ∈ lw_good := lw_t2 (i := 166) (by decide +kernel) (by decide +kernel)
theorem tw407 : Cond.methodLink RJ0 495 yJ1_charAt_3b067 ∈ lw_good := lw_t2 (i := 167) (by decide +kernel) (by decide +kernel)
theorem tw408 : Cond.static yJ1_charAt_3b067 ∈ lw_good := lw_t2 (i := 168) (by decide +kernel) (by decide +kernel)
theorem tw409 : Cond.code yJ1_charAt_3b067 prog_16_method_2_code 2 (some .char) ∈ lw_good := lw_t2 (i := 169) (by decide +kernel) (by decide +kernel)
theorem tw410 : Cond.methodLink RJ1 9 yJ0_checkIndex_df160 ∈ lw_good := lw_t2 (i := 170) (by decide +kernel) (by decide +kernel)
theorem tw411 : Cond.static yJ0_checkIndex_df160 ∈ lw_good := lw_t2 (i := 171) (by decide +kernel) (by decide +kernel)
theorem tw412 : Cond.code yJ0_checkIndex_df160 prog_15_method_155_code 2 none ∈ lw_good := lw_t2 (i := 172) (by decide +kernel) (by decide +kernel)
theorem tw413 : Cond.fieldLink RJ0 1053 "jdk/internal/util/Preconditions" "SIOOBE_FORMATTER" "Ljava/util/function/BiFunction;" ∈ lw_good := lw_t2 (i := 173) (by decide +kernel) (by decide +kernel)
theorem tw415 : Cond.methodLink RJ0 1059 yJ3_checkIndex_8e157 ∈ lw_good := lw_t2 (i := 175) (by decide +kernel) (by decide +kernel)
theorem tw416 : Cond.static yJ3_checkIndex_8e157 ∈ lw_good := lw_t2 (i := 176) (by decide +kernel) (by decide +kernel)
theorem tw417 : Cond.code yJ3_checkIndex_8e157 prog_19_method_11_code 3 (some .int) ∈ lw_good := lw_t2 (i := 177) (by decide +kernel) (by decide +kernel)
theorem tw418 : Cond.methodLink RJ0 498 yJ2_charAt_3b067 ∈ lw_good := lw_t2 (i := 178) (by decide +kernel) (by decide +kernel)
theorem tw419 : Cond.static yJ2_charAt_3b067 ∈ lw_good := lw_t2 (i := 179) (by decide +kernel) (by decide +kernel)
theorem tw420 : Cond.code yJ2_charAt_3b067 prog_17_method_83_code 2 (some .char) ∈ lw_good := lw_t2 (i := 180) (by decide +kernel) (by decide +kernel)
theorem tw421 : Cond.methodLink RJ2 67 yJ2_checkIndex_2214a ∈ lw_good := lw_t2 (i := 181) (by decide +kernel) (by decide +kernel)
theorem tw422 : Cond.static yJ2_checkIndex_2214a ∈ lw_good := lw_t2 (i := 182) (by decide +kernel) (by decide +kernel)
theorem tw423 : Cond.code yJ2_checkIndex_2214a prog_17_method_91_code 2 none ∈ lw_good := lw_t2 (i := 183) (by decide +kernel) (by decide +kernel)
theorem tw424 : Cond.methodLink RJ2 48 yJ2_length_9d52b ∈ lw_good := lw_t2 (i := 184) (by decide +kernel) (by decide +kernel)
theorem tw425 : Cond.static yJ2_length_9d52b ∈ lw_good := lw_t2 (i := 185) (by decide +kernel) (by decide +kernel)
theorem tw426 : Cond.code yJ2_length_9d52b prog_17_method_6_code 1 (some .int) ∈ lw_good := lw_t2 (i := 186) (by decide +kernel) (by decide +kernel)
theorem tw427 : Cond.methodLink RJ2 414 yJ0_checkIndex_df160 ∈ lw_good := lw_t2 (i := 187) (by decide +kernel) (by decide +kernel)
theorem tw428 : Cond.methodLink RJ2 71 yJ2_getChar_3b067 ∈ lw_good := lw_t2 (i := 188) (by decide +kernel) (by decide +kernel)
theorem tw429 : Cond.static yJ2_getChar_3b067 ∈ lw_good := lw_t2 (i := 189) (by decide +kernel) (by decide +kernel)
theorem tw430 : Cond.code yJ2_getChar_3b067 prog_17_method_5_code 2 (some .char) ∈ lw_good := lw_t2 (i := 190) (by decide +kernel) (by decide +kernel)
theorem tw431 : Cond.fieldLink RJ2 44 "java/lang/StringUTF16" "$assertionsDisabled" "Z" ∈ lw_good := lw_t2 (i := 191) (by decide +kernel) (by decide +kernel)
theorem tw433 : Cond.fieldLink RJ2 59 "java/lang/StringUTF16" "HI_BYTE_SHIFT" "I" ∈ lw_good := lw_t2 (i := 193) (by decide +kernel) (by decide +kernel)
theorem tw435 : Cond.fieldLink RJ2 63 "java/lang/StringUTF16" "LO_BYTE_SHIFT" "I" ∈ lw_good := lw_t2 (i := 195) (by decide +kernel) (by decide +kernel)
theorem tw437 : Cond.methodLink RX3 49 yX3_placeBeyondLimits ∈ lw_good := lw_t2 (i := 197) (by decide +kernel) (by decide +kernel)
theorem tw439 : Cond.instanceMethod yX3_placeBeyondLimits ∈ lw_good := lw_t2 (i := 199) (by decide +kernel) (by decide +kernel)
theorem tw440 : Cond.code yX3_placeBeyondLimits prog_5_method_9_code 4 (some .int) ∈ lw_good := lw_t2 (i := 200) (by decide +kernel) (by decide +kernel)
theorem tw441 : Cond.methodLink RX3 87 yX3_isSite ∈ lw_good := lw_t2 (i := 201) (by decide +kernel) (by decide +kernel)
theorem tw442 : Cond.static yX3_isSite ∈ lw_good := lw_t2 (i := 202) (by decide +kernel) (by decide +kernel)
theorem tw443 : Cond.code yX3_isSite prog_5_method_12_code 1 (some .boolean) ∈ lw_good := lw_t2 (i := 203) (by decide +kernel) (by decide +kernel)
theorem tw444 : Cond.methodLink RX9 70 yX3_writeInto ∈ lw_good := lw_t2 (i := 204) (by decide +kernel) (by decide +kernel)
theorem tw445 : Cond.instanceMethod yX3_writeInto ∈ lw_good := lw_t2 (i := 205) (by decide +kernel) (by decide +kernel)
theorem tw446 : Cond.selects RX3 yX3_writeInto yX3_writeInto ∈ lw_good := lw_t2 (i := 206) (by decide +kernel) (by decide +kernel)
theorem tw447 : Cond.code yX3_writeInto prog_5_method_6_code 6 none ∈ lw_good := lw_t2 (i := 207) (by decide +kernel) (by decide +kernel)
theorem tw448 : Cond.methodLink RX3 53 yX5_empty ∈ lw_good := lw_t2 (i := 208) (by decide +kernel) (by decide +kernel)
theorem tw449 : Cond.instanceMethod yX5_empty ∈ lw_good := lw_t2 (i := 209) (by decide +kernel) (by decide +kernel)
theorem tw450 : Cond.selects RX5 yX5_empty yX5_empty ∈ lw_good := lw_t2 (i := 210) (by decide +kernel) (by decide +kernel)
theorem tw451 : Cond.code yX5_empty prog_7_method_9_code 1 none ∈ lw_good := lw_t2 (i := 211) (by decide +kernel) (by decide +kernel)
theorem tw452 : Cond.methodLink RX3 62 yX5_nameVariable ∈ lw_good := lw_t2 (i := 212) (by decide +kernel) (by decide +kernel)
theorem tw453 : Cond.instanceMethod yX5_nameVariable ∈ lw_good := lw_t2 (i := 213) (by decide +kernel) (by decide +kernel)
theorem tw454 : Cond.selects RX5 yX5_nameVariable yX5_nameVariable ∈ lw_good := lw_t2 (i := 214) (by decide +kernel) (by decide +kernel)
theorem tw455 : Cond.code yX5_nameVariable prog_7_method_11_code 3 none ∈ lw_good := lw_t2 (i := 215) (by decide +kernel) (by decide +kernel)
theorem tw457 : Cond.methodLink RX3 65 yX5_add ∈ lw_good := lw_t2 (i := 217) (by decide +kernel) (by decide +kernel)
theorem tw458 : Cond.instanceMethod yX5_add ∈ lw_good := lw_t2 (i := 218) (by decide +kernel) (by decide +kernel)
theorem tw459 : Cond.selects RX5 yX5_add yX5_add ∈ lw_good := lw_t2 (i := 219) (by decide +kernel) (by decide +kernel)
theorem tw460 : Cond.code yX5_add prog_7_method_10_code 5 none ∈ lw_good := lw_t2 (i := 220) (by decide +kernel) (by decide +kernel)
theorem tw461 : Cond.methodLink RX5 45 yX5_comesToEnd ∈ lw_good := lw_t2 (i := 221) (by decide +kernel) (by decide +kernel)
theorem tw463 : Cond.instanceMethod yX5_comesToEnd ∈ lw_good := lw_t2 (i := 223) (by decide +kernel) (by decide +kernel)
theorem tw464 : Cond.code yX5_comesToEnd prog_7_method_12_code 3 (some .boolean) ∈ lw_good := lw_t2 (i := 224) (by decide +kernel) (by decide +kernel)
theorem tw465 : Cond.methodLink RX5 55 yX5_signOf ∈ lw_good := lw_t2 (i := 225) (by decide +kernel) (by decide +kernel)
theorem tw466 : Cond.instanceMethod yX5_signOf ∈ lw_good := lw_t2 (i := 226) (by decide +kernel) (by decide +kernel)
theorem tw467 : Cond.selects RX5 yX5_signOf yX5_signOf ∈ lw_good := lw_t2 (i := 227) (by decide +kernel) (by decide +kernel)
theorem tw468 : Cond.code yX5_signOf prog_7_method_2_code 2 (some .int) ∈ lw_good := lw_t2 (i := 228) (by decide +kernel) (by decide +kernel)
theorem tw470 : Cond.methodLink RX5 59 yX5_isAtEnd ∈ lw_good := lw_t2 (i := 230) (by decide +kernel) (by decide +kernel)
theorem tw471 : Cond.instanceMethod yX5_isAtEnd ∈ lw_good := lw_t2 (i := 231) (by decide +kernel) (by decide +kernel)
theorem tw472 : Cond.selects RX5 yX5_isAtEnd yX5_isAtEnd ∈ lw_good := lw_t2 (i := 232) (by decide +kernel) (by decide +kernel)
theorem tw473 : Cond.code yX5_isAtEnd prog_7_method_8_code 2 (some .boolean) ∈ lw_good := lw_t2 (i := 233) (by decide +kernel) (by decide +kernel)
theorem tw474 : Cond.methodLink RX5 49 yX3_isSite ∈ lw_good := lw_t2 (i := 234) (by decide +kernel) (by decide +kernel)
theorem tw475 : Cond.methodLink RX9 74 yX6_startAnew ∈ lw_good := lw_t2 (i := 235) (by decide +kernel) (by decide +kernel)
theorem tw476 : Cond.instanceMethod yX6_startAnew ∈ lw_good := lw_t2 (i := 236) (by decide +kernel) (by decide +kernel)
theorem tw477 : Cond.selects RX6 yX6_startAnew yX6_startAnew ∈ lw_good := lw_t2 (i := 237) (by decide +kernel) (by decide +kernel)
theorem tw478 : Cond.code yX6_startAnew prog_8_method_2_code 1 none ∈ lw_good := lw_t2 (i := 238) (by decide +kernel) (by decide +kernel)
theorem tw479 : Cond.methodLink RX6 44 yX0_forget ∈ lw_good := lw_t2 (i := 239) (by decide +kernel) (by decide +kernel)
theorem tw480 : Cond.instanceMethod yX0_forget ∈ lw_good := lw_t3 (i := 0) (by decide +kernel) (by decide +kernel)
theorem tw481 : Cond.selects RX0 yX0_forget yX0_forget ∈ lw_good := lw_t3 (i := 1) (by decide +kernel) (by decide +kernel)
theorem tw482 : Cond.code yX0_forget prog_2_method_8_code 2 none ∈ lw_good := lw_t3 (i := 2) (by decide +kernel) (by decide +kernel)
theorem tw484 : Cond.methodLink RX9 77 yX3_forget ∈ lw_good := lw_t3 (i := 4) (by decide +kernel) (by decide +kernel)
theorem tw485 : Cond.instanceMethod yX3_forget ∈ lw_good := lw_t3 (i := 5) (by decide +kernel) (by decide +kernel)
theorem tw486 : Cond.selects RX3 yX3_forget yX3_forget ∈ lw_good := lw_t3 (i := 6) (by decide +kernel) (by decide +kernel)
theorem tw487 : Cond.code yX3_forget prog_5_method_4_code 1 none ∈ lw_good := lw_t3 (i := 7) (by decide +kernel) (by decide +kernel)
theorem tw488 : Cond.arrayClass .byte ∈ lw_good := lw_t3 (i := 8) (by decide +kernel) (by decide +kernel)
theorem tw489 : Cond.methodLink RL 23 yX9_global ∈ lw_good := lw_t3 (i := 9) (by decide +kernel) (by decide +kernel)
theorem tw490 : Cond.instanceMethod yX9_global ∈ lw_good := lw_t3 (i := 10) (by decide +kernel) (by decide +kernel)
theorem tw491 : Cond.selects RX9 yX9_global yX9_global ∈ lw_good := lw_t3 (i := 11) (by decide +kernel) (by decide +kernel)
theorem tw492 : Cond.code yX9_global prog_1_method_4_code 2 (some .int) ∈ lw_good := lw_t3 (i := 12) (by decide +kernel) (by decide +kernel)
theorem tw493 : Cond.methodLink RX9 85 yX9_isVariable ∈ lw_good := lw_t3 (i := 13) (by decide +kernel) (by decide +kernel)
theorem tw494 : Cond.static yX9_isVariable ∈ lw_good := lw_t3 (i := 14) (by decide +kernel) (by decide +kernel)
theorem tw495 : Cond.code yX9_isVariable prog_1_method_35_code 1 (some .boolean) ∈ lw_good := lw_t3 (i := 15) (by decide +kernel) (by decide +kernel)
theorem tw496 : Cond.methodLink RX9 89 yX9_refuseNumber ∈ lw_good := lw_t3 (i := 16) (by decide +kernel) (by decide +kernel)
theorem tw498 : Cond.instanceMethod yX9_refuseNumber ∈ lw_good := lw_t3 (i := 18) (by decide +kernel) (by decide +kernel)
theorem tw499 : Cond.code yX9_refuseNumber prog_1_method_31_code 2 (some .int) ∈ lw_good := lw_t3 (i := 19) (by decide +kernel) (by decide +kernel)
theorem tw500 : Cond.constant RX9 218 (1000000000 : Int32) ∈ lw_good := lw_t3 (i := 20) (by decide +kernel) (by decide +kernel)
theorem tw501 : Cond.methodLink RL 27 yX9_sets ∈ lw_good := lw_t3 (i := 21) (by decide +kernel) (by decide +kernel)
theorem tw502 : Cond.instanceMethod yX9_sets ∈ lw_good := lw_t3 (i := 22) (by decide +kernel) (by decide +kernel)
theorem tw503 : Cond.selects RX9 yX9_sets yX9_sets ∈ lw_good := lw_t3 (i := 23) (by decide +kernel) (by decide +kernel)
theorem tw504 : Cond.code yX9_sets prog_1_method_5_code 5 (some .int) ∈ lw_good := lw_t3 (i := 24) (by decide +kernel) (by decide +kernel)
theorem tw505 : Cond.methodLink RX9 99 yX9_refusalOfGlobal ∈ lw_good := lw_t3 (i := 25) (by decide +kernel) (by decide +kernel)
theorem tw506 : Cond.static yX9_refusalOfGlobal ∈ lw_good := lw_t3 (i := 26) (by decide +kernel) (by decide +kernel)
theorem tw507 : Cond.code yX9_refusalOfGlobal prog_1_method_33_code 2 (some .int) ∈ lw_good := lw_t3 (i := 27) (by decide +kernel) (by decide +kernel)
theorem tw508 : Cond.methodLink RL 32 yX9_run ∈ lw_good := lw_t3 (i := 28) (by decide +kernel) (by decide +kernel)
theorem tw509 : Cond.instanceMethod yX9_run ∈ lw_good := lw_t3 (i := 29) (by decide +kernel) (by decide +kernel)
theorem tw510 : Cond.selects RX9 yX9_run yX9_run ∈ lw_good := lw_t3 (i := 30) (by decide +kernel) (by decide +kernel)
theorem tw511 : Cond.code yX9_run prog_1_method_6_code 1 (some .int) ∈ lw_good := lw_t3 (i := 31) (by decide +kernel) (by decide +kernel)
theorem tw512 : Cond.methodLink RX9 107 yX9_thinkOf ∈ lw_good := lw_t3 (i := 32) (by decide +kernel) (by decide +kernel)
theorem tw514 : Cond.instanceMethod yX9_thinkOf ∈ lw_good := lw_t3 (i := 34) (by decide +kernel) (by decide +kernel)
theorem tw515 : Cond.code yX9_thinkOf prog_1_method_27_code 1 (some (.object "ClosuresThatBounce$Ending")) ∈ lw_good := lw_t3 (i := 35) (by decide +kernel) (by decide +kernel)
theorem tw516 : Cond.methodLink RX9 180 yX4_takeUp ∈ lw_good := lw_t3 (i := 36) (by decide +kernel) (by decide +kernel)
theorem tw517 : Cond.instanceMethod yX4_takeUp ∈ lw_good := lw_t3 (i := 37) (by decide +kernel) (by decide +kernel)
theorem tw518 : Cond.selects RX4 yX4_takeUp yX4_takeUp ∈ lw_good := lw_t3 (i := 38) (by decide +kernel) (by decide +kernel)
theorem tw519 : Cond.code yX4_takeUp prog_6_method_2_code 2 none ∈ lw_good := lw_t3 (i := 39) (by decide +kernel) (by decide +kernel)
theorem tw521 : Cond.static yX9_copyRow ∈ lw_good := lw_t3 (i := 41) (by decide +kernel) (by decide +kernel)
theorem tw522 : Cond.code yX9_copyRow prog_1_method_44_code 2 none ∈ lw_good := lw_t3 (i := 42) (by decide +kernel) (by decide +kernel)
theorem tw523 : Cond.methodLink RX9 228 yJ9_min_7cf53 ∈ lw_good := lw_t3 (i := 43) (by decide +kernel) (by decide +kernel)
theorem tw524 : Cond.static yJ9_min_7cf53 ∈ lw_good := lw_t3 (i := 44) (by decide +kernel) (by decide +kernel)
theorem tw525 : Cond.code yJ9_min_7cf53 prog_14_method_69_code 2 (some .int) ∈ lw_good := lw_t3 (i := 45) (by decide +kernel) (by decide +kernel)
theorem tw526 : Cond.methodLink RX9 233 arraycopyName ∈ lw_good := lw_t3 (i := 46) (by decide +kernel) (by decide +kernel)
theorem tw527 : Cond.static arraycopyName ∈ lw_good := lw_t3 (i := 47) (by decide +kernel) (by decide +kernel)
theorem tw528 : Cond.native arraycopyName ∈ lw_good := lw_t3 (i := 48) (by decide +kernel) (by decide +kernel)
theorem tw529 : Cond.methodLink RX4 86 yX0_copyFrom ∈ lw_good := lw_t3 (i := 49) (by decide +kernel) (by decide +kernel)
theorem tw530 : Cond.instanceMethod yX0_copyFrom ∈ lw_good := lw_t3 (i := 50) (by decide +kernel) (by decide +kernel)
theorem tw531 : Cond.selects RX0 yX0_copyFrom yX0_copyFrom ∈ lw_good := lw_t3 (i := 51) (by decide +kernel) (by decide +kernel)
theorem tw532 : Cond.code yX0_copyFrom prog_2_method_9_code 2 none ∈ lw_good := lw_t3 (i := 52) (by decide +kernel) (by decide +kernel)
theorem tw534 : Cond.methodLink RX9 164 yX4_perform ∈ lw_good := lw_t3 (i := 54) (by decide +kernel) (by decide +kernel)
theorem tw535 : Cond.instanceMethod yX4_perform ∈ lw_good := lw_t3 (i := 55) (by decide +kernel) (by decide +kernel)
theorem tw536 : Cond.selects RX4 yX4_perform yX4_perform ∈ lw_good := lw_t3 (i := 56) (by decide +kernel) (by decide +kernel)
theorem tw537 : Cond.code yX4_perform prog_6_method_3_code 2 (some (.object "ClosuresThatBounce$Ending")) ∈ lw_good := lw_t3 (i := 57) (by decide +kernel) (by decide +kernel)
theorem tw538 : Cond.methodLink RX4 90 yX4_start ∈ lw_good := lw_t3 (i := 58) (by decide +kernel) (by decide +kernel)
theorem tw540 : Cond.instanceMethod yX4_start ∈ lw_good := lw_t3 (i := 60) (by decide +kernel) (by decide +kernel)
theorem tw541 : Cond.code yX4_start prog_6_method_4_code 1 none ∈ lw_good := lw_t3 (i := 61) (by decide +kernel) (by decide +kernel)
theorem tw542 : Cond.methodLink RX4 106 yX1_forget ∈ lw_good := lw_t3 (i := 62) (by decide +kernel) (by decide +kernel)
theorem tw543 : Cond.instanceMethod yX1_forget ∈ lw_good := lw_t3 (i := 63) (by decide +kernel) (by decide +kernel)
theorem tw544 : Cond.selects RX1 yX1_forget yX1_forget ∈ lw_good := lw_t3 (i := 64) (by decide +kernel) (by decide +kernel)
theorem tw545 : Cond.code yX1_forget prog_3_method_2_code 1 none ∈ lw_good := lw_t3 (i := 65) (by decide +kernel) (by decide +kernel)
theorem tw546 : Cond.methodLink RX4 109 yX7_forget ∈ lw_good := lw_t3 (i := 66) (by decide +kernel) (by decide +kernel)
theorem tw547 : Cond.instanceMethod yX7_forget ∈ lw_good := lw_t3 (i := 67) (by decide +kernel) (by decide +kernel)
theorem tw548 : Cond.selects RX7 yX7_forget yX7_forget ∈ lw_good := lw_t3 (i := 68) (by decide +kernel) (by decide +kernel)
theorem tw549 : Cond.code yX7_forget prog_9_method_2_code 1 none ∈ lw_good := lw_t3 (i := 69) (by decide +kernel) (by decide +kernel)
theorem tw550 : Cond.methodLink RX4 110 yX8_forget ∈ lw_good := lw_t3 (i := 70) (by decide +kernel) (by decide +kernel)
theorem tw551 : Cond.instanceMethod yX8_forget ∈ lw_good := lw_t3 (i := 71) (by decide +kernel) (by decide +kernel)
theorem tw552 : Cond.selects RX8 yX8_forget yX8_forget ∈ lw_good := lw_t3 (i := 72) (by decide +kernel) (by decide +kernel)
theorem tw553 : Cond.code yX8_forget prog_10_method_2_code 1 none ∈ lw_good := lw_t3 (i := 73) (by decide +kernel) (by decide +kernel)
theorem tw554 : Cond.methodLink RX4 111 yX4_forgetFault ∈ lw_good := lw_t3 (i := 74) (by decide +kernel) (by decide +kernel)
theorem tw556 : Cond.instanceMethod yX4_forgetFault ∈ lw_good := lw_t3 (i := 76) (by decide +kernel) (by decide +kernel)
theorem tw557 : Cond.code yX4_forgetFault prog_6_method_13_code 1 none ∈ lw_good := lw_t3 (i := 77) (by decide +kernel) (by decide +kernel)
theorem tw558 : Cond.methodLink RX4 123 yX4_begin ∈ lw_good := lw_t3 (i := 78) (by decide +kernel) (by decide +kernel)
theorem tw560 : Cond.instanceMethod yX4_begin ∈ lw_good := lw_t3 (i := 80) (by decide +kernel) (by decide +kernel)
theorem tw561 : Cond.code yX4_begin prog_6_method_6_code 3 none ∈ lw_good := lw_t3 (i := 81) (by decide +kernel) (by decide +kernel)
theorem tw562 : Cond.constant RX4 93 (1000000 : Int32) ∈ lw_good := lw_t3 (i := 82) (by decide +kernel) (by decide +kernel)
theorem tw563 : Cond.methodLink RX4 94 yX4_beginExpression ∈ lw_good := lw_t3 (i := 83) (by decide +kernel) (by decide +kernel)
theorem tw565 : Cond.instanceMethod yX4_beginExpression ∈ lw_good := lw_t3 (i := 85) (by decide +kernel) (by decide +kernel)
theorem tw566 : Cond.code yX4_beginExpression prog_6_method_9_code 2 none ∈ lw_good := lw_t3 (i := 86) (by decide +kernel) (by decide +kernel)
theorem tw567 : Cond.methodLink RX4 159 yX4_fail ∈ lw_good := lw_t3 (i := 87) (by decide +kernel) (by decide +kernel)
theorem tw569 : Cond.instanceMethod yX4_fail ∈ lw_good := lw_t3 (i := 89) (by decide +kernel) (by decide +kernel)
theorem tw570 : Cond.code yX4_fail prog_6_method_8_code 2 none ∈ lw_good := lw_t3 (i := 90) (by decide +kernel) (by decide +kernel)
theorem tw571 : Cond.methodLink RX4 163 yX5_signOf ∈ lw_good := lw_t3 (i := 91) (by decide +kernel) (by decide +kernel)
theorem tw572 : Cond.methodLink RX4 166 yX3_isDigit ∈ lw_good := lw_t3 (i := 92) (by decide +kernel) (by decide +kernel)
theorem tw573 : Cond.methodLink RX4 171 yX4_give ∈ lw_good := lw_t3 (i := 93) (by decide +kernel) (by decide +kernel)
theorem tw575 : Cond.instanceMethod yX4_give ∈ lw_good := lw_t3 (i := 95) (by decide +kernel) (by decide +kernel)
theorem tw576 : Cond.code yX4_give prog_6_method_7_code 2 none ∈ lw_good := lw_t3 (i := 96) (by decide +kernel) (by decide +kernel)
theorem tw577 : Cond.methodLink RX4 174 yX3_isName ∈ lw_good := lw_t3 (i := 97) (by decide +kernel) (by decide +kernel)
theorem tw578 : Cond.methodLink RX4 147 yX5_variableOf ∈ lw_good := lw_t3 (i := 98) (by decide +kernel) (by decide +kernel)
theorem tw579 : Cond.instanceMethod yX5_variableOf ∈ lw_good := lw_t3 (i := 99) (by decide +kernel) (by decide +kernel)
theorem tw580 : Cond.selects RX5 yX5_variableOf yX5_variableOf ∈ lw_good := lw_t3 (i := 100) (by decide +kernel) (by decide +kernel)
theorem tw581 : Cond.code yX5_variableOf prog_7_method_3_code 2 (some .int) ∈ lw_good := lw_t3 (i := 101) (by decide +kernel) (by decide +kernel)
theorem tw582 : Cond.methodLink RX4 177 yX4_valueOfVariable ∈ lw_good := lw_t3 (i := 102) (by decide +kernel) (by decide +kernel)
theorem tw584 : Cond.instanceMethod yX4_valueOfVariable ∈ lw_good := lw_t3 (i := 104) (by decide +kernel) (by decide +kernel)
theorem tw585 : Cond.code yX4_valueOfVariable prog_6_method_20_code 4 (some .int) ∈ lw_good := lw_t3 (i := 105) (by decide +kernel) (by decide +kernel)
theorem tw586 : Cond.methodLink RX4 259 yX1_innermost ∈ lw_good := lw_t3 (i := 106) (by decide +kernel) (by decide +kernel)
theorem tw587 : Cond.instanceMethod yX1_innermost ∈ lw_good := lw_t3 (i := 107) (by decide +kernel) (by decide +kernel)
theorem tw588 : Cond.selects RX1 yX1_innermost yX1_innermost ∈ lw_good := lw_t3 (i := 108) (by decide +kernel) (by decide +kernel)
theorem tw589 : Cond.code yX1_innermost prog_3_method_4_code 5 (some .int) ∈ lw_good := lw_t3 (i := 109) (by decide +kernel) (by decide +kernel)
theorem tw592 : Cond.methodLink RX4 266 yX1_valueIn ∈ lw_good := lw_t3 (i := 112) (by decide +kernel) (by decide +kernel)
theorem tw593 : Cond.instanceMethod yX1_valueIn ∈ lw_good := lw_t3 (i := 113) (by decide +kernel) (by decide +kernel)
theorem tw594 : Cond.selects RX1 yX1_valueIn yX1_valueIn ∈ lw_good := lw_t3 (i := 114) (by decide +kernel) (by decide +kernel)
theorem tw595 : Cond.code yX1_valueIn prog_3_method_5_code 2 (some .int) ∈ lw_good := lw_t3 (i := 115) (by decide +kernel) (by decide +kernel)
theorem tw596 : Cond.methodLink RX4 181 yX7_add ∈ lw_good := lw_t3 (i := 116) (by decide +kernel) (by decide +kernel)
theorem tw597 : Cond.instanceMethod yX7_add ∈ lw_good := lw_t3 (i := 117) (by decide +kernel) (by decide +kernel)
theorem tw598 : Cond.selects RX7 yX7_add yX7_add ∈ lw_good := lw_t3 (i := 118) (by decide +kernel) (by decide +kernel)
theorem tw599 : Cond.code yX7_add prog_9_method_3_code 4 (some .int) ∈ lw_good := lw_t3 (i := 119) (by decide +kernel) (by decide +kernel)
theorem tw601 : Cond.methodLink RX4 185 yX8_push ∈ lw_good := lw_t3 (i := 121) (by decide +kernel) (by decide +kernel)
theorem tw602 : Cond.instanceMethod yX8_push ∈ lw_good := lw_t3 (i := 122) (by decide +kernel) (by decide +kernel)
theorem tw603 : Cond.selects RX8 yX8_push yX8_push ∈ lw_good := lw_t3 (i := 123) (by decide +kernel) (by decide +kernel)
theorem tw604 : Cond.code yX8_push prog_10_method_4_code 5 none ∈ lw_good := lw_t3 (i := 124) (by decide +kernel) (by decide +kernel)
theorem tw606 : Cond.methodLink RX4 189 yX5_firstOf ∈ lw_good := lw_t3 (i := 126) (by decide +kernel) (by decide +kernel)
theorem tw607 : Cond.instanceMethod yX5_firstOf ∈ lw_good := lw_t3 (i := 127) (by decide +kernel) (by decide +kernel)
theorem tw608 : Cond.selects RX5 yX5_firstOf yX5_firstOf ∈ lw_good := lw_t3 (i := 128) (by decide +kernel) (by decide +kernel)
theorem tw609 : Cond.code yX5_firstOf prog_7_method_4_code 2 (some .int) ∈ lw_good := lw_t3 (i := 129) (by decide +kernel) (by decide +kernel)
theorem tw610 : Cond.methodLink RX4 97 yX4_useValue ∈ lw_good := lw_t3 (i := 130) (by decide +kernel) (by decide +kernel)
theorem tw612 : Cond.instanceMethod yX4_useValue ∈ lw_good := lw_t3 (i := 132) (by decide +kernel) (by decide +kernel)
theorem tw613 : Cond.code yX4_useValue prog_6_method_10_code 4 none ∈ lw_good := lw_t3 (i := 133) (by decide +kernel) (by decide +kernel)
theorem tw614 : Cond.methodLink RX4 192 yX8_isEmpty ∈ lw_good := lw_t3 (i := 134) (by decide +kernel) (by decide +kernel)
theorem tw615 : Cond.instanceMethod yX8_isEmpty ∈ lw_good := lw_t3 (i := 135) (by decide +kernel) (by decide +kernel)
theorem tw616 : Cond.selects RX8 yX8_isEmpty yX8_isEmpty ∈ lw_good := lw_t3 (i := 136) (by decide +kernel) (by decide +kernel)
theorem tw617 : Cond.code yX8_isEmpty prog_10_method_3_code 1 (some .boolean) ∈ lw_good := lw_t3 (i := 137) (by decide +kernel) (by decide +kernel)
theorem tw618 : Cond.methodLink RX4 196 yX8_pop ∈ lw_good := lw_t3 (i := 138) (by decide +kernel) (by decide +kernel)
theorem tw619 : Cond.instanceMethod yX8_pop ∈ lw_good := lw_t3 (i := 139) (by decide +kernel) (by decide +kernel)
theorem tw620 : Cond.selects RX8 yX8_pop yX8_pop ∈ lw_good := lw_t3 (i := 140) (by decide +kernel) (by decide +kernel)
theorem tw621 : Cond.code yX8_pop prog_10_method_5_code 1 none ∈ lw_good := lw_t3 (i := 141) (by decide +kernel) (by decide +kernel)
theorem tw622 : Cond.methodLink RX4 199 yX8_expression ∈ lw_good := lw_t3 (i := 142) (by decide +kernel) (by decide +kernel)
theorem tw623 : Cond.instanceMethod yX8_expression ∈ lw_good := lw_t3 (i := 143) (by decide +kernel) (by decide +kernel)
theorem tw624 : Cond.selects RX8 yX8_expression yX8_expression ∈ lw_good := lw_t3 (i := 144) (by decide +kernel) (by decide +kernel)
theorem tw625 : Cond.code yX8_expression prog_10_method_6_code 1 (some .int) ∈ lw_good := lw_t3 (i := 145) (by decide +kernel) (by decide +kernel)
theorem tw627 : Cond.methodLink RX4 202 yX8_frame ∈ lw_good := lw_t3 (i := 147) (by decide +kernel) (by decide +kernel)
theorem tw628 : Cond.instanceMethod yX8_frame ∈ lw_good := lw_t3 (i := 148) (by decide +kernel) (by decide +kernel)
theorem tw629 : Cond.selects RX8 yX8_frame yX8_frame ∈ lw_good := lw_t3 (i := 149) (by decide +kernel) (by decide +kernel)
theorem tw630 : Cond.code yX8_frame prog_10_method_7_code 1 (some .int) ∈ lw_good := lw_t3 (i := 150) (by decide +kernel) (by decide +kernel)
theorem tw631 : Cond.methodLink RX4 204 yX4_useOneOfTwo ∈ lw_good := lw_t3 (i := 151) (by decide +kernel) (by decide +kernel)
theorem tw633 : Cond.instanceMethod yX4_useOneOfTwo ∈ lw_good := lw_t3 (i := 153) (by decide +kernel) (by decide +kernel)
theorem tw634 : Cond.code yX4_useOneOfTwo prog_6_method_15_code 5 none ∈ lw_good := lw_t3 (i := 154) (by decide +kernel) (by decide +kernel)
theorem tw635 : Cond.methodLink RX4 208 yX8_stage ∈ lw_good := lw_t3 (i := 155) (by decide +kernel) (by decide +kernel)
theorem tw636 : Cond.instanceMethod yX8_stage ∈ lw_good := lw_t3 (i := 156) (by decide +kernel) (by decide +kernel)
theorem tw637 : Cond.selects RX8 yX8_stage yX8_stage ∈ lw_good := lw_t3 (i := 157) (by decide +kernel) (by decide +kernel)
theorem tw638 : Cond.code yX8_stage prog_10_method_8_code 1 (some .int) ∈ lw_good := lw_t3 (i := 158) (by decide +kernel) (by decide +kernel)
theorem tw639 : Cond.methodLink RX4 223 yX5_secondOf ∈ lw_good := lw_t3 (i := 159) (by decide +kernel) (by decide +kernel)
theorem tw640 : Cond.instanceMethod yX5_secondOf ∈ lw_good := lw_t3 (i := 160) (by decide +kernel) (by decide +kernel)
theorem tw641 : Cond.selects RX5 yX5_secondOf yX5_secondOf ∈ lw_good := lw_t3 (i := 161) (by decide +kernel) (by decide +kernel)
theorem tw642 : Cond.code yX5_secondOf prog_7_method_5_code 2 (some .int) ∈ lw_good := lw_t3 (i := 162) (by decide +kernel) (by decide +kernel)
theorem tw643 : Cond.methodLink RX4 211 yX8_first ∈ lw_good := lw_t3 (i := 163) (by decide +kernel) (by decide +kernel)
theorem tw644 : Cond.instanceMethod yX8_first ∈ lw_good := lw_t3 (i := 164) (by decide +kernel) (by decide +kernel)
theorem tw645 : Cond.selects RX8 yX8_first yX8_first ∈ lw_good := lw_t3 (i := 165) (by decide +kernel) (by decide +kernel)
theorem tw646 : Cond.code yX8_first prog_10_method_9_code 1 (some .int) ∈ lw_good := lw_t3 (i := 166) (by decide +kernel) (by decide +kernel)
theorem tw647 : Cond.methodLink RX4 242 yX4_reckon ∈ lw_good := lw_t3 (i := 167) (by decide +kernel) (by decide +kernel)
theorem tw649 : Cond.instanceMethod yX4_reckon ∈ lw_good := lw_t3 (i := 169) (by decide +kernel) (by decide +kernel)
theorem tw650 : Cond.code yX4_reckon prog_6_method_16_code 5 none ∈ lw_good := lw_t3 (i := 170) (by decide +kernel) (by decide +kernel)
theorem tw651 : Cond.methodLink RX4 137 yX7_isNumber ∈ lw_good := lw_t3 (i := 171) (by decide +kernel) (by decide +kernel)
theorem tw652 : Cond.static yX7_isNumber ∈ lw_good := lw_t3 (i := 172) (by decide +kernel) (by decide +kernel)
theorem tw653 : Cond.code yX7_isNumber prog_9_method_4_code 1 (some .boolean) ∈ lw_good := lw_t3 (i := 173) (by decide +kernel) (by decide +kernel)
theorem tw654 : Cond.methodLink RX4 214 yX4_call ∈ lw_good := lw_t3 (i := 174) (by decide +kernel) (by decide +kernel)
theorem tw656 : Cond.instanceMethod yX4_call ∈ lw_good := lw_t3 (i := 176) (by decide +kernel) (by decide +kernel)
theorem tw657 : Cond.code yX4_call prog_6_method_19_code 6 none ∈ lw_good := lw_t3 (i := 177) (by decide +kernel) (by decide +kernel)
theorem tw658 : Cond.methodLink RX4 248 yX5_isAtEnd ∈ lw_good := lw_t3 (i := 178) (by decide +kernel) (by decide +kernel)
theorem tw659 : Cond.methodLink RX4 251 yJ9_max_7cf53 ∈ lw_good := lw_t3 (i := 179) (by decide +kernel) (by decide +kernel)
theorem tw660 : Cond.static yJ9_max_7cf53 ∈ lw_good := lw_t3 (i := 180) (by decide +kernel) (by decide +kernel)
theorem tw661 : Cond.code yJ9_max_7cf53 prog_14_method_65_code 2 (some .int) ∈ lw_good := lw_t3 (i := 181) (by decide +kernel) (by decide +kernel)
theorem tw662 : Cond.methodLink RX4 144 yX7_expressionOf ∈ lw_good := lw_t3 (i := 182) (by decide +kernel) (by decide +kernel)
theorem tw663 : Cond.instanceMethod yX7_expressionOf ∈ lw_good := lw_t3 (i := 183) (by decide +kernel) (by decide +kernel)
theorem tw664 : Cond.selects RX7 yX7_expressionOf yX7_expressionOf ∈ lw_good := lw_t3 (i := 184) (by decide +kernel) (by decide +kernel)
theorem tw665 : Cond.code yX7_expressionOf prog_9_method_9_code 2 (some .int) ∈ lw_good := lw_t3 (i := 185) (by decide +kernel) (by decide +kernel)
theorem tw667 : Cond.methodLink RX4 256 yX7_frameOf ∈ lw_good := lw_t3 (i := 187) (by decide +kernel) (by decide +kernel)
theorem tw668 : Cond.instanceMethod yX7_frameOf ∈ lw_good := lw_t3 (i := 188) (by decide +kernel) (by decide +kernel)
theorem tw669 : Cond.selects RX7 yX7_frameOf yX7_frameOf ∈ lw_good := lw_t3 (i := 189) (by decide +kernel) (by decide +kernel)
theorem tw670 : Cond.code yX7_frameOf prog_9_method_10_code 2 (some .int) ∈ lw_good := lw_t3 (i := 190) (by decide +kernel) (by decide +kernel)
theorem tw671 : Cond.methodLink RX4 241 yX1_add ∈ lw_good := lw_t3 (i := 191) (by decide +kernel) (by decide +kernel)
theorem tw672 : Cond.instanceMethod yX1_add ∈ lw_good := lw_t3 (i := 192) (by decide +kernel) (by decide +kernel)
theorem tw673 : Cond.selects RX1 yX1_add yX1_add ∈ lw_good := lw_t3 (i := 193) (by decide +kernel) (by decide +kernel)
theorem tw674 : Cond.code yX1_add prog_3_method_3_code 4 (some .int) ∈ lw_good := lw_t3 (i := 194) (by decide +kernel) (by decide +kernel)
theorem tw676 : Cond.methodLink RX4 217 yX4_useForCall ∈ lw_good := lw_t3 (i := 196) (by decide +kernel) (by decide +kernel)
theorem tw678 : Cond.instanceMethod yX4_useForCall ∈ lw_good := lw_t3 (i := 198) (by decide +kernel) (by decide +kernel)
theorem tw679 : Cond.code yX4_useForCall prog_6_method_18_code 3 none ∈ lw_good := lw_t3 (i := 199) (by decide +kernel) (by decide +kernel)
theorem tw680 : Cond.methodLink RX4 141 yX7_isFunction ∈ lw_good := lw_t3 (i := 200) (by decide +kernel) (by decide +kernel)
theorem tw681 : Cond.instanceMethod yX7_isFunction ∈ lw_good := lw_t3 (i := 201) (by decide +kernel) (by decide +kernel)
theorem tw682 : Cond.selects RX7 yX7_isFunction yX7_isFunction ∈ lw_good := lw_t3 (i := 202) (by decide +kernel) (by decide +kernel)
theorem tw683 : Cond.code yX7_isFunction prog_9_method_5_code 2 (some .boolean) ∈ lw_good := lw_t3 (i := 203) (by decide +kernel) (by decide +kernel)
theorem tw684 : Cond.methodLink RX7 29 yX7_kindOf ∈ lw_good := lw_t3 (i := 204) (by decide +kernel) (by decide +kernel)
theorem tw685 : Cond.instanceMethod yX7_kindOf ∈ lw_good := lw_t3 (i := 205) (by decide +kernel) (by decide +kernel)
theorem tw686 : Cond.selects RX7 yX7_kindOf yX7_kindOf ∈ lw_good := lw_t3 (i := 206) (by decide +kernel) (by decide +kernel)
theorem tw687 : Cond.code yX7_kindOf prog_9_method_7_code 3 (some .int) ∈ lw_good := lw_t3 (i := 207) (by decide +kernel) (by decide +kernel)
theorem tw688 : Cond.methodLink RX4 220 yX4_choose ∈ lw_good := lw_t3 (i := 208) (by decide +kernel) (by decide +kernel)
theorem tw690 : Cond.instanceMethod yX4_choose ∈ lw_good := lw_t3 (i := 210) (by decide +kernel) (by decide +kernel)
theorem tw691 : Cond.code yX4_choose prog_6_method_17_code 3 none ∈ lw_good := lw_t3 (i := 211) (by decide +kernel) (by decide +kernel)
theorem tw692 : Cond.methodLink RX4 245 yX5_thirdOf ∈ lw_good := lw_t3 (i := 212) (by decide +kernel) (by decide +kernel)
theorem tw693 : Cond.instanceMethod yX5_thirdOf ∈ lw_good := lw_t3 (i := 213) (by decide +kernel) (by decide +kernel)
theorem tw694 : Cond.selects RX5 yX5_thirdOf yX5_thirdOf ∈ lw_good := lw_t3 (i := 214) (by decide +kernel) (by decide +kernel)
theorem tw695 : Cond.code yX5_thirdOf prog_7_method_6_code 2 (some .int) ∈ lw_good := lw_t3 (i := 215) (by decide +kernel) (by decide +kernel)
theorem tw696 : Cond.methodLink RX4 226 yX4_beginSecondWithCell ∈ lw_good := lw_t3 (i := 216) (by decide +kernel) (by decide +kernel)
theorem tw698 : Cond.instanceMethod yX4_beginSecondWithCell ∈ lw_good := lw_t3 (i := 218) (by decide +kernel) (by decide +kernel)
theorem tw699 : Cond.code yX4_beginSecondWithCell prog_6_method_14_code 4 none ∈ lw_good := lw_t3 (i := 219) (by decide +kernel) (by decide +kernel)
theorem tw700 : Cond.methodLink RX4 229 yX4_store ∈ lw_good := lw_t3 (i := 220) (by decide +kernel) (by decide +kernel)
theorem tw702 : Cond.instanceMethod yX4_store ∈ lw_good := lw_t3 (i := 222) (by decide +kernel) (by decide +kernel)
theorem tw703 : Cond.code yX4_store prog_6_method_21_code 4 none ∈ lw_good := lw_t3 (i := 223) (by decide +kernel) (by decide +kernel)
theorem tw704 : Cond.methodLink RX4 269 yX1_change ∈ lw_good := lw_t3 (i := 224) (by decide +kernel) (by decide +kernel)
theorem tw705 : Cond.instanceMethod yX1_change ∈ lw_good := lw_t3 (i := 225) (by decide +kernel) (by decide +kernel)
theorem tw706 : Cond.selects RX1 yX1_change yX1_change ∈ lw_good := lw_t3 (i := 226) (by decide +kernel) (by decide +kernel)
theorem tw707 : Cond.code yX1_change prog_3_method_6_code 3 none ∈ lw_good := lw_t3 (i := 227) (by decide +kernel) (by decide +kernel)
theorem tw709 : Cond.methodLink RX4 232 yX4_findField ∈ lw_good := lw_t3 (i := 229) (by decide +kernel) (by decide +kernel)
theorem tw711 : Cond.instanceMethod yX4_findField ∈ lw_good := lw_t3 (i := 231) (by decide +kernel) (by decide +kernel)
theorem tw712 : Cond.code yX4_findField prog_6_method_22_code 3 none ∈ lw_good := lw_t3 (i := 232) (by decide +kernel) (by decide +kernel)
theorem tw713 : Cond.methodLink RX4 276 yX7_hasField ∈ lw_good := lw_t3 (i := 233) (by decide +kernel) (by decide +kernel)
theorem tw714 : Cond.instanceMethod yX7_hasField ∈ lw_good := lw_t3 (i := 234) (by decide +kernel) (by decide +kernel)
theorem tw715 : Cond.selects RX7 yX7_hasField yX7_hasField ∈ lw_good := lw_t3 (i := 235) (by decide +kernel) (by decide +kernel)
theorem tw716 : Cond.code yX7_hasField prog_9_method_6_code 4 (some .boolean) ∈ lw_good := lw_t3 (i := 236) (by decide +kernel) (by decide +kernel)
theorem tw717 : Cond.methodLink RX4 280 yX5_siteOf ∈ lw_good := lw_t3 (i := 237) (by decide +kernel) (by decide +kernel)
theorem tw718 : Cond.instanceMethod yX5_siteOf ∈ lw_good := lw_t3 (i := 238) (by decide +kernel) (by decide +kernel)
theorem tw719 : Cond.selects RX5 yX5_siteOf yX5_siteOf ∈ lw_good := lw_t3 (i := 239) (by decide +kernel) (by decide +kernel)
theorem tw720 : Cond.code yX5_siteOf prog_7_method_7_code 2 (some .int) ∈ lw_good := lw_t4 (i := 0) (by decide +kernel) (by decide +kernel)
theorem tw721 : Cond.methodLink RX4 150 yX7_kindOf ∈ lw_good := lw_t4 (i := 1) (by decide +kernel) (by decide +kernel)
theorem tw722 : Cond.methodLink RX4 283 yX0_see ∈ lw_good := lw_t4 (i := 2) (by decide +kernel) (by decide +kernel)
theorem tw723 : Cond.instanceMethod yX0_see ∈ lw_good := lw_t4 (i := 3) (by decide +kernel) (by decide +kernel)
theorem tw724 : Cond.selects RX0 yX0_see yX0_see ∈ lw_good := lw_t4 (i := 4) (by decide +kernel) (by decide +kernel)
theorem tw725 : Cond.code yX0_see prog_2_method_2_code 5 none ∈ lw_good := lw_t4 (i := 5) (by decide +kernel) (by decide +kernel)
theorem tw727 : Cond.methodLink RX0 25 yJ6_bitCount_0f7a4 ∈ lw_good := lw_t4 (i := 7) (by decide +kernel) (by decide +kernel)
theorem tw728 : Cond.static yJ6_bitCount_0f7a4 ∈ lw_good := lw_t4 (i := 8) (by decide +kernel) (by decide +kernel)
theorem tw729 : Cond.code yJ6_bitCount_0f7a4 prog_13_method_49_code 1 (some .int) ∈ lw_good := lw_t4 (i := 9) (by decide +kernel) (by decide +kernel)
theorem tw730 : Cond.constant RJ6 265 (1431655765 : Int32) ∈ lw_good := lw_t4 (i := 10) (by decide +kernel) (by decide +kernel)
theorem tw731 : Cond.constant RJ6 266 (858993459 : Int32) ∈ lw_good := lw_t4 (i := 11) (by decide +kernel) (by decide +kernel)
theorem tw732 : Cond.constant RJ6 267 (252645135 : Int32) ∈ lw_good := lw_t4 (i := 12) (by decide +kernel) (by decide +kernel)
theorem tw733 : Cond.methodLink RX4 286 yX7_fieldOf ∈ lw_good := lw_t4 (i := 13) (by decide +kernel) (by decide +kernel)
theorem tw734 : Cond.instanceMethod yX7_fieldOf ∈ lw_good := lw_t4 (i := 14) (by decide +kernel) (by decide +kernel)
theorem tw735 : Cond.selects RX7 yX7_fieldOf yX7_fieldOf ∈ lw_good := lw_t4 (i := 15) (by decide +kernel) (by decide +kernel)
theorem tw736 : Cond.code yX7_fieldOf prog_9_method_8_code 3 (some .int) ∈ lw_good := lw_t4 (i := 16) (by decide +kernel) (by decide +kernel)
theorem tw737 : Cond.methodLink RX4 235 yX4_failAsTold ∈ lw_good := lw_t4 (i := 17) (by decide +kernel) (by decide +kernel)
theorem tw739 : Cond.instanceMethod yX4_failAsTold ∈ lw_good := lw_t4 (i := 19) (by decide +kernel) (by decide +kernel)
theorem tw740 : Cond.code yX4_failAsTold prog_6_method_23_code 1 none ∈ lw_good := lw_t4 (i := 20) (by decide +kernel) (by decide +kernel)
theorem tw741 : Cond.methodLink RX4 100 yX4_passFaultOn ∈ lw_good := lw_t4 (i := 21) (by decide +kernel) (by decide +kernel)
theorem tw743 : Cond.instanceMethod yX4_passFaultOn ∈ lw_good := lw_t4 (i := 23) (by decide +kernel) (by decide +kernel)
theorem tw744 : Cond.code yX4_passFaultOn prog_6_method_11_code 4 none ∈ lw_good := lw_t4 (i := 24) (by decide +kernel) (by decide +kernel)
theorem tw745 : Cond.methodLink RX4 130 yX2_codeAt ∈ lw_good := lw_t4 (i := 25) (by decide +kernel) (by decide +kernel)
theorem tw746 : Cond.instanceMethod yX2_codeAt ∈ lw_good := lw_t4 (i := 26) (by decide +kernel) (by decide +kernel)
theorem tw747 : Cond.selects RX2 yX2_codeAt yX2_codeAt ∈ lw_good := lw_t4 (i := 27) (by decide +kernel) (by decide +kernel)
theorem tw748 : Cond.code yX2_codeAt prog_4_method_3_code 2 (some .int) ∈ lw_good := lw_t4 (i := 28) (by decide +kernel) (by decide +kernel)
theorem tw749 : Cond.methodLink RX4 238 yX4_isCaught ∈ lw_good := lw_t4 (i := 29) (by decide +kernel) (by decide +kernel)
theorem tw750 : Cond.static yX4_isCaught ∈ lw_good := lw_t4 (i := 30) (by decide +kernel) (by decide +kernel)
theorem tw751 : Cond.code yX4_isCaught prog_6_method_12_code 1 (some .boolean) ∈ lw_good := lw_t4 (i := 31) (by decide +kernel) (by decide +kernel)
theorem tw752 : Cond.methodLink RX4 103 yX4_tellEnding ∈ lw_good := lw_t4 (i := 32) (by decide +kernel) (by decide +kernel)
theorem tw754 : Cond.instanceMethod yX4_tellEnding ∈ lw_good := lw_t4 (i := 34) (by decide +kernel) (by decide +kernel)
theorem tw755 : Cond.code yX4_tellEnding prog_6_method_5_code 1 none ∈ lw_good := lw_t4 (i := 35) (by decide +kernel) (by decide +kernel)
theorem tw756 : Cond.methodLink RX9 111 yX6_keepRun ∈ lw_good := lw_t4 (i := 36) (by decide +kernel) (by decide +kernel)
theorem tw757 : Cond.instanceMethod yX6_keepRun ∈ lw_good := lw_t4 (i := 37) (by decide +kernel) (by decide +kernel)
theorem tw758 : Cond.selects RX6 yX6_keepRun yX6_keepRun ∈ lw_good := lw_t4 (i := 38) (by decide +kernel) (by decide +kernel)
theorem tw759 : Cond.code yX6_keepRun prog_8_method_3_code 3 none ∈ lw_good := lw_t4 (i := 39) (by decide +kernel) (by decide +kernel)
theorem tw761 : Cond.methodLink RX6 55 yX0_copyFrom ∈ lw_good := lw_t4 (i := 41) (by decide +kernel) (by decide +kernel)
theorem tw762 : Cond.methodLink RX6 59 yX2_copyFrom ∈ lw_good := lw_t4 (i := 42) (by decide +kernel) (by decide +kernel)
theorem tw763 : Cond.instanceMethod yX2_copyFrom ∈ lw_good := lw_t4 (i := 43) (by decide +kernel) (by decide +kernel)
theorem tw764 : Cond.selects RX2 yX2_copyFrom yX2_copyFrom ∈ lw_good := lw_t4 (i := 44) (by decide +kernel) (by decide +kernel)
theorem tw765 : Cond.code yX2_copyFrom prog_4_method_5_code 2 none ∈ lw_good := lw_t4 (i := 45) (by decide +kernel) (by decide +kernel)
theorem tw766 : Cond.methodLink RX6 62 yJ9_min_7cf53 ∈ lw_good := lw_t4 (i := 46) (by decide +kernel) (by decide +kernel)
theorem tw767 : Cond.methodLink RL 36 yX9_ended ∈ lw_good := lw_t4 (i := 47) (by decide +kernel) (by decide +kernel)
theorem tw768 : Cond.instanceMethod yX9_ended ∈ lw_good := lw_t4 (i := 48) (by decide +kernel) (by decide +kernel)
theorem tw769 : Cond.selects RX9 yX9_ended yX9_ended ∈ lw_good := lw_t4 (i := 49) (by decide +kernel) (by decide +kernel)
theorem tw770 : Cond.code yX9_ended prog_1_method_7_code 2 (some .int) ∈ lw_good := lw_t4 (i := 50) (by decide +kernel) (by decide +kernel)
theorem tw771 : Cond.methodLink RX9 124 yX9_isOfEnding ∈ lw_good := lw_t4 (i := 51) (by decide +kernel) (by decide +kernel)
theorem tw772 : Cond.static yX9_isOfEnding ∈ lw_good := lw_t4 (i := 52) (by decide +kernel) (by decide +kernel)
theorem tw773 : Cond.code yX9_isOfEnding prog_1_method_36_code 1 (some .boolean) ∈ lw_good := lw_t4 (i := 53) (by decide +kernel) (by decide +kernel)
theorem tw774 : Cond.methodLink RX9 130 yX2_tell ∈ lw_good := lw_t4 (i := 54) (by decide +kernel) (by decide +kernel)
theorem tw775 : Cond.instanceMethod yX2_tell ∈ lw_good := lw_t4 (i := 55) (by decide +kernel) (by decide +kernel)
theorem tw776 : Cond.selects RX2 yX2_tell yX2_tell ∈ lw_good := lw_t4 (i := 56) (by decide +kernel) (by decide +kernel)
theorem tw777 : Cond.code yX2_tell prog_4_method_2_code 2 (some .int) ∈ lw_good := lw_t4 (i := 57) (by decide +kernel) (by decide +kernel)
theorem tw778 : Cond.methodLink RL 40 yX9_code ∈ lw_good := lw_t4 (i := 58) (by decide +kernel) (by decide +kernel)
theorem tw779 : Cond.instanceMethod yX9_code ∈ lw_good := lw_t4 (i := 59) (by decide +kernel) (by decide +kernel)
theorem tw780 : Cond.selects RX9 yX9_code yX9_code ∈ lw_good := lw_t4 (i := 60) (by decide +kernel) (by decide +kernel)
theorem tw781 : Cond.code yX9_code prog_1_method_8_code 2 (some .int) ∈ lw_good := lw_t4 (i := 61) (by decide +kernel) (by decide +kernel)
theorem tw782 : Cond.methodLink RX9 136 yX2_codeAt ∈ lw_good := lw_t4 (i := 62) (by decide +kernel) (by decide +kernel)
theorem tw783 : Cond.methodLink RL 44 yX9_cache ∈ lw_good := lw_t4 (i := 63) (by decide +kernel) (by decide +kernel)
theorem tw784 : Cond.instanceMethod yX9_cache ∈ lw_good := lw_t4 (i := 64) (by decide +kernel) (by decide +kernel)
theorem tw785 : Cond.selects RX9 yX9_cache yX9_cache ∈ lw_good := lw_t4 (i := 65) (by decide +kernel) (by decide +kernel)
theorem tw786 : Cond.code yX9_cache prog_1_method_9_code 3 (some .int) ∈ lw_good := lw_t4 (i := 66) (by decide +kernel) (by decide +kernel)
theorem tw787 : Cond.methodLink RX9 146 yX0_tell ∈ lw_good := lw_t4 (i := 67) (by decide +kernel) (by decide +kernel)
theorem tw788 : Cond.instanceMethod yX0_tell ∈ lw_good := lw_t4 (i := 68) (by decide +kernel) (by decide +kernel)
theorem tw789 : Cond.selects RX0 yX0_tell yX0_tell ∈ lw_good := lw_t4 (i := 69) (by decide +kernel) (by decide +kernel)
theorem tw790 : Cond.code yX0_tell prog_2_method_4_code 3 (some .int) ∈ lw_good := lw_t4 (i := 70) (by decide +kernel) (by decide +kernel)
theorem tw791 : Cond.methodLink RX0 41 yX0_stateOf ∈ lw_good := lw_t4 (i := 71) (by decide +kernel) (by decide +kernel)
theorem tw792 : Cond.instanceMethod yX0_stateOf ∈ lw_good := lw_t4 (i := 72) (by decide +kernel) (by decide +kernel)
theorem tw793 : Cond.selects RX0 yX0_stateOf yX0_stateOf ∈ lw_good := lw_t4 (i := 73) (by decide +kernel) (by decide +kernel)
theorem tw794 : Cond.code yX0_stateOf prog_2_method_3_code 2 (some .int) ∈ lw_good := lw_t4 (i := 74) (by decide +kernel) (by decide +kernel)
theorem tw795 : Cond.methodLink RX0 35 yJ9_min_7cf53 ∈ lw_good := lw_t4 (i := 75) (by decide +kernel) (by decide +kernel)
theorem tw796 : Cond.methodLink RL 48 yX9_thinks ∈ lw_good := lw_t4 (i := 76) (by decide +kernel) (by decide +kernel)
theorem tw797 : Cond.instanceMethod yX9_thinks ∈ lw_good := lw_t4 (i := 77) (by decide +kernel) (by decide +kernel)
theorem tw798 : Cond.selects RX9 yX9_thinks yX9_thinks ∈ lw_good := lw_t4 (i := 78) (by decide +kernel) (by decide +kernel)
theorem tw799 : Cond.code yX9_thinks prog_1_method_10_code 2 (some .int) ∈ lw_good := lw_t4 (i := 79) (by decide +kernel) (by decide +kernel)
theorem tw800 : Cond.methodLink RL 52 yX9_with ∈ lw_good := lw_t4 (i := 80) (by decide +kernel) (by decide +kernel)
theorem tw801 : Cond.instanceMethod yX9_with ∈ lw_good := lw_t4 (i := 81) (by decide +kernel) (by decide +kernel)
theorem tw802 : Cond.selects RX9 yX9_with yX9_with ∈ lw_good := lw_t4 (i := 82) (by decide +kernel) (by decide +kernel)
theorem tw803 : Cond.code yX9_with prog_1_method_11_code 5 (some .int) ∈ lw_good := lw_t4 (i := 83) (by decide +kernel) (by decide +kernel)
theorem tw804 : Cond.methodLink RX9 150 yX9_thinkWith ∈ lw_good := lw_t4 (i := 84) (by decide +kernel) (by decide +kernel)
theorem tw806 : Cond.instanceMethod yX9_thinkWith ∈ lw_good := lw_t4 (i := 86) (by decide +kernel) (by decide +kernel)
theorem tw807 : Cond.code yX9_thinkWith prog_1_method_28_code 3 (some (.object "ClosuresThatBounce$Ending")) ∈ lw_good := lw_t4 (i := 87) (by decide +kernel) (by decide +kernel)
theorem tw808 : Cond.methodLink RL 57 yX9_solve ∈ lw_good := lw_t4 (i := 88) (by decide +kernel) (by decide +kernel)
theorem tw809 : Cond.instanceMethod yX9_solve ∈ lw_good := lw_t4 (i := 89) (by decide +kernel) (by decide +kernel)
theorem tw810 : Cond.selects RX9 yX9_solve yX9_solve ∈ lw_good := lw_t4 (i := 90) (by decide +kernel) (by decide +kernel)
theorem tw811 : Cond.code yX9_solve prog_1_method_12_code 5 (some .int) ∈ lw_good := lw_t4 (i := 91) (by decide +kernel) (by decide +kernel)
theorem tw812 : Cond.methodLink RX9 154 yX2_isNumber ∈ lw_good := lw_t4 (i := 92) (by decide +kernel) (by decide +kernel)
theorem tw813 : Cond.instanceMethod yX2_isNumber ∈ lw_good := lw_t4 (i := 93) (by decide +kernel) (by decide +kernel)
theorem tw814 : Cond.selects RX2 yX2_isNumber yX2_isNumber ∈ lw_good := lw_t4 (i := 94) (by decide +kernel) (by decide +kernel)
theorem tw815 : Cond.code yX2_isNumber prog_4_method_4_code 2 (some .boolean) ∈ lw_good := lw_t4 (i := 95) (by decide +kernel) (by decide +kernel)
theorem tw816 : Cond.constant RX9 157 (999999999 : Int32) ∈ lw_good := lw_t4 (i := 96) (by decide +kernel) (by decide +kernel)
theorem tw817 : Cond.methodLink RL 61 yX9_fewest ∈ lw_good := lw_t4 (i := 97) (by decide +kernel) (by decide +kernel)
theorem tw818 : Cond.instanceMethod yX9_fewest ∈ lw_good := lw_t4 (i := 98) (by decide +kernel) (by decide +kernel)
theorem tw819 : Cond.selects RX9 yX9_fewest yX9_fewest ∈ lw_good := lw_t4 (i := 99) (by decide +kernel) (by decide +kernel)
theorem tw820 : Cond.code yX9_fewest prog_1_method_13_code 7 (some .int) ∈ lw_good := lw_t4 (i := 100) (by decide +kernel) (by decide +kernel)
theorem tw821 : Cond.methodLink RL 65 yX9_pure ∈ lw_good := lw_t4 (i := 101) (by decide +kernel) (by decide +kernel)
theorem tw822 : Cond.instanceMethod yX9_pure ∈ lw_good := lw_t4 (i := 102) (by decide +kernel) (by decide +kernel)
theorem tw823 : Cond.selects RX9 yX9_pure yX9_pure ∈ lw_good := lw_t4 (i := 103) (by decide +kernel) (by decide +kernel)
theorem tw824 : Cond.code yX9_pure prog_1_method_14_code 5 (some .int) ∈ lw_good := lw_t4 (i := 104) (by decide +kernel) (by decide +kernel)
theorem tw825 : Cond.methodLink RX9 168 yX9_sameRows ∈ lw_good := lw_t4 (i := 105) (by decide +kernel) (by decide +kernel)
theorem tw826 : Cond.static yX9_sameRows ∈ lw_good := lw_t4 (i := 106) (by decide +kernel) (by decide +kernel)
theorem tw827 : Cond.code yX9_sameRows prog_1_method_41_code 3 (some .boolean) ∈ lw_good := lw_t4 (i := 107) (by decide +kernel) (by decide +kernel)
theorem tw828 : Cond.methodLink RL 69 yX9_changes ∈ lw_good := lw_t4 (i := 108) (by decide +kernel) (by decide +kernel)
theorem tw829 : Cond.instanceMethod yX9_changes ∈ lw_good := lw_t4 (i := 109) (by decide +kernel) (by decide +kernel)
theorem tw830 : Cond.selects RX9 yX9_changes yX9_changes ∈ lw_good := lw_t4 (i := 110) (by decide +kernel) (by decide +kernel)
theorem tw831 : Cond.code yX9_changes prog_1_method_15_code 3 (some .int) ∈ lw_good := lw_t4 (i := 111) (by decide +kernel) (by decide +kernel)
theorem tw832 : Cond.methodLink RX9 173 yX0_stateOf ∈ lw_good := lw_t4 (i := 112) (by decide +kernel) (by decide +kernel)
theorem tw833 : Cond.methodLink RL 73 yX9_again ∈ lw_good := lw_t4 (i := 113) (by decide +kernel) (by decide +kernel)
theorem tw834 : Cond.instanceMethod yX9_again ∈ lw_good := lw_t4 (i := 114) (by decide +kernel) (by decide +kernel)
theorem tw835 : Cond.selects RX9 yX9_again yX9_again ∈ lw_good := lw_t4 (i := 115) (by decide +kernel) (by decide +kernel)
theorem tw836 : Cond.code yX9_again prog_1_method_16_code 6 (some .int) ∈ lw_good := lw_t4 (i := 116) (by decide +kernel) (by decide +kernel)
theorem tw837 : Cond.methodLink RX9 176 yX9_refusalOfMany ∈ lw_good := lw_t4 (i := 117) (by decide +kernel) (by decide +kernel)
theorem tw838 : Cond.static yX9_refusalOfMany ∈ lw_good := lw_t4 (i := 118) (by decide +kernel) (by decide +kernel)
theorem tw839 : Cond.code yX9_refusalOfMany prog_1_method_34_code 4 (some .int) ∈ lw_good := lw_t4 (i := 119) (by decide +kernel) (by decide +kernel)
theorem tw840 : Cond.methodLink RL 77 yX9_likely ∈ lw_good := lw_t4 (i := 120) (by decide +kernel) (by decide +kernel)
theorem tw841 : Cond.instanceMethod yX9_likely ∈ lw_good := lw_t4 (i := 121) (by decide +kernel) (by decide +kernel)
theorem tw842 : Cond.selects RX9 yX9_likely yX9_likely ∈ lw_good := lw_t4 (i := 122) (by decide +kernel) (by decide +kernel)
theorem tw843 : Cond.code yX9_likely prog_1_method_17_code 11 (some .long) ∈ lw_good := lw_t4 (i := 123) (by decide +kernel) (by decide +kernel)
theorem tw844 : Cond.methodLink RX9 184 yX9_refuseLong ∈ lw_good := lw_t4 (i := 124) (by decide +kernel) (by decide +kernel)
theorem tw846 : Cond.instanceMethod yX9_refuseLong ∈ lw_good := lw_t4 (i := 126) (by decide +kernel) (by decide +kernel)
theorem tw847 : Cond.code yX9_refuseLong prog_1_method_32_code 2 (some .long) ∈ lw_good := lw_t4 (i := 127) (by decide +kernel) (by decide +kernel)
theorem tw848 : Cond.constantLong RX9 219 (4000000000000000000 : Int64) ∈ lw_good := lw_t4 (i := 128) (by decide +kernel) (by decide +kernel)
theorem tw849 : Cond.methodLink RX9 188 yX9_partOfFraction ∈ lw_good := lw_t4 (i := 129) (by decide +kernel) (by decide +kernel)
theorem tw850 : Cond.static yX9_partOfFraction ∈ lw_good := lw_t4 (i := 130) (by decide +kernel) (by decide +kernel)
theorem tw851 : Cond.code yX9_partOfFraction prog_1_method_39_code 7 (some .long) ∈ lw_good := lw_t4 (i := 131) (by decide +kernel) (by decide +kernel)
theorem tw852 : Cond.methodLink RX9 224 yX9_greatestDivisor ∈ lw_good := lw_t4 (i := 132) (by decide +kernel) (by decide +kernel)
theorem tw853 : Cond.static yX9_greatestDivisor ∈ lw_good := lw_t4 (i := 133) (by decide +kernel) (by decide +kernel)
theorem tw854 : Cond.code yX9_greatestDivisor prog_1_method_40_code 11 (some .long) ∈ lw_good := lw_t4 (i := 134) (by decide +kernel) (by decide +kernel)
theorem tw855 : Cond.methodLink RL 82 yX9_mean ∈ lw_good := lw_t4 (i := 135) (by decide +kernel) (by decide +kernel)
theorem tw856 : Cond.instanceMethod yX9_mean ∈ lw_good := lw_t4 (i := 136) (by decide +kernel) (by decide +kernel)
theorem tw857 : Cond.selects RX9 yX9_mean yX9_mean ∈ lw_good := lw_t4 (i := 137) (by decide +kernel) (by decide +kernel)
theorem tw858 : Cond.code yX9_mean prog_1_method_18_code 6 (some .long) ∈ lw_good := lw_t4 (i := 138) (by decide +kernel) (by decide +kernel)
theorem tw859 : Cond.constantLong RX9 192 (10 : Int64) ∈ lw_good := lw_t4 (i := 139) (by decide +kernel) (by decide +kernel)
theorem tw860 : Cond.methodLink RL 86 yX9_whatIs ∈ lw_good := lw_t4 (i := 140) (by decide +kernel) (by decide +kernel)
theorem tw861 : Cond.instanceMethod yX9_whatIs ∈ lw_good := lw_t4 (i := 141) (by decide +kernel) (by decide +kernel)
theorem tw862 : Cond.selects RX9 yX9_whatIs yX9_whatIs ∈ lw_good := lw_t4 (i := 142) (by decide +kernel) (by decide +kernel)
theorem tw863 : Cond.code yX9_whatIs prog_1_method_19_code 5 (some .int) ∈ lw_good := lw_t4 (i := 143) (by decide +kernel) (by decide +kernel)
theorem tw864 : Cond.methodLink RX9 194 yX9_rowTellsEndsFrom ∈ lw_good := lw_t4 (i := 144) (by decide +kernel) (by decide +kernel)
theorem tw866 : Cond.instanceMethod yX9_rowTellsEndsFrom ∈ lw_good := lw_t4 (i := 146) (by decide +kernel) (by decide +kernel)
theorem tw867 : Cond.code yX9_rowTellsEndsFrom prog_1_method_29_code 3 (some .boolean) ∈ lw_good := lw_t4 (i := 147) (by decide +kernel) (by decide +kernel)
theorem tw868 : Cond.methodLink RL 90 yX9_row ∈ lw_good := lw_t4 (i := 148) (by decide +kernel) (by decide +kernel)
theorem tw869 : Cond.instanceMethod yX9_row ∈ lw_good := lw_t4 (i := 149) (by decide +kernel) (by decide +kernel)
theorem tw870 : Cond.selects RX9 yX9_row yX9_row ∈ lw_good := lw_t4 (i := 150) (by decide +kernel) (by decide +kernel)
theorem tw871 : Cond.code yX9_row prog_1_method_20_code 2 (some .int) ∈ lw_good := lw_t4 (i := 151) (by decide +kernel) (by decide +kernel)
theorem tw872 : Cond.methodLink RL 94 yX9_judge ∈ lw_good := lw_t4 (i := 152) (by decide +kernel) (by decide +kernel)
theorem tw873 : Cond.instanceMethod yX9_judge ∈ lw_good := lw_t4 (i := 153) (by decide +kernel) (by decide +kernel)
theorem tw874 : Cond.selects RX9 yX9_judge yX9_judge ∈ lw_good := lw_t4 (i := 154) (by decide +kernel) (by decide +kernel)
theorem tw875 : Cond.code yX9_judge prog_1_method_21_code 3 (some .int) ∈ lw_good := lw_t4 (i := 155) (by decide +kernel) (by decide +kernel)
theorem tw876 : Cond.methodLink RL 98 yX9_clear ∈ lw_good := lw_t4 (i := 156) (by decide +kernel) (by decide +kernel)
theorem tw877 : Cond.instanceMethod yX9_clear ∈ lw_good := lw_t4 (i := 157) (by decide +kernel) (by decide +kernel)
theorem tw878 : Cond.selects RX9 yX9_clear yX9_clear ∈ lw_good := lw_t4 (i := 158) (by decide +kernel) (by decide +kernel)
theorem tw879 : Cond.code yX9_clear prog_1_method_22_code 2 (some .int) ∈ lw_good := lw_t4 (i := 159) (by decide +kernel) (by decide +kernel)
theorem tw880 : Cond.methodLink RL 102 yX9_lots ∈ lw_good := lw_t4 (i := 160) (by decide +kernel) (by decide +kernel)
theorem tw881 : Cond.instanceMethod yX9_lots ∈ lw_good := lw_t4 (i := 161) (by decide +kernel) (by decide +kernel)
theorem tw882 : Cond.selects RX9 yX9_lots yX9_lots ∈ lw_good := lw_t4 (i := 162) (by decide +kernel) (by decide +kernel)
theorem tw883 : Cond.code yX9_lots prog_1_method_23_code 10 (some .int) ∈ lw_good := lw_t4 (i := 163) (by decide +kernel) (by decide +kernel)
theorem tw884 : Cond.methodLink RX9 197 yX9_nextSeed ∈ lw_good := lw_t4 (i := 164) (by decide +kernel) (by decide +kernel)
theorem tw885 : Cond.static yX9_nextSeed ∈ lw_good := lw_t4 (i := 165) (by decide +kernel) (by decide +kernel)
theorem tw886 : Cond.code yX9_nextSeed prog_1_method_37_code 1 (some .int) ∈ lw_good := lw_t4 (i := 166) (by decide +kernel) (by decide +kernel)
theorem tw887 : Cond.constant RX9 221 (1664525 : Int32) ∈ lw_good := lw_t4 (i := 167) (by decide +kernel) (by decide +kernel)
theorem tw888 : Cond.constant RX9 222 (1013904223 : Int32) ∈ lw_good := lw_t4 (i := 168) (by decide +kernel) (by decide +kernel)
theorem tw889 : Cond.methodLink RX9 200 yX9_drawOf ∈ lw_good := lw_t4 (i := 169) (by decide +kernel) (by decide +kernel)
theorem tw890 : Cond.static yX9_drawOf ∈ lw_good := lw_t4 (i := 170) (by decide +kernel) (by decide +kernel)
theorem tw891 : Cond.code yX9_drawOf prog_1_method_38_code 1 (some .int) ∈ lw_good := lw_t4 (i := 171) (by decide +kernel) (by decide +kernel)
theorem tw892 : Cond.constant RX9 223 (2147483647 : Int32) ∈ lw_good := lw_t4 (i := 172) (by decide +kernel) (by decide +kernel)
theorem tw893 : Cond.methodLink RL 106 yX9_image ∈ lw_good := lw_t4 (i := 173) (by decide +kernel) (by decide +kernel)
theorem tw894 : Cond.instanceMethod yX9_image ∈ lw_good := lw_t4 (i := 174) (by decide +kernel) (by decide +kernel)
theorem tw895 : Cond.selects RX9 yX9_image yX9_image ∈ lw_good := lw_t4 (i := 175) (by decide +kernel) (by decide +kernel)
theorem tw896 : Cond.code yX9_image prog_1_method_24_code 1 (some .int) ∈ lw_good := lw_t4 (i := 176) (by decide +kernel) (by decide +kernel)
theorem tw897 : Cond.methodLink RX9 203 yX6_copyFrom ∈ lw_good := lw_t4 (i := 177) (by decide +kernel) (by decide +kernel)
theorem tw898 : Cond.instanceMethod yX6_copyFrom ∈ lw_good := lw_t4 (i := 178) (by decide +kernel) (by decide +kernel)
theorem tw899 : Cond.selects RX6 yX6_copyFrom yX6_copyFrom ∈ lw_good := lw_t4 (i := 179) (by decide +kernel) (by decide +kernel)
theorem tw900 : Cond.code yX6_copyFrom prog_8_method_4_code 2 none ∈ lw_good := lw_t4 (i := 180) (by decide +kernel) (by decide +kernel)
theorem tw901 : Cond.methodLink RX6 68 yX5_copyFrom ∈ lw_good := lw_t4 (i := 181) (by decide +kernel) (by decide +kernel)
theorem tw902 : Cond.instanceMethod yX5_copyFrom ∈ lw_good := lw_t4 (i := 182) (by decide +kernel) (by decide +kernel)
theorem tw903 : Cond.selects RX5 yX5_copyFrom yX5_copyFrom ∈ lw_good := lw_t4 (i := 183) (by decide +kernel) (by decide +kernel)
theorem tw904 : Cond.code yX5_copyFrom prog_7_method_13_code 2 none ∈ lw_good := lw_t4 (i := 184) (by decide +kernel) (by decide +kernel)
theorem tw906 : Cond.methodLink RL 110 yX9_on ∈ lw_good := lw_t4 (i := 186) (by decide +kernel) (by decide +kernel)
theorem tw907 : Cond.instanceMethod yX9_on ∈ lw_good := lw_t4 (i := 187) (by decide +kernel) (by decide +kernel)
theorem tw908 : Cond.selects RX9 yX9_on yX9_on ∈ lw_good := lw_t4 (i := 188) (by decide +kernel) (by decide +kernel)
theorem tw909 : Cond.code yX9_on prog_1_method_25_code 1 (some .int) ∈ lw_good := lw_t4 (i := 189) (by decide +kernel) (by decide +kernel)
theorem tw910 : Cond.methodLink RL 114 yX9_count ∈ lw_good := lw_t4 (i := 190) (by decide +kernel) (by decide +kernel)
theorem tw911 : Cond.instanceMethod yX9_count ∈ lw_good := lw_t4 (i := 191) (by decide +kernel) (by decide +kernel)
theorem tw912 : Cond.selects RX9 yX9_count yX9_count ∈ lw_good := lw_t4 (i := 192) (by decide +kernel) (by decide +kernel)
theorem tw913 : Cond.code yX9_count prog_1_method_26_code 2 (some .int) ∈ lw_good := lw_t4 (i := 193) (by decide +kernel) (by decide +kernel)
theorem tw914 : Cond.methodLink RX9 206 yX0_allHits ∈ lw_good := lw_t4 (i := 194) (by decide +kernel) (by decide +kernel)
theorem tw915 : Cond.instanceMethod yX0_allHits ∈ lw_good := lw_t4 (i := 195) (by decide +kernel) (by decide +kernel)
theorem tw916 : Cond.selects RX0 yX0_allHits yX0_allHits ∈ lw_good := lw_t4 (i := 196) (by decide +kernel) (by decide +kernel)
theorem tw917 : Cond.code yX0_allHits prog_2_method_5_code 1 (some .int) ∈ lw_good := lw_t4 (i := 197) (by decide +kernel) (by decide +kernel)
theorem tw918 : Cond.methodLink RX0 44 yX0_sumOf ∈ lw_good := lw_t4 (i := 198) (by decide +kernel) (by decide +kernel)
theorem tw919 : Cond.static yX0_sumOf ∈ lw_good := lw_t4 (i := 199) (by decide +kernel) (by decide +kernel)
theorem tw920 : Cond.code yX0_sumOf prog_2_method_7_code 6 (some .int) ∈ lw_good := lw_t4 (i := 200) (by decide +kernel) (by decide +kernel)
theorem tw921 : Cond.methodLink RX9 209 yX0_allMisses ∈ lw_good := lw_t4 (i := 201) (by decide +kernel) (by decide +kernel)
theorem tw922 : Cond.instanceMethod yX0_allMisses ∈ lw_good := lw_t4 (i := 202) (by decide +kernel) (by decide +kernel)
theorem tw923 : Cond.selects RX0 yX0_allMisses yX0_allMisses ∈ lw_good := lw_t4 (i := 203) (by decide +kernel) (by decide +kernel)
theorem tw924 : Cond.code yX0_allMisses prog_2_method_6_code 1 (some .int) ∈ lw_good := lw_t4 (i := 204) (by decide +kernel) (by decide +kernel)
theorem tw925 : Cond.classLink RL 10 "ClosuresThatBounceModel" ∈ lw_good := lw_t4 (i := 205) (by decide +kernel) (by decide +kernel)
theorem tw926 : Cond.instantiable RX10 75 ∈ lw_good := lw_t4 (i := 206) (by decide +kernel) (by decide +kernel)
theorem tw927 : Cond.methodLink RL 12 yX10_init ∈ lw_good := lw_t4 (i := 207) (by decide +kernel) (by decide +kernel)
theorem tw928 : Cond.instanceMethod yX10_init ∈ lw_good := lw_t4 (i := 208) (by decide +kernel) (by decide +kernel)
theorem tw929 : Cond.code yX10_init prog_12_method_1_code 1 none ∈ lw_good := lw_t4 (i := 209) (by decide +kernel) (by decide +kernel)
theorem tw930 : Cond.methodLink RX10 1 objectInit ∈ lw_good := lw_t4 (i := 210) (by decide +kernel) (by decide +kernel)
theorem tw931 : Cond.methodLink RX10 128 yX10_builds ∈ lw_good := lw_t4 (i := 211) (by decide +kernel) (by decide +kernel)
theorem tw933 : Cond.instanceMethod yX10_builds ∈ lw_good := lw_t4 (i := 213) (by decide +kernel) (by decide +kernel)
theorem tw934 : Cond.code yX10_builds prog_12_method_18_code 4 none ∈ lw_good := lw_t4 (i := 214) (by decide +kernel) (by decide +kernel)
theorem tw935 : Cond.methodLink RX10 195 yX10_buildsOne ∈ lw_good := lw_t4 (i := 215) (by decide +kernel) (by decide +kernel)
theorem tw937 : Cond.instanceMethod yX10_buildsOne ∈ lw_good := lw_t4 (i := 217) (by decide +kernel) (by decide +kernel)
theorem tw938 : Cond.code yX10_buildsOne prog_12_method_17_code 3 none ∈ lw_good := lw_t4 (i := 218) (by decide +kernel) (by decide +kernel)
theorem tw939 : Cond.methodLink RX10 185 yX10_pops ∈ lw_good := lw_t4 (i := 219) (by decide +kernel) (by decide +kernel)
theorem tw941 : Cond.instanceMethod yX10_pops ∈ lw_good := lw_t4 (i := 221) (by decide +kernel) (by decide +kernel)
theorem tw942 : Cond.code yX10_pops prog_12_method_16_code 1 (some .int) ∈ lw_good := lw_t4 (i := 222) (by decide +kernel) (by decide +kernel)
theorem tw943 : Cond.methodLink RX10 134 yX10_isIn ∈ lw_good := lw_t4 (i := 223) (by decide +kernel) (by decide +kernel)
theorem tw944 : Cond.static yX10_isIn ∈ lw_good := lw_t4 (i := 224) (by decide +kernel) (by decide +kernel)
theorem tw945 : Cond.code yX10_isIn prog_12_method_5_code 3 (some .boolean) ∈ lw_good := lw_t4 (i := 225) (by decide +kernel) (by decide +kernel)
theorem tw946 : Cond.methodLink RX10 156 yX10_manyOf ∈ lw_good := lw_t4 (i := 226) (by decide +kernel) (by decide +kernel)
theorem tw947 : Cond.static yX10_manyOf ∈ lw_good := lw_t4 (i := 227) (by decide +kernel) (by decide +kernel)
theorem tw948 : Cond.code yX10_manyOf prog_12_method_12_code 1 (some .int) ∈ lw_good := lw_t4 (i := 228) (by decide +kernel) (by decide +kernel)
theorem tw949 : Cond.methodLink RX10 172 yX10_isSite ∈ lw_good := lw_t4 (i := 229) (by decide +kernel) (by decide +kernel)
theorem tw950 : Cond.static yX10_isSite ∈ lw_good := lw_t4 (i := 230) (by decide +kernel) (by decide +kernel)
theorem tw951 : Cond.code yX10_isSite prog_12_method_11_code 1 (some .boolean) ∈ lw_good := lw_t4 (i := 231) (by decide +kernel) (by decide +kernel)
theorem tw952 : Cond.fieldLink RX10 7 "ClosuresThatBounceModel" "refused" "[I" ∈ lw_good := lw_t4 (i := 232) (by decide +kernel) (by decide +kernel)
theorem tw953 : Cond.fieldLink RX10 13 "ClosuresThatBounceModel" "sign" "[I" ∈ lw_good := lw_t4 (i := 233) (by decide +kernel) (by decide +kernel)
theorem tw954 : Cond.fieldLink RX10 16 "ClosuresThatBounceModel" "one" "[I" ∈ lw_good := lw_t4 (i := 234) (by decide +kernel) (by decide +kernel)
theorem tw955 : Cond.fieldLink RX10 19 "ClosuresThatBounceModel" "two" "[I" ∈ lw_good := lw_t4 (i := 235) (by decide +kernel) (by decide +kernel)
theorem tw956 : Cond.fieldLink RX10 22 "ClosuresThatBounceModel" "three" "[I" ∈ lw_good := lw_t4 (i := 236) (by decide +kernel) (by decide +kernel)
theorem tw957 : Cond.fieldLink RX10 25 "ClosuresThatBounceModel" "own" "[I" ∈ lw_good := lw_t4 (i := 237) (by decide +kernel) (by decide +kernel)
theorem tw958 : Cond.fieldLink RX10 125 "ClosuresThatBounceModel" "expressions" "I" ∈ lw_good := lw_t4 (i := 238) (by decide +kernel) (by decide +kernel)
theorem tw959 : Cond.fieldLink RX10 192 "ClosuresThatBounceModel" "sites" "I" ∈ lw_good := lw_t4 (i := 239) (by decide +kernel) (by decide +kernel)
theorem tw960 : Cond.fieldLink RX10 199 "ClosuresThatBounceModel" "theProgram" "I" ∈ lw_good := lw_t5 (i := 0) (by decide +kernel) (by decide +kernel)
theorem tw961 : Cond.fieldLink RX10 28 "ClosuresThatBounceModel" "tape" "[I" ∈ lw_good := lw_t5 (i := 1) (by decide +kernel) (by decide +kernel)
theorem tw962 : Cond.fieldLink RX10 31 "ClosuresThatBounceModel" "programText" "[I" ∈ lw_good := lw_t5 (i := 2) (by decide +kernel) (by decide +kernel)
theorem tw963 : Cond.fieldLink RX10 34 "ClosuresThatBounceModel" "programBinder" "[I" ∈ lw_good := lw_t5 (i := 3) (by decide +kernel) (by decide +kernel)
theorem tw964 : Cond.fieldLink RX10 37 "ClosuresThatBounceModel" "isBinder" "[I" ∈ lw_good := lw_t5 (i := 4) (by decide +kernel) (by decide +kernel)
theorem tw965 : Cond.fieldLink RX10 40 "ClosuresThatBounceModel" "awaited" "[I" ∈ lw_good := lw_t5 (i := 5) (by decide +kernel) (by decide +kernel)
theorem tw966 : Cond.fieldLink RX10 43 "ClosuresThatBounceModel" "pile" "[I" ∈ lw_good := lw_t5 (i := 6) (by decide +kernel) (by decide +kernel)
theorem tw967 : Cond.fieldLink RX10 142 "ClosuresThatBounceModel" "taped" "I" ∈ lw_good := lw_t5 (i := 7) (by decide +kernel) (by decide +kernel)
theorem tw968 : Cond.fieldLink RX10 122 "ClosuresThatBounceModel" "programMany" "I" ∈ lw_good := lw_t5 (i := 8) (by decide +kernel) (by decide +kernel)
theorem tw969 : Cond.fieldLink RX10 159 "ClosuresThatBounceModel" "reading" "I" ∈ lw_good := lw_t5 (i := 9) (by decide +kernel) (by decide +kernel)
theorem tw970 : Cond.fieldLink RX10 166 "ClosuresThatBounceModel" "badAt" "I" ∈ lw_good := lw_t5 (i := 10) (by decide +kernel) (by decide +kernel)
theorem tw971 : Cond.fieldLink RX10 149 "ClosuresThatBounceModel" "waits" "I" ∈ lw_good := lw_t5 (i := 11) (by decide +kernel) (by decide +kernel)
theorem tw972 : Cond.fieldLink RX10 182 "ClosuresThatBounceModel" "piled" "I" ∈ lw_good := lw_t5 (i := 12) (by decide +kernel) (by decide +kernel)
theorem tw973 : Cond.fieldLink RX10 189 "ClosuresThatBounceModel" "siteNow" "I" ∈ lw_good := lw_t5 (i := 13) (by decide +kernel) (by decide +kernel)
theorem tw974 : Cond.fieldLink RX10 169 "ClosuresThatBounceModel" "expressionsTold" "I" ∈ lw_good := lw_t5 (i := 14) (by decide +kernel) (by decide +kernel)
theorem tw975 : Cond.fieldLink RX10 175 "ClosuresThatBounceModel" "sitesTold" "I" ∈ lw_good := lw_t5 (i := 15) (by decide +kernel) (by decide +kernel)
theorem tw976 : Cond.fieldLink RX10 46 "ClosuresThatBounceModel" "globals" "[I" ∈ lw_good := lw_t5 (i := 16) (by decide +kernel) (by decide +kernel)
theorem tw977 : Cond.fieldLink RX10 49 "ClosuresThatBounceModel" "seen" "[I" ∈ lw_good := lw_t5 (i := 17) (by decide +kernel) (by decide +kernel)
theorem tw978 : Cond.fieldLink RX10 52 "ClosuresThatBounceModel" "hits" "[I" ∈ lw_good := lw_t5 (i := 18) (by decide +kernel) (by decide +kernel)
theorem tw979 : Cond.fieldLink RX10 55 "ClosuresThatBounceModel" "misses" "[I" ∈ lw_good := lw_t5 (i := 19) (by decide +kernel) (by decide +kernel)
theorem tw980 : Cond.fieldLink RX10 58 "ClosuresThatBounceModel" "lastCodes" "[I" ∈ lw_good := lw_t5 (i := 20) (by decide +kernel) (by decide +kernel)
theorem tw981 : Cond.fieldLink RX10 61 "ClosuresThatBounceModel" "lastHow" "I" ∈ lw_good := lw_t5 (i := 21) (by decide +kernel) (by decide +kernel)
theorem tw982 : Cond.fieldLink RX10 338 "ClosuresThatBounceModel" "lastNumber" "I" ∈ lw_good := lw_t5 (i := 22) (by decide +kernel) (by decide +kernel)
theorem tw983 : Cond.fieldLink RX10 341 "ClosuresThatBounceModel" "lastSteps" "I" ∈ lw_good := lw_t5 (i := 23) (by decide +kernel) (by decide +kernel)
theorem tw984 : Cond.fieldLink RX10 344 "ClosuresThatBounceModel" "lastDepth" "I" ∈ lw_good := lw_t5 (i := 24) (by decide +kernel) (by decide +kernel)
theorem tw985 : Cond.fieldLink RX10 347 "ClosuresThatBounceModel" "lastBounces" "I" ∈ lw_good := lw_t5 (i := 25) (by decide +kernel) (by decide +kernel)
theorem tw986 : Cond.fieldLink RX10 350 "ClosuresThatBounceModel" "lastCauses" "I" ∈ lw_good := lw_t5 (i := 26) (by decide +kernel) (by decide +kernel)
theorem tw987 : Cond.fieldLink RX10 206 "ClosuresThatBounceModel" "runs" "I" ∈ lw_good := lw_t5 (i := 27) (by decide +kernel) (by decide +kernel)
theorem tw988 : Cond.fieldLink RX10 65 "ClosuresThatBounceModel" "kind" "[I" ∈ lw_good := lw_t5 (i := 28) (by decide +kernel) (by decide +kernel)
theorem tw989 : Cond.fieldLink RX10 68 "ClosuresThatBounceModel" "valueA" "[I" ∈ lw_good := lw_t5 (i := 29) (by decide +kernel) (by decide +kernel)
theorem tw990 : Cond.fieldLink RX10 71 "ClosuresThatBounceModel" "valueB" "[I" ∈ lw_good := lw_t5 (i := 30) (by decide +kernel) (by decide +kernel)
theorem tw991 : Cond.fieldLink RX10 74 "ClosuresThatBounceModel" "valueC" "[I" ∈ lw_good := lw_t5 (i := 31) (by decide +kernel) (by decide +kernel)
theorem tw992 : Cond.fieldLink RX10 77 "ClosuresThatBounceModel" "cell" "[I" ∈ lw_good := lw_t5 (i := 32) (by decide +kernel) (by decide +kernel)
theorem tw993 : Cond.fieldLink RX10 80 "ClosuresThatBounceModel" "frameOf" "[I" ∈ lw_good := lw_t5 (i := 33) (by decide +kernel) (by decide +kernel)
theorem tw994 : Cond.fieldLink RX10 83 "ClosuresThatBounceModel" "frameCell" "[I" ∈ lw_good := lw_t5 (i := 34) (by decide +kernel) (by decide +kernel)
theorem tw995 : Cond.fieldLink RX10 86 "ClosuresThatBounceModel" "frameBelow" "[I" ∈ lw_good := lw_t5 (i := 35) (by decide +kernel) (by decide +kernel)
theorem tw996 : Cond.fieldLink RX10 89 "ClosuresThatBounceModel" "faultCode" "[I" ∈ lw_good := lw_t5 (i := 36) (by decide +kernel) (by decide +kernel)
theorem tw997 : Cond.fieldLink RX10 92 "ClosuresThatBounceModel" "faultCause" "[I" ∈ lw_good := lw_t5 (i := 37) (by decide +kernel) (by decide +kernel)
theorem tw998 : Cond.fieldLink RX10 209 "ClosuresThatBounceModel" "values" "I" ∈ lw_good := lw_t5 (i := 38) (by decide +kernel) (by decide +kernel)
theorem tw999 : Cond.fieldLink RX10 212 "ClosuresThatBounceModel" "cells" "I" ∈ lw_good := lw_t5 (i := 39) (by decide +kernel) (by decide +kernel)
theorem tw1000 : Cond.fieldLink RX10 215 "ClosuresThatBounceModel" "frames" "I" ∈ lw_good := lw_t5 (i := 40) (by decide +kernel) (by decide +kernel)
theorem tw1001 : Cond.fieldLink RX10 218 "ClosuresThatBounceModel" "faults" "I" ∈ lw_good := lw_t5 (i := 41) (by decide +kernel) (by decide +kernel)
theorem tw1002 : Cond.fieldLink RX10 95 "ClosuresThatBounceModel" "madeOf" "[I" ∈ lw_good := lw_t5 (i := 42) (by decide +kernel) (by decide +kernel)
theorem tw1003 : Cond.fieldLink RX10 98 "ClosuresThatBounceModel" "madePhase" "[I" ∈ lw_good := lw_t5 (i := 43) (by decide +kernel) (by decide +kernel)
theorem tw1004 : Cond.fieldLink RX10 101 "ClosuresThatBounceModel" "madeFrame" "[I" ∈ lw_good := lw_t5 (i := 44) (by decide +kernel) (by decide +kernel)
theorem tw1005 : Cond.fieldLink RX10 104 "ClosuresThatBounceModel" "madeEnd" "[I" ∈ lw_good := lw_t5 (i := 45) (by decide +kernel) (by decide +kernel)
theorem tw1006 : Cond.fieldLink RX10 107 "ClosuresThatBounceModel" "madeFirst" "[I" ∈ lw_good := lw_t5 (i := 46) (by decide +kernel) (by decide +kernel)
theorem tw1007 : Cond.fieldLink RX10 243 "ClosuresThatBounceModel" "made" "I" ∈ lw_good := lw_t5 (i := 47) (by decide +kernel) (by decide +kernel)
theorem tw1008 : Cond.fieldLink RX10 221 "ClosuresThatBounceModel" "going" "I" ∈ lw_good := lw_t5 (i := 48) (by decide +kernel) (by decide +kernel)
theorem tw1009 : Cond.fieldLink RX10 224 "ClosuresThatBounceModel" "nowOf" "I" ∈ lw_good := lw_t5 (i := 49) (by decide +kernel) (by decide +kernel)
theorem tw1010 : Cond.fieldLink RX10 227 "ClosuresThatBounceModel" "nowFrame" "I" ∈ lw_good := lw_t5 (i := 50) (by decide +kernel) (by decide +kernel)
theorem tw1011 : Cond.fieldLink RX10 230 "ClosuresThatBounceModel" "nowEnd" "I" ∈ lw_good := lw_t5 (i := 51) (by decide +kernel) (by decide +kernel)
theorem tw1012 : Cond.fieldLink RX10 233 "ClosuresThatBounceModel" "nowValue" "I" ∈ lw_good := lw_t5 (i := 52) (by decide +kernel) (by decide +kernel)
theorem tw1013 : Cond.fieldLink RX10 240 "ClosuresThatBounceModel" "nowFault" "I" ∈ lw_good := lw_t5 (i := 53) (by decide +kernel) (by decide +kernel)
theorem tw1014 : Cond.fieldLink RX10 256 "ClosuresThatBounceModel" "steps" "I" ∈ lw_good := lw_t5 (i := 54) (by decide +kernel) (by decide +kernel)
theorem tw1015 : Cond.fieldLink RX10 275 "ClosuresThatBounceModel" "depth" "I" ∈ lw_good := lw_t5 (i := 55) (by decide +kernel) (by decide +kernel)
theorem tw1016 : Cond.fieldLink RX10 278 "ClosuresThatBounceModel" "deepest" "I" ∈ lw_good := lw_t5 (i := 56) (by decide +kernel) (by decide +kernel)
theorem tw1017 : Cond.fieldLink RX10 272 "ClosuresThatBounceModel" "bounces" "I" ∈ lw_good := lw_t5 (i := 57) (by decide +kernel) (by decide +kernel)
theorem tw1018 : Cond.fieldLink RX10 110 "ClosuresThatBounceModel" "lastOnes" "[I" ∈ lw_good := lw_t5 (i := 58) (by decide +kernel) (by decide +kernel)
theorem tw1019 : Cond.fieldLink RX10 113 "ClosuresThatBounceModel" "kept" "[I" ∈ lw_good := lw_t5 (i := 59) (by decide +kernel) (by decide +kernel)
theorem tw1020 : Cond.fieldLink RX10 116 "ClosuresThatBounceModel" "row" "[I" ∈ lw_good := lw_t5 (i := 60) (by decide +kernel) (by decide +kernel)
theorem tw1021 : Cond.fieldLink RX10 395 "ClosuresThatBounceModel" "rowMany" "I" ∈ lw_good := lw_t5 (i := 61) (by decide +kernel) (by decide +kernel)
theorem tw1022 : Cond.fieldLink RX10 401 "ClosuresThatBounceModel" "lots" "I" ∈ lw_good := lw_t5 (i := 62) (by decide +kernel) (by decide +kernel)
theorem tw1023 : Cond.fieldLink RX10 119 "ClosuresThatBounceModel" "image" "[I" ∈ lw_good := lw_t5 (i := 63) (by decide +kernel) (by decide +kernel)
theorem tw1024 : Cond.fieldLink RX10 424 "ClosuresThatBounceModel" "hasImage" "Z" ∈ lw_good := lw_t5 (i := 64) (by decide +kernel) (by decide +kernel)
theorem tw1025 : Cond.fieldLink RX10 410 "ClosuresThatBounceModel" "isKeeping" "Z" ∈ lw_good := lw_t5 (i := 65) (by decide +kernel) (by decide +kernel)
theorem tw1026 : Cond.fieldLink RX10 414 "ClosuresThatBounceModel" "cursor" "I" ∈ lw_good := lw_t5 (i := 66) (by decide +kernel) (by decide +kernel)
theorem tw1027 : Cond.laysFinal "ClosuresThatBounceModel" "ClosuresThatBounceModel" "refused" "[I" ∈ lw_good := lw_t5 (i := 67) (by decide +kernel) (by decide +kernel)
theorem tw1028 : Cond.soleField "ClosuresThatBounceModel" "refused" ∈ lw_good := lw_t5 (i := 68) (by decide +kernel) (by decide +kernel)
theorem tw1029 : Cond.laysFinal "ClosuresThatBounceModel" "ClosuresThatBounceModel" "sign" "[I" ∈ lw_good := lw_t5 (i := 69) (by decide +kernel) (by decide +kernel)
theorem tw1030 : Cond.soleField "ClosuresThatBounceModel" "sign" ∈ lw_good := lw_t5 (i := 70) (by decide +kernel) (by decide +kernel)
theorem tw1031 : Cond.laysFinal "ClosuresThatBounceModel" "ClosuresThatBounceModel" "one" "[I" ∈ lw_good := lw_t5 (i := 71) (by decide +kernel) (by decide +kernel)
theorem tw1032 : Cond.soleField "ClosuresThatBounceModel" "one" ∈ lw_good := lw_t5 (i := 72) (by decide +kernel) (by decide +kernel)
theorem tw1033 : Cond.laysFinal "ClosuresThatBounceModel" "ClosuresThatBounceModel" "two" "[I" ∈ lw_good := lw_t5 (i := 73) (by decide +kernel) (by decide +kernel)
theorem tw1034 : Cond.soleField "ClosuresThatBounceModel" "two" ∈ lw_good := lw_t5 (i := 74) (by decide +kernel) (by decide +kernel)
theorem tw1035 : Cond.laysFinal "ClosuresThatBounceModel" "ClosuresThatBounceModel" "three" "[I" ∈ lw_good := lw_t5 (i := 75) (by decide +kernel) (by decide +kernel)
theorem tw1036 : Cond.soleField "ClosuresThatBounceModel" "three" ∈ lw_good := lw_t5 (i := 76) (by decide +kernel) (by decide +kernel)
theorem tw1037 : Cond.laysFinal "ClosuresThatBounceModel" "ClosuresThatBounceModel" "own" "[I" ∈ lw_good := lw_t5 (i := 77) (by decide +kernel) (by decide +kernel)
theorem tw1038 : Cond.soleField "ClosuresThatBounceModel" "own" ∈ lw_good := lw_t5 (i := 78) (by decide +kernel) (by decide +kernel)
theorem tw1039 : Cond.lays "ClosuresThatBounceModel" "ClosuresThatBounceModel" "expressions" "I" ∈ lw_good := lw_t5 (i := 79) (by decide +kernel) (by decide +kernel)
theorem tw1040 : Cond.soleField "ClosuresThatBounceModel" "expressions" ∈ lw_good := lw_t5 (i := 80) (by decide +kernel) (by decide +kernel)
theorem tw1041 : Cond.lays "ClosuresThatBounceModel" "ClosuresThatBounceModel" "sites" "I" ∈ lw_good := lw_t5 (i := 81) (by decide +kernel) (by decide +kernel)
theorem tw1042 : Cond.soleField "ClosuresThatBounceModel" "sites" ∈ lw_good := lw_t5 (i := 82) (by decide +kernel) (by decide +kernel)
theorem tw1043 : Cond.lays "ClosuresThatBounceModel" "ClosuresThatBounceModel" "theProgram" "I" ∈ lw_good := lw_t5 (i := 83) (by decide +kernel) (by decide +kernel)
theorem tw1044 : Cond.soleField "ClosuresThatBounceModel" "theProgram" ∈ lw_good := lw_t5 (i := 84) (by decide +kernel) (by decide +kernel)
theorem tw1045 : Cond.laysFinal "ClosuresThatBounceModel" "ClosuresThatBounceModel" "tape" "[I" ∈ lw_good := lw_t5 (i := 85) (by decide +kernel) (by decide +kernel)
theorem tw1046 : Cond.soleField "ClosuresThatBounceModel" "tape" ∈ lw_good := lw_t5 (i := 86) (by decide +kernel) (by decide +kernel)
theorem tw1047 : Cond.laysFinal "ClosuresThatBounceModel" "ClosuresThatBounceModel" "programText" "[I" ∈ lw_good := lw_t5 (i := 87) (by decide +kernel) (by decide +kernel)
theorem tw1048 : Cond.soleField "ClosuresThatBounceModel" "programText" ∈ lw_good := lw_t5 (i := 88) (by decide +kernel) (by decide +kernel)
theorem tw1049 : Cond.laysFinal "ClosuresThatBounceModel" "ClosuresThatBounceModel" "programBinder" "[I" ∈ lw_good := lw_t5 (i := 89) (by decide +kernel) (by decide +kernel)
theorem tw1050 : Cond.soleField "ClosuresThatBounceModel" "programBinder" ∈ lw_good := lw_t5 (i := 90) (by decide +kernel) (by decide +kernel)
theorem tw1051 : Cond.laysFinal "ClosuresThatBounceModel" "ClosuresThatBounceModel" "isBinder" "[I" ∈ lw_good := lw_t5 (i := 91) (by decide +kernel) (by decide +kernel)
theorem tw1052 : Cond.soleField "ClosuresThatBounceModel" "isBinder" ∈ lw_good := lw_t5 (i := 92) (by decide +kernel) (by decide +kernel)
theorem tw1053 : Cond.laysFinal "ClosuresThatBounceModel" "ClosuresThatBounceModel" "awaited" "[I" ∈ lw_good := lw_t5 (i := 93) (by decide +kernel) (by decide +kernel)
theorem tw1054 : Cond.soleField "ClosuresThatBounceModel" "awaited" ∈ lw_good := lw_t5 (i := 94) (by decide +kernel) (by decide +kernel)
theorem tw1055 : Cond.laysFinal "ClosuresThatBounceModel" "ClosuresThatBounceModel" "pile" "[I" ∈ lw_good := lw_t5 (i := 95) (by decide +kernel) (by decide +kernel)
theorem tw1056 : Cond.soleField "ClosuresThatBounceModel" "pile" ∈ lw_good := lw_t5 (i := 96) (by decide +kernel) (by decide +kernel)
theorem tw1057 : Cond.lays "ClosuresThatBounceModel" "ClosuresThatBounceModel" "taped" "I" ∈ lw_good := lw_t5 (i := 97) (by decide +kernel) (by decide +kernel)
theorem tw1058 : Cond.soleField "ClosuresThatBounceModel" "taped" ∈ lw_good := lw_t5 (i := 98) (by decide +kernel) (by decide +kernel)
theorem tw1059 : Cond.lays "ClosuresThatBounceModel" "ClosuresThatBounceModel" "programMany" "I" ∈ lw_good := lw_t5 (i := 99) (by decide +kernel) (by decide +kernel)
theorem tw1060 : Cond.soleField "ClosuresThatBounceModel" "programMany" ∈ lw_good := lw_t5 (i := 100) (by decide +kernel) (by decide +kernel)
theorem tw1061 : Cond.lays "ClosuresThatBounceModel" "ClosuresThatBounceModel" "reading" "I" ∈ lw_good := lw_t5 (i := 101) (by decide +kernel) (by decide +kernel)
theorem tw1062 : Cond.soleField "ClosuresThatBounceModel" "reading" ∈ lw_good := lw_t5 (i := 102) (by decide +kernel) (by decide +kernel)
theorem tw1063 : Cond.lays "ClosuresThatBounceModel" "ClosuresThatBounceModel" "badAt" "I" ∈ lw_good := lw_t5 (i := 103) (by decide +kernel) (by decide +kernel)
theorem tw1064 : Cond.soleField "ClosuresThatBounceModel" "badAt" ∈ lw_good := lw_t5 (i := 104) (by decide +kernel) (by decide +kernel)
theorem tw1065 : Cond.lays "ClosuresThatBounceModel" "ClosuresThatBounceModel" "waits" "I" ∈ lw_good := lw_t5 (i := 105) (by decide +kernel) (by decide +kernel)
theorem tw1066 : Cond.soleField "ClosuresThatBounceModel" "waits" ∈ lw_good := lw_t5 (i := 106) (by decide +kernel) (by decide +kernel)
theorem tw1067 : Cond.lays "ClosuresThatBounceModel" "ClosuresThatBounceModel" "piled" "I" ∈ lw_good := lw_t5 (i := 107) (by decide +kernel) (by decide +kernel)
theorem tw1068 : Cond.soleField "ClosuresThatBounceModel" "piled" ∈ lw_good := lw_t5 (i := 108) (by decide +kernel) (by decide +kernel)
theorem tw1069 : Cond.lays "ClosuresThatBounceModel" "ClosuresThatBounceModel" "siteNow" "I" ∈ lw_good := lw_t5 (i := 109) (by decide +kernel) (by decide +kernel)
theorem tw1070 : Cond.soleField "ClosuresThatBounceModel" "siteNow" ∈ lw_good := lw_t5 (i := 110) (by decide +kernel) (by decide +kernel)
theorem tw1071 : Cond.lays "ClosuresThatBounceModel" "ClosuresThatBounceModel" "expressionsTold" "I" ∈ lw_good := lw_t5 (i := 111) (by decide +kernel) (by decide +kernel)
theorem tw1072 : Cond.soleField "ClosuresThatBounceModel" "expressionsTold" ∈ lw_good := lw_t5 (i := 112) (by decide +kernel) (by decide +kernel)
theorem tw1073 : Cond.lays "ClosuresThatBounceModel" "ClosuresThatBounceModel" "sitesTold" "I" ∈ lw_good := lw_t5 (i := 113) (by decide +kernel) (by decide +kernel)
theorem tw1074 : Cond.soleField "ClosuresThatBounceModel" "sitesTold" ∈ lw_good := lw_t5 (i := 114) (by decide +kernel) (by decide +kernel)
theorem tw1075 : Cond.laysFinal "ClosuresThatBounceModel" "ClosuresThatBounceModel" "globals" "[I" ∈ lw_good := lw_t5 (i := 115) (by decide +kernel) (by decide +kernel)
theorem tw1076 : Cond.soleField "ClosuresThatBounceModel" "globals" ∈ lw_good := lw_t5 (i := 116) (by decide +kernel) (by decide +kernel)
theorem tw1077 : Cond.laysFinal "ClosuresThatBounceModel" "ClosuresThatBounceModel" "seen" "[I" ∈ lw_good := lw_t5 (i := 117) (by decide +kernel) (by decide +kernel)
theorem tw1078 : Cond.soleField "ClosuresThatBounceModel" "seen" ∈ lw_good := lw_t5 (i := 118) (by decide +kernel) (by decide +kernel)
theorem tw1079 : Cond.laysFinal "ClosuresThatBounceModel" "ClosuresThatBounceModel" "hits" "[I" ∈ lw_good := lw_t5 (i := 119) (by decide +kernel) (by decide +kernel)
theorem tw1080 : Cond.soleField "ClosuresThatBounceModel" "hits" ∈ lw_good := lw_t5 (i := 120) (by decide +kernel) (by decide +kernel)
theorem tw1081 : Cond.laysFinal "ClosuresThatBounceModel" "ClosuresThatBounceModel" "misses" "[I" ∈ lw_good := lw_t5 (i := 121) (by decide +kernel) (by decide +kernel)
theorem tw1082 : Cond.soleField "ClosuresThatBounceModel" "misses" ∈ lw_good := lw_t5 (i := 122) (by decide +kernel) (by decide +kernel)
theorem tw1083 : Cond.laysFinal "ClosuresThatBounceModel" "ClosuresThatBounceModel" "lastCodes" "[I" ∈ lw_good := lw_t5 (i := 123) (by decide +kernel) (by decide +kernel)
theorem tw1084 : Cond.soleField "ClosuresThatBounceModel" "lastCodes" ∈ lw_good := lw_t5 (i := 124) (by decide +kernel) (by decide +kernel)
theorem tw1085 : Cond.lays "ClosuresThatBounceModel" "ClosuresThatBounceModel" "lastHow" "I" ∈ lw_good := lw_t5 (i := 125) (by decide +kernel) (by decide +kernel)
theorem tw1086 : Cond.soleField "ClosuresThatBounceModel" "lastHow" ∈ lw_good := lw_t5 (i := 126) (by decide +kernel) (by decide +kernel)
theorem tw1087 : Cond.lays "ClosuresThatBounceModel" "ClosuresThatBounceModel" "lastNumber" "I" ∈ lw_good := lw_t5 (i := 127) (by decide +kernel) (by decide +kernel)
theorem tw1088 : Cond.soleField "ClosuresThatBounceModel" "lastNumber" ∈ lw_good := lw_t5 (i := 128) (by decide +kernel) (by decide +kernel)
theorem tw1089 : Cond.lays "ClosuresThatBounceModel" "ClosuresThatBounceModel" "lastSteps" "I" ∈ lw_good := lw_t5 (i := 129) (by decide +kernel) (by decide +kernel)
theorem tw1090 : Cond.soleField "ClosuresThatBounceModel" "lastSteps" ∈ lw_good := lw_t5 (i := 130) (by decide +kernel) (by decide +kernel)
theorem tw1091 : Cond.lays "ClosuresThatBounceModel" "ClosuresThatBounceModel" "lastDepth" "I" ∈ lw_good := lw_t5 (i := 131) (by decide +kernel) (by decide +kernel)
theorem tw1092 : Cond.soleField "ClosuresThatBounceModel" "lastDepth" ∈ lw_good := lw_t5 (i := 132) (by decide +kernel) (by decide +kernel)
theorem tw1093 : Cond.lays "ClosuresThatBounceModel" "ClosuresThatBounceModel" "lastBounces" "I" ∈ lw_good := lw_t5 (i := 133) (by decide +kernel) (by decide +kernel)
theorem tw1094 : Cond.soleField "ClosuresThatBounceModel" "lastBounces" ∈ lw_good := lw_t5 (i := 134) (by decide +kernel) (by decide +kernel)
theorem tw1095 : Cond.lays "ClosuresThatBounceModel" "ClosuresThatBounceModel" "lastCauses" "I" ∈ lw_good := lw_t5 (i := 135) (by decide +kernel) (by decide +kernel)
theorem tw1096 : Cond.soleField "ClosuresThatBounceModel" "lastCauses" ∈ lw_good := lw_t5 (i := 136) (by decide +kernel) (by decide +kernel)
theorem tw1097 : Cond.lays "ClosuresThatBounceModel" "ClosuresThatBounceModel" "runs" "I" ∈ lw_good := lw_t5 (i := 137) (by decide +kernel) (by decide +kernel)
theorem tw1098 : Cond.soleField "ClosuresThatBounceModel" "runs" ∈ lw_good := lw_t5 (i := 138) (by decide +kernel) (by decide +kernel)
theorem tw1099 : Cond.laysFinal "ClosuresThatBounceModel" "ClosuresThatBounceModel" "kind" "[I" ∈ lw_good := lw_t5 (i := 139) (by decide +kernel) (by decide +kernel)
theorem tw1100 : Cond.soleField "ClosuresThatBounceModel" "kind" ∈ lw_good := lw_t5 (i := 140) (by decide +kernel) (by decide +kernel)
theorem tw1101 : Cond.laysFinal "ClosuresThatBounceModel" "ClosuresThatBounceModel" "valueA" "[I" ∈ lw_good := lw_t5 (i := 141) (by decide +kernel) (by decide +kernel)
theorem tw1102 : Cond.soleField "ClosuresThatBounceModel" "valueA" ∈ lw_good := lw_t5 (i := 142) (by decide +kernel) (by decide +kernel)
theorem tw1103 : Cond.laysFinal "ClosuresThatBounceModel" "ClosuresThatBounceModel" "valueB" "[I" ∈ lw_good := lw_t5 (i := 143) (by decide +kernel) (by decide +kernel)
theorem tw1104 : Cond.soleField "ClosuresThatBounceModel" "valueB" ∈ lw_good := lw_t5 (i := 144) (by decide +kernel) (by decide +kernel)
theorem tw1105 : Cond.laysFinal "ClosuresThatBounceModel" "ClosuresThatBounceModel" "valueC" "[I" ∈ lw_good := lw_t5 (i := 145) (by decide +kernel) (by decide +kernel)
theorem tw1106 : Cond.soleField "ClosuresThatBounceModel" "valueC" ∈ lw_good := lw_t5 (i := 146) (by decide +kernel) (by decide +kernel)
theorem tw1107 : Cond.laysFinal "ClosuresThatBounceModel" "ClosuresThatBounceModel" "cell" "[I" ∈ lw_good := lw_t5 (i := 147) (by decide +kernel) (by decide +kernel)
theorem tw1108 : Cond.soleField "ClosuresThatBounceModel" "cell" ∈ lw_good := lw_t5 (i := 148) (by decide +kernel) (by decide +kernel)
theorem tw1109 : Cond.laysFinal "ClosuresThatBounceModel" "ClosuresThatBounceModel" "frameOf" "[I" ∈ lw_good := lw_t5 (i := 149) (by decide +kernel) (by decide +kernel)
theorem tw1110 : Cond.soleField "ClosuresThatBounceModel" "frameOf" ∈ lw_good := lw_t5 (i := 150) (by decide +kernel) (by decide +kernel)
theorem tw1111 : Cond.laysFinal "ClosuresThatBounceModel" "ClosuresThatBounceModel" "frameCell" "[I" ∈ lw_good := lw_t5 (i := 151) (by decide +kernel) (by decide +kernel)
theorem tw1112 : Cond.soleField "ClosuresThatBounceModel" "frameCell" ∈ lw_good := lw_t5 (i := 152) (by decide +kernel) (by decide +kernel)
theorem tw1113 : Cond.laysFinal "ClosuresThatBounceModel" "ClosuresThatBounceModel" "frameBelow" "[I" ∈ lw_good := lw_t5 (i := 153) (by decide +kernel) (by decide +kernel)
theorem tw1114 : Cond.soleField "ClosuresThatBounceModel" "frameBelow" ∈ lw_good := lw_t5 (i := 154) (by decide +kernel) (by decide +kernel)
theorem tw1115 : Cond.laysFinal "ClosuresThatBounceModel" "ClosuresThatBounceModel" "faultCode" "[I" ∈ lw_good := lw_t5 (i := 155) (by decide +kernel) (by decide +kernel)
theorem tw1116 : Cond.soleField "ClosuresThatBounceModel" "faultCode" ∈ lw_good := lw_t5 (i := 156) (by decide +kernel) (by decide +kernel)
theorem tw1117 : Cond.laysFinal "ClosuresThatBounceModel" "ClosuresThatBounceModel" "faultCause" "[I" ∈ lw_good := lw_t5 (i := 157) (by decide +kernel) (by decide +kernel)
theorem tw1118 : Cond.soleField "ClosuresThatBounceModel" "faultCause" ∈ lw_good := lw_t5 (i := 158) (by decide +kernel) (by decide +kernel)
theorem tw1119 : Cond.lays "ClosuresThatBounceModel" "ClosuresThatBounceModel" "values" "I" ∈ lw_good := lw_t5 (i := 159) (by decide +kernel) (by decide +kernel)
theorem tw1120 : Cond.soleField "ClosuresThatBounceModel" "values" ∈ lw_good := lw_t5 (i := 160) (by decide +kernel) (by decide +kernel)
theorem tw1121 : Cond.lays "ClosuresThatBounceModel" "ClosuresThatBounceModel" "cells" "I" ∈ lw_good := lw_t5 (i := 161) (by decide +kernel) (by decide +kernel)
theorem tw1122 : Cond.soleField "ClosuresThatBounceModel" "cells" ∈ lw_good := lw_t5 (i := 162) (by decide +kernel) (by decide +kernel)
theorem tw1123 : Cond.lays "ClosuresThatBounceModel" "ClosuresThatBounceModel" "frames" "I" ∈ lw_good := lw_t5 (i := 163) (by decide +kernel) (by decide +kernel)
theorem tw1124 : Cond.soleField "ClosuresThatBounceModel" "frames" ∈ lw_good := lw_t5 (i := 164) (by decide +kernel) (by decide +kernel)
theorem tw1125 : Cond.lays "ClosuresThatBounceModel" "ClosuresThatBounceModel" "faults" "I" ∈ lw_good := lw_t5 (i := 165) (by decide +kernel) (by decide +kernel)
theorem tw1126 : Cond.soleField "ClosuresThatBounceModel" "faults" ∈ lw_good := lw_t5 (i := 166) (by decide +kernel) (by decide +kernel)
theorem tw1127 : Cond.laysFinal "ClosuresThatBounceModel" "ClosuresThatBounceModel" "madeOf" "[I" ∈ lw_good := lw_t5 (i := 167) (by decide +kernel) (by decide +kernel)
theorem tw1128 : Cond.soleField "ClosuresThatBounceModel" "madeOf" ∈ lw_good := lw_t5 (i := 168) (by decide +kernel) (by decide +kernel)
theorem tw1129 : Cond.laysFinal "ClosuresThatBounceModel" "ClosuresThatBounceModel" "madePhase" "[I" ∈ lw_good := lw_t5 (i := 169) (by decide +kernel) (by decide +kernel)
theorem tw1130 : Cond.soleField "ClosuresThatBounceModel" "madePhase" ∈ lw_good := lw_t5 (i := 170) (by decide +kernel) (by decide +kernel)
theorem tw1131 : Cond.laysFinal "ClosuresThatBounceModel" "ClosuresThatBounceModel" "madeFrame" "[I" ∈ lw_good := lw_t5 (i := 171) (by decide +kernel) (by decide +kernel)
theorem tw1132 : Cond.soleField "ClosuresThatBounceModel" "madeFrame" ∈ lw_good := lw_t5 (i := 172) (by decide +kernel) (by decide +kernel)
theorem tw1133 : Cond.laysFinal "ClosuresThatBounceModel" "ClosuresThatBounceModel" "madeEnd" "[I" ∈ lw_good := lw_t5 (i := 173) (by decide +kernel) (by decide +kernel)
theorem tw1134 : Cond.soleField "ClosuresThatBounceModel" "madeEnd" ∈ lw_good := lw_t5 (i := 174) (by decide +kernel) (by decide +kernel)
theorem tw1135 : Cond.laysFinal "ClosuresThatBounceModel" "ClosuresThatBounceModel" "madeFirst" "[I" ∈ lw_good := lw_t5 (i := 175) (by decide +kernel) (by decide +kernel)
theorem tw1136 : Cond.soleField "ClosuresThatBounceModel" "madeFirst" ∈ lw_good := lw_t5 (i := 176) (by decide +kernel) (by decide +kernel)
theorem tw1137 : Cond.lays "ClosuresThatBounceModel" "ClosuresThatBounceModel" "made" "I" ∈ lw_good := lw_t5 (i := 177) (by decide +kernel) (by decide +kernel)
theorem tw1138 : Cond.soleField "ClosuresThatBounceModel" "made" ∈ lw_good := lw_t5 (i := 178) (by decide +kernel) (by decide +kernel)
theorem tw1139 : Cond.lays "ClosuresThatBounceModel" "ClosuresThatBounceModel" "going" "I" ∈ lw_good := lw_t5 (i := 179) (by decide +kernel) (by decide +kernel)
theorem tw1140 : Cond.soleField "ClosuresThatBounceModel" "going" ∈ lw_good := lw_t5 (i := 180) (by decide +kernel) (by decide +kernel)
theorem tw1141 : Cond.lays "ClosuresThatBounceModel" "ClosuresThatBounceModel" "nowOf" "I" ∈ lw_good := lw_t5 (i := 181) (by decide +kernel) (by decide +kernel)
theorem tw1142 : Cond.soleField "ClosuresThatBounceModel" "nowOf" ∈ lw_good := lw_t5 (i := 182) (by decide +kernel) (by decide +kernel)
theorem tw1143 : Cond.lays "ClosuresThatBounceModel" "ClosuresThatBounceModel" "nowFrame" "I" ∈ lw_good := lw_t5 (i := 183) (by decide +kernel) (by decide +kernel)
theorem tw1144 : Cond.soleField "ClosuresThatBounceModel" "nowFrame" ∈ lw_good := lw_t5 (i := 184) (by decide +kernel) (by decide +kernel)
theorem tw1145 : Cond.lays "ClosuresThatBounceModel" "ClosuresThatBounceModel" "nowEnd" "I" ∈ lw_good := lw_t5 (i := 185) (by decide +kernel) (by decide +kernel)
theorem tw1146 : Cond.soleField "ClosuresThatBounceModel" "nowEnd" ∈ lw_good := lw_t5 (i := 186) (by decide +kernel) (by decide +kernel)
theorem tw1147 : Cond.lays "ClosuresThatBounceModel" "ClosuresThatBounceModel" "nowValue" "I" ∈ lw_good := lw_t5 (i := 187) (by decide +kernel) (by decide +kernel)
theorem tw1148 : Cond.soleField "ClosuresThatBounceModel" "nowValue" ∈ lw_good := lw_t5 (i := 188) (by decide +kernel) (by decide +kernel)
theorem tw1149 : Cond.lays "ClosuresThatBounceModel" "ClosuresThatBounceModel" "nowFault" "I" ∈ lw_good := lw_t5 (i := 189) (by decide +kernel) (by decide +kernel)
theorem tw1150 : Cond.soleField "ClosuresThatBounceModel" "nowFault" ∈ lw_good := lw_t5 (i := 190) (by decide +kernel) (by decide +kernel)
theorem tw1151 : Cond.lays "ClosuresThatBounceModel" "ClosuresThatBounceModel" "steps" "I" ∈ lw_good := lw_t5 (i := 191) (by decide +kernel) (by decide +kernel)
theorem tw1152 : Cond.soleField "ClosuresThatBounceModel" "steps" ∈ lw_good := lw_t5 (i := 192) (by decide +kernel) (by decide +kernel)
theorem tw1153 : Cond.lays "ClosuresThatBounceModel" "ClosuresThatBounceModel" "depth" "I" ∈ lw_good := lw_t5 (i := 193) (by decide +kernel) (by decide +kernel)
theorem tw1154 : Cond.soleField "ClosuresThatBounceModel" "depth" ∈ lw_good := lw_t5 (i := 194) (by decide +kernel) (by decide +kernel)
theorem tw1155 : Cond.lays "ClosuresThatBounceModel" "ClosuresThatBounceModel" "deepest" "I" ∈ lw_good := lw_t5 (i := 195) (by decide +kernel) (by decide +kernel)
theorem tw1156 : Cond.soleField "ClosuresThatBounceModel" "deepest" ∈ lw_good := lw_t5 (i := 196) (by decide +kernel) (by decide +kernel)
theorem tw1157 : Cond.lays "ClosuresThatBounceModel" "ClosuresThatBounceModel" "bounces" "I" ∈ lw_good := lw_t5 (i := 197) (by decide +kernel) (by decide +kernel)
theorem tw1158 : Cond.soleField "ClosuresThatBounceModel" "bounces" ∈ lw_good := lw_t5 (i := 198) (by decide +kernel) (by decide +kernel)
theorem tw1159 : Cond.laysFinal "ClosuresThatBounceModel" "ClosuresThatBounceModel" "lastOnes" "[I" ∈ lw_good := lw_t5 (i := 199) (by decide +kernel) (by decide +kernel)
theorem tw1160 : Cond.soleField "ClosuresThatBounceModel" "lastOnes" ∈ lw_good := lw_t5 (i := 200) (by decide +kernel) (by decide +kernel)
theorem tw1161 : Cond.laysFinal "ClosuresThatBounceModel" "ClosuresThatBounceModel" "kept" "[I" ∈ lw_good := lw_t5 (i := 201) (by decide +kernel) (by decide +kernel)
theorem tw1162 : Cond.soleField "ClosuresThatBounceModel" "kept" ∈ lw_good := lw_t5 (i := 202) (by decide +kernel) (by decide +kernel)
theorem tw1163 : Cond.laysFinal "ClosuresThatBounceModel" "ClosuresThatBounceModel" "row" "[I" ∈ lw_good := lw_t5 (i := 203) (by decide +kernel) (by decide +kernel)
theorem tw1164 : Cond.soleField "ClosuresThatBounceModel" "row" ∈ lw_good := lw_t5 (i := 204) (by decide +kernel) (by decide +kernel)
theorem tw1165 : Cond.lays "ClosuresThatBounceModel" "ClosuresThatBounceModel" "rowMany" "I" ∈ lw_good := lw_t5 (i := 205) (by decide +kernel) (by decide +kernel)
theorem tw1166 : Cond.soleField "ClosuresThatBounceModel" "rowMany" ∈ lw_good := lw_t5 (i := 206) (by decide +kernel) (by decide +kernel)
theorem tw1167 : Cond.lays "ClosuresThatBounceModel" "ClosuresThatBounceModel" "lots" "I" ∈ lw_good := lw_t5 (i := 207) (by decide +kernel) (by decide +kernel)
theorem tw1168 : Cond.soleField "ClosuresThatBounceModel" "lots" ∈ lw_good := lw_t5 (i := 208) (by decide +kernel) (by decide +kernel)
theorem tw1169 : Cond.laysFinal "ClosuresThatBounceModel" "ClosuresThatBounceModel" "image" "[I" ∈ lw_good := lw_t5 (i := 209) (by decide +kernel) (by decide +kernel)
theorem tw1170 : Cond.soleField "ClosuresThatBounceModel" "image" ∈ lw_good := lw_t5 (i := 210) (by decide +kernel) (by decide +kernel)
theorem tw1171 : Cond.lays "ClosuresThatBounceModel" "ClosuresThatBounceModel" "hasImage" "Z" ∈ lw_good := lw_t5 (i := 211) (by decide +kernel) (by decide +kernel)
theorem tw1172 : Cond.soleField "ClosuresThatBounceModel" "hasImage" ∈ lw_good := lw_t5 (i := 212) (by decide +kernel) (by decide +kernel)
theorem tw1173 : Cond.lays "ClosuresThatBounceModel" "ClosuresThatBounceModel" "isKeeping" "Z" ∈ lw_good := lw_t5 (i := 213) (by decide +kernel) (by decide +kernel)
theorem tw1174 : Cond.soleField "ClosuresThatBounceModel" "isKeeping" ∈ lw_good := lw_t5 (i := 214) (by decide +kernel) (by decide +kernel)
theorem tw1175 : Cond.lays "ClosuresThatBounceModel" "ClosuresThatBounceModel" "cursor" "I" ∈ lw_good := lw_t5 (i := 215) (by decide +kernel) (by decide +kernel)
theorem tw1176 : Cond.soleField "ClosuresThatBounceModel" "cursor" ∈ lw_good := lw_t5 (i := 216) (by decide +kernel) (by decide +kernel)
theorem tw1178 : Cond.methodLink RL 17 yX10_letter ∈ lw_good := lw_t5 (i := 218) (by decide +kernel) (by decide +kernel)
theorem tw1179 : Cond.instanceMethod yX10_letter ∈ lw_good := lw_t5 (i := 219) (by decide +kernel) (by decide +kernel)
theorem tw1180 : Cond.selects RX10 yX10_letter yX10_letter ∈ lw_good := lw_t5 (i := 220) (by decide +kernel) (by decide +kernel)
theorem tw1181 : Cond.code yX10_letter prog_12_method_9_code 3 (some .int) ∈ lw_good := lw_t5 (i := 221) (by decide +kernel) (by decide +kernel)
theorem tw1182 : Cond.methodLink RX10 138 yX10_bound ∈ lw_good := lw_t5 (i := 222) (by decide +kernel) (by decide +kernel)
theorem tw1183 : Cond.static yX10_bound ∈ lw_good := lw_t5 (i := 223) (by decide +kernel) (by decide +kernel)
theorem tw1184 : Cond.code yX10_bound prog_12_method_6_code 3 (some .int) ∈ lw_good := lw_t5 (i := 224) (by decide +kernel) (by decide +kernel)
theorem tw1185 : Cond.methodLink RX10 145 yX10_no ∈ lw_good := lw_t5 (i := 225) (by decide +kernel) (by decide +kernel)
theorem tw1187 : Cond.instanceMethod yX10_no ∈ lw_good := lw_t5 (i := 227) (by decide +kernel) (by decide +kernel)
theorem tw1188 : Cond.code yX10_no prog_12_method_2_code 2 (some .int) ∈ lw_good := lw_t5 (i := 228) (by decide +kernel) (by decide +kernel)
theorem tw1189 : Cond.methodLink RL 22 yX10_program ∈ lw_good := lw_t5 (i := 229) (by decide +kernel) (by decide +kernel)
theorem tw1190 : Cond.instanceMethod yX10_program ∈ lw_good := lw_t5 (i := 230) (by decide +kernel) (by decide +kernel)
theorem tw1191 : Cond.selects RX10 yX10_program yX10_program ∈ lw_good := lw_t5 (i := 231) (by decide +kernel) (by decide +kernel)
theorem tw1192 : Cond.code yX10_program prog_12_method_19_code 4 (some .int) ∈ lw_good := lw_t5 (i := 232) (by decide +kernel) (by decide +kernel)
theorem tw1193 : Cond.methodLink RX10 202 yX10_reads ∈ lw_good := lw_t5 (i := 233) (by decide +kernel) (by decide +kernel)
theorem tw1195 : Cond.instanceMethod yX10_reads ∈ lw_good := lw_t5 (i := 235) (by decide +kernel) (by decide +kernel)
theorem tw1196 : Cond.code yX10_reads prog_12_method_15_code 1 (some .boolean) ∈ lw_good := lw_t5 (i := 236) (by decide +kernel) (by decide +kernel)
theorem tw1197 : Cond.methodLink RX10 152 yX10_awaits ∈ lw_good := lw_t5 (i := 237) (by decide +kernel) (by decide +kernel)
theorem tw1199 : Cond.instanceMethod yX10_awaits ∈ lw_good := lw_t5 (i := 239) (by decide +kernel) (by decide +kernel)
theorem tw1200 : Cond.code yX10_awaits prog_12_method_10_code 2 none ∈ lw_good := lw_t6 (i := 0) (by decide +kernel) (by decide +kernel)
theorem tw1201 : Cond.methodLink RX10 178 yX10_readsOne ∈ lw_good := lw_t6 (i := 1) (by decide +kernel) (by decide +kernel)
theorem tw1203 : Cond.instanceMethod yX10_readsOne ∈ lw_good := lw_t6 (i := 3) (by decide +kernel) (by decide +kernel)
theorem tw1204 : Cond.code yX10_readsOne prog_12_method_14_code 3 (some .boolean) ∈ lw_good := lw_t6 (i := 4) (by decide +kernel) (by decide +kernel)
theorem tw1205 : Cond.methodLink RX10 162 yX10_awaitsParts ∈ lw_good := lw_t6 (i := 5) (by decide +kernel) (by decide +kernel)
theorem tw1207 : Cond.instanceMethod yX10_awaitsParts ∈ lw_good := lw_t6 (i := 7) (by decide +kernel) (by decide +kernel)
theorem tw1208 : Cond.code yX10_awaitsParts prog_12_method_13_code 4 (some .boolean) ∈ lw_good := lw_t6 (i := 8) (by decide +kernel) (by decide +kernel)
theorem tw1209 : Cond.methodLink RL 35 yX10_run ∈ lw_good := lw_t6 (i := 9) (by decide +kernel) (by decide +kernel)
theorem tw1210 : Cond.instanceMethod yX10_run ∈ lw_good := lw_t6 (i := 10) (by decide +kernel) (by decide +kernel)
theorem tw1211 : Cond.selects RX10 yX10_run yX10_run ∈ lw_good := lw_t6 (i := 11) (by decide +kernel) (by decide +kernel)
theorem tw1212 : Cond.code yX10_run prog_12_method_49_code 1 (some .int) ∈ lw_good := lw_t6 (i := 12) (by decide +kernel) (by decide +kernel)
theorem tw1213 : Cond.methodLink RX10 353 yX10_goes ∈ lw_good := lw_t6 (i := 13) (by decide +kernel) (by decide +kernel)
theorem tw1215 : Cond.instanceMethod yX10_goes ∈ lw_good := lw_t6 (i := 15) (by decide +kernel) (by decide +kernel)
theorem tw1216 : Cond.code yX10_goes prog_12_method_43_code 1 none ∈ lw_good := lw_t6 (i := 16) (by decide +kernel) (by decide +kernel)
theorem tw1217 : Cond.methodLink RX10 268 yX10_makes ∈ lw_good := lw_t6 (i := 17) (by decide +kernel) (by decide +kernel)
theorem tw1219 : Cond.instanceMethod yX10_makes ∈ lw_good := lw_t6 (i := 19) (by decide +kernel) (by decide +kernel)
theorem tw1220 : Cond.code yX10_makes prog_12_method_24_code 4 none ∈ lw_good := lw_t6 (i := 20) (by decide +kernel) (by decide +kernel)
theorem tw1221 : Cond.methodLink RX10 320 yX10_begins ∈ lw_good := lw_t6 (i := 21) (by decide +kernel) (by decide +kernel)
theorem tw1223 : Cond.instanceMethod yX10_begins ∈ lw_good := lw_t6 (i := 23) (by decide +kernel) (by decide +kernel)
theorem tw1224 : Cond.code yX10_begins prog_12_method_29_code 3 none ∈ lw_good := lw_t6 (i := 24) (by decide +kernel) (by decide +kernel)
theorem tw1225 : Cond.methodLink RX10 259 yX10_fails ∈ lw_good := lw_t6 (i := 25) (by decide +kernel) (by decide +kernel)
theorem tw1227 : Cond.instanceMethod yX10_fails ∈ lw_good := lw_t6 (i := 27) (by decide +kernel) (by decide +kernel)
theorem tw1228 : Cond.code yX10_fails prog_12_method_26_code 2 none ∈ lw_good := lw_t6 (i := 28) (by decide +kernel) (by decide +kernel)
theorem tw1229 : Cond.methodLink RX10 236 yX10_faultOf ∈ lw_good := lw_t6 (i := 29) (by decide +kernel) (by decide +kernel)
theorem tw1231 : Cond.instanceMethod yX10_faultOf ∈ lw_good := lw_t6 (i := 31) (by decide +kernel) (by decide +kernel)
theorem tw1232 : Cond.code yX10_faultOf prog_12_method_23_code 3 (some .int) ∈ lw_good := lw_t6 (i := 32) (by decide +kernel) (by decide +kernel)
theorem tw1233 : Cond.methodLink RX10 249 yX10_valueOf ∈ lw_good := lw_t6 (i := 33) (by decide +kernel) (by decide +kernel)
theorem tw1235 : Cond.instanceMethod yX10_valueOf ∈ lw_good := lw_t6 (i := 35) (by decide +kernel) (by decide +kernel)
theorem tw1236 : Cond.code yX10_valueOf prog_12_method_20_code 5 (some .int) ∈ lw_good := lw_t6 (i := 36) (by decide +kernel) (by decide +kernel)
theorem tw1237 : Cond.methodLink RX10 253 yX10_has ∈ lw_good := lw_t6 (i := 37) (by decide +kernel) (by decide +kernel)
theorem tw1239 : Cond.instanceMethod yX10_has ∈ lw_good := lw_t6 (i := 39) (by decide +kernel) (by decide +kernel)
theorem tw1240 : Cond.code yX10_has prog_12_method_25_code 2 none ∈ lw_good := lw_t6 (i := 40) (by decide +kernel) (by decide +kernel)
theorem tw1241 : Cond.methodLink RX10 262 yX10_looksUp ∈ lw_good := lw_t6 (i := 41) (by decide +kernel) (by decide +kernel)
theorem tw1243 : Cond.instanceMethod yX10_looksUp ∈ lw_good := lw_t6 (i := 43) (by decide +kernel) (by decide +kernel)
theorem tw1244 : Cond.code yX10_looksUp prog_12_method_28_code 3 none ∈ lw_good := lw_t6 (i := 44) (by decide +kernel) (by decide +kernel)
theorem tw1245 : Cond.methodLink RX10 246 yX10_cellOf ∈ lw_good := lw_t6 (i := 45) (by decide +kernel) (by decide +kernel)
theorem tw1247 : Cond.instanceMethod yX10_cellOf ∈ lw_good := lw_t6 (i := 47) (by decide +kernel) (by decide +kernel)
theorem tw1248 : Cond.code yX10_cellOf prog_12_method_22_code 4 (some .int) ∈ lw_good := lw_t6 (i := 48) (by decide +kernel) (by decide +kernel)
theorem tw1249 : Cond.methodLink RX10 265 yX10_waitsFor ∈ lw_good := lw_t6 (i := 49) (by decide +kernel) (by decide +kernel)
theorem tw1251 : Cond.instanceMethod yX10_waitsFor ∈ lw_good := lw_t6 (i := 51) (by decide +kernel) (by decide +kernel)
theorem tw1252 : Cond.code yX10_waitsFor prog_12_method_27_code 2 none ∈ lw_good := lw_t6 (i := 52) (by decide +kernel) (by decide +kernel)
theorem tw1253 : Cond.methodLink RX10 323 yX10_goesOn ∈ lw_good := lw_t6 (i := 53) (by decide +kernel) (by decide +kernel)
theorem tw1255 : Cond.instanceMethod yX10_goesOn ∈ lw_good := lw_t6 (i := 55) (by decide +kernel) (by decide +kernel)
theorem tw1256 : Cond.code yX10_goesOn prog_12_method_41_code 3 none ∈ lw_good := lw_t6 (i := 56) (by decide +kernel) (by decide +kernel)
theorem tw1257 : Cond.methodLink RX10 311 yX10_isFirstOfTwo ∈ lw_good := lw_t6 (i := 57) (by decide +kernel) (by decide +kernel)
theorem tw1259 : Cond.instanceMethod yX10_isFirstOfTwo ∈ lw_good := lw_t6 (i := 59) (by decide +kernel) (by decide +kernel)
theorem tw1260 : Cond.code yX10_isFirstOfTwo prog_12_method_39_code 3 (some .boolean) ∈ lw_good := lw_t6 (i := 60) (by decide +kernel) (by decide +kernel)
theorem tw1261 : Cond.methodLink RX10 314 yX10_keepsFirst ∈ lw_good := lw_t6 (i := 61) (by decide +kernel) (by decide +kernel)
theorem tw1263 : Cond.instanceMethod yX10_keepsFirst ∈ lw_good := lw_t6 (i := 63) (by decide +kernel) (by decide +kernel)
theorem tw1264 : Cond.code yX10_keepsFirst prog_12_method_38_code 3 none ∈ lw_good := lw_t6 (i := 64) (by decide +kernel) (by decide +kernel)
theorem tw1265 : Cond.methodLink RX10 317 yX10_goesOnOf ∈ lw_good := lw_t6 (i := 65) (by decide +kernel) (by decide +kernel)
theorem tw1267 : Cond.instanceMethod yX10_goesOnOf ∈ lw_good := lw_t6 (i := 67) (by decide +kernel) (by decide +kernel)
theorem tw1268 : Cond.code yX10_goesOnOf prog_12_method_40_code 4 none ∈ lw_good := lw_t6 (i := 68) (by decide +kernel) (by decide +kernel)
theorem tw1269 : Cond.methodLink RX10 293 yX10_reckons ∈ lw_good := lw_t6 (i := 69) (by decide +kernel) (by decide +kernel)
theorem tw1271 : Cond.instanceMethod yX10_reckons ∈ lw_good := lw_t6 (i := 71) (by decide +kernel) (by decide +kernel)
theorem tw1272 : Cond.code yX10_reckons prog_12_method_30_code 7 none ∈ lw_good := lw_t6 (i := 72) (by decide +kernel) (by decide +kernel)
theorem tw1273 : Cond.methodLink RX10 296 yX10_chooses ∈ lw_good := lw_t6 (i := 73) (by decide +kernel) (by decide +kernel)
theorem tw1275 : Cond.instanceMethod yX10_chooses ∈ lw_good := lw_t6 (i := 75) (by decide +kernel) (by decide +kernel)
theorem tw1276 : Cond.code yX10_chooses prog_12_method_31_code 3 none ∈ lw_good := lw_t6 (i := 76) (by decide +kernel) (by decide +kernel)
theorem tw1277 : Cond.methodLink RX10 281 yX10_frameWith ∈ lw_good := lw_t6 (i := 77) (by decide +kernel) (by decide +kernel)
theorem tw1279 : Cond.instanceMethod yX10_frameWith ∈ lw_good := lw_t6 (i := 79) (by decide +kernel) (by decide +kernel)
theorem tw1280 : Cond.code yX10_frameWith prog_12_method_21_code 4 (some .int) ∈ lw_good := lw_t6 (i := 80) (by decide +kernel) (by decide +kernel)
theorem tw1281 : Cond.methodLink RX10 299 yX10_puts ∈ lw_good := lw_t6 (i := 81) (by decide +kernel) (by decide +kernel)
theorem tw1283 : Cond.instanceMethod yX10_puts ∈ lw_good := lw_t6 (i := 83) (by decide +kernel) (by decide +kernel)
theorem tw1284 : Cond.code yX10_puts prog_12_method_32_code 4 none ∈ lw_good := lw_t6 (i := 84) (by decide +kernel) (by decide +kernel)
theorem tw1285 : Cond.methodLink RX10 302 yX10_calls ∈ lw_good := lw_t6 (i := 85) (by decide +kernel) (by decide +kernel)
theorem tw1287 : Cond.instanceMethod yX10_calls ∈ lw_good := lw_t6 (i := 87) (by decide +kernel) (by decide +kernel)
theorem tw1288 : Cond.code yX10_calls prog_12_method_33_code 4 none ∈ lw_good := lw_t6 (i := 88) (by decide +kernel) (by decide +kernel)
theorem tw1289 : Cond.methodLink RX10 305 yX10_findsField ∈ lw_good := lw_t6 (i := 89) (by decide +kernel) (by decide +kernel)
theorem tw1291 : Cond.instanceMethod yX10_findsField ∈ lw_good := lw_t6 (i := 91) (by decide +kernel) (by decide +kernel)
theorem tw1292 : Cond.code yX10_findsField prog_12_method_36_code 4 none ∈ lw_good := lw_t6 (i := 92) (by decide +kernel) (by decide +kernel)
theorem tw1293 : Cond.methodLink RX10 287 yX10_hasField ∈ lw_good := lw_t6 (i := 93) (by decide +kernel) (by decide +kernel)
theorem tw1294 : Cond.static yX10_hasField ∈ lw_good := lw_t6 (i := 94) (by decide +kernel) (by decide +kernel)
theorem tw1295 : Cond.code yX10_hasField prog_12_method_34_code 2 (some .boolean) ∈ lw_good := lw_t6 (i := 95) (by decide +kernel) (by decide +kernel)
theorem tw1296 : Cond.methodLink RX10 290 yX10_passesCache ∈ lw_good := lw_t6 (i := 96) (by decide +kernel) (by decide +kernel)
theorem tw1298 : Cond.instanceMethod yX10_passesCache ∈ lw_good := lw_t6 (i := 98) (by decide +kernel) (by decide +kernel)
theorem tw1299 : Cond.code yX10_passesCache prog_12_method_35_code 4 none ∈ lw_good := lw_t6 (i := 99) (by decide +kernel) (by decide +kernel)
theorem tw1300 : Cond.methodLink RX10 284 yX10_bits ∈ lw_good := lw_t6 (i := 100) (by decide +kernel) (by decide +kernel)
theorem tw1301 : Cond.static yX10_bits ∈ lw_good := lw_t6 (i := 101) (by decide +kernel) (by decide +kernel)
theorem tw1302 : Cond.code yX10_bits prog_12_method_8_code 3 (some .int) ∈ lw_good := lw_t6 (i := 102) (by decide +kernel) (by decide +kernel)
theorem tw1303 : Cond.methodLink RX10 308 yX10_throwsNow ∈ lw_good := lw_t6 (i := 103) (by decide +kernel) (by decide +kernel)
theorem tw1305 : Cond.instanceMethod yX10_throwsNow ∈ lw_good := lw_t6 (i := 105) (by decide +kernel) (by decide +kernel)
theorem tw1306 : Cond.code yX10_throwsNow prog_12_method_37_code 1 none ∈ lw_good := lw_t6 (i := 106) (by decide +kernel) (by decide +kernel)
theorem tw1307 : Cond.methodLink RX10 326 yX10_falls ∈ lw_good := lw_t6 (i := 107) (by decide +kernel) (by decide +kernel)
theorem tw1309 : Cond.instanceMethod yX10_falls ∈ lw_good := lw_t6 (i := 109) (by decide +kernel) (by decide +kernel)
theorem tw1310 : Cond.code yX10_falls prog_12_method_42_code 3 none ∈ lw_good := lw_t6 (i := 110) (by decide +kernel) (by decide +kernel)
theorem tw1311 : Cond.methodLink RX10 356 yX10_tellsLast ∈ lw_good := lw_t6 (i := 111) (by decide +kernel) (by decide +kernel)
theorem tw1313 : Cond.instanceMethod yX10_tellsLast ∈ lw_good := lw_t6 (i := 113) (by decide +kernel) (by decide +kernel)
theorem tw1314 : Cond.code yX10_tellsLast prog_12_method_48_code 3 none ∈ lw_good := lw_t6 (i := 114) (by decide +kernel) (by decide +kernel)
theorem tw1315 : Cond.methodLink RX10 329 yX10_howNow ∈ lw_good := lw_t6 (i := 115) (by decide +kernel) (by decide +kernel)
theorem tw1317 : Cond.instanceMethod yX10_howNow ∈ lw_good := lw_t6 (i := 117) (by decide +kernel) (by decide +kernel)
theorem tw1318 : Cond.code yX10_howNow prog_12_method_44_code 1 (some .int) ∈ lw_good := lw_t6 (i := 118) (by decide +kernel) (by decide +kernel)
theorem tw1319 : Cond.methodLink RX10 332 yX10_numberNow ∈ lw_good := lw_t6 (i := 119) (by decide +kernel) (by decide +kernel)
theorem tw1321 : Cond.instanceMethod yX10_numberNow ∈ lw_good := lw_t6 (i := 121) (by decide +kernel) (by decide +kernel)
theorem tw1322 : Cond.code yX10_numberNow prog_12_method_45_code 1 (some .int) ∈ lw_good := lw_t6 (i := 122) (by decide +kernel) (by decide +kernel)
theorem tw1323 : Cond.methodLink RX10 335 yX10_causesNow ∈ lw_good := lw_t6 (i := 123) (by decide +kernel) (by decide +kernel)
theorem tw1325 : Cond.instanceMethod yX10_causesNow ∈ lw_good := lw_t6 (i := 125) (by decide +kernel) (by decide +kernel)
theorem tw1326 : Cond.code yX10_causesNow prog_12_method_46_code 3 (some .int) ∈ lw_good := lw_t6 (i := 126) (by decide +kernel) (by decide +kernel)
theorem tw1327 : Cond.methodLink RL 39 yX10_ended ∈ lw_good := lw_t6 (i := 127) (by decide +kernel) (by decide +kernel)
theorem tw1328 : Cond.instanceMethod yX10_ended ∈ lw_good := lw_t6 (i := 128) (by decide +kernel) (by decide +kernel)
theorem tw1329 : Cond.selects RX10 yX10_ended yX10_ended ∈ lw_good := lw_t6 (i := 129) (by decide +kernel) (by decide +kernel)
theorem tw1330 : Cond.code yX10_ended prog_12_method_50_code 4 (some .int) ∈ lw_good := lw_t6 (i := 130) (by decide +kernel) (by decide +kernel)
theorem tw1331 : Cond.methodLink RX10 359 yX10_lower ∈ lw_good := lw_t6 (i := 131) (by decide +kernel) (by decide +kernel)
theorem tw1333 : Cond.instanceMethod yX10_lower ∈ lw_good := lw_t6 (i := 133) (by decide +kernel) (by decide +kernel)
theorem tw1334 : Cond.code yX10_lower prog_12_method_3_code 2 (some .int) ∈ lw_good := lw_t6 (i := 134) (by decide +kernel) (by decide +kernel)
theorem tw1335 : Cond.constant RX10 131 (1000000000 : Int32) ∈ lw_good := lw_t6 (i := 135) (by decide +kernel) (by decide +kernel)
theorem tw1336 : Cond.methodLink RL 43 yX10_code ∈ lw_good := lw_t6 (i := 136) (by decide +kernel) (by decide +kernel)
theorem tw1337 : Cond.instanceMethod yX10_code ∈ lw_good := lw_t6 (i := 137) (by decide +kernel) (by decide +kernel)
theorem tw1338 : Cond.selects RX10 yX10_code yX10_code ∈ lw_good := lw_t6 (i := 138) (by decide +kernel) (by decide +kernel)
theorem tw1339 : Cond.code yX10_code prog_12_method_51_code 2 (some .int) ∈ lw_good := lw_t6 (i := 139) (by decide +kernel) (by decide +kernel)
theorem tw1340 : Cond.methodLink RL 26 yX10_global ∈ lw_good := lw_t6 (i := 140) (by decide +kernel) (by decide +kernel)
theorem tw1341 : Cond.instanceMethod yX10_global ∈ lw_good := lw_t6 (i := 141) (by decide +kernel) (by decide +kernel)
theorem tw1342 : Cond.selects RX10 yX10_global yX10_global ∈ lw_good := lw_t6 (i := 142) (by decide +kernel) (by decide +kernel)
theorem tw1343 : Cond.code yX10_global prog_12_method_52_code 2 (some .int) ∈ lw_good := lw_t6 (i := 143) (by decide +kernel) (by decide +kernel)
theorem tw1344 : Cond.methodLink RX10 362 yX10_isVariable ∈ lw_good := lw_t6 (i := 144) (by decide +kernel) (by decide +kernel)
theorem tw1345 : Cond.static yX10_isVariable ∈ lw_good := lw_t6 (i := 145) (by decide +kernel) (by decide +kernel)
theorem tw1346 : Cond.code yX10_isVariable prog_12_method_7_code 1 (some .boolean) ∈ lw_good := lw_t6 (i := 146) (by decide +kernel) (by decide +kernel)
theorem tw1347 : Cond.methodLink RL 31 yX10_sets ∈ lw_good := lw_t6 (i := 147) (by decide +kernel) (by decide +kernel)
theorem tw1348 : Cond.instanceMethod yX10_sets ∈ lw_good := lw_t6 (i := 148) (by decide +kernel) (by decide +kernel)
theorem tw1349 : Cond.selects RX10 yX10_sets yX10_sets ∈ lw_good := lw_t6 (i := 149) (by decide +kernel) (by decide +kernel)
theorem tw1350 : Cond.code yX10_sets prog_12_method_53_code 5 (some .int) ∈ lw_good := lw_t6 (i := 150) (by decide +kernel) (by decide +kernel)
theorem tw1351 : Cond.methodLink RL 47 yX10_cache ∈ lw_good := lw_t6 (i := 151) (by decide +kernel) (by decide +kernel)
theorem tw1352 : Cond.instanceMethod yX10_cache ∈ lw_good := lw_t6 (i := 152) (by decide +kernel) (by decide +kernel)
theorem tw1353 : Cond.selects RX10 yX10_cache yX10_cache ∈ lw_good := lw_t6 (i := 153) (by decide +kernel) (by decide +kernel)
theorem tw1354 : Cond.code yX10_cache prog_12_method_55_code 3 (some .int) ∈ lw_good := lw_t6 (i := 154) (by decide +kernel) (by decide +kernel)
theorem tw1355 : Cond.methodLink RX10 365 yX10_stateOf ∈ lw_good := lw_t6 (i := 155) (by decide +kernel) (by decide +kernel)
theorem tw1357 : Cond.instanceMethod yX10_stateOf ∈ lw_good := lw_t6 (i := 157) (by decide +kernel) (by decide +kernel)
theorem tw1358 : Cond.code yX10_stateOf prog_12_method_54_code 2 (some .int) ∈ lw_good := lw_t6 (i := 158) (by decide +kernel) (by decide +kernel)
theorem tw1359 : Cond.methodLink RL 51 yX10_thinks ∈ lw_good := lw_t6 (i := 159) (by decide +kernel) (by decide +kernel)
theorem tw1360 : Cond.instanceMethod yX10_thinks ∈ lw_good := lw_t6 (i := 160) (by decide +kernel) (by decide +kernel)
theorem tw1361 : Cond.selects RX10 yX10_thinks yX10_thinks ∈ lw_good := lw_t6 (i := 161) (by decide +kernel) (by decide +kernel)
theorem tw1362 : Cond.code yX10_thinks prog_12_method_59_code 2 (some .int) ∈ lw_good := lw_t6 (i := 162) (by decide +kernel) (by decide +kernel)
theorem tw1363 : Cond.methodLink RX10 374 yX10_goesWith ∈ lw_good := lw_t6 (i := 163) (by decide +kernel) (by decide +kernel)
theorem tw1365 : Cond.instanceMethod yX10_goesWith ∈ lw_good := lw_t6 (i := 165) (by decide +kernel) (by decide +kernel)
theorem tw1366 : Cond.code yX10_goesWith prog_12_method_58_code 3 none ∈ lw_good := lw_t6 (i := 166) (by decide +kernel) (by decide +kernel)
theorem tw1367 : Cond.methodLink RX10 368 yX10_minds ∈ lw_good := lw_t6 (i := 167) (by decide +kernel) (by decide +kernel)
theorem tw1369 : Cond.instanceMethod yX10_minds ∈ lw_good := lw_t6 (i := 169) (by decide +kernel) (by decide +kernel)
theorem tw1370 : Cond.code yX10_minds prog_12_method_56_code 2 none ∈ lw_good := lw_t6 (i := 170) (by decide +kernel) (by decide +kernel)
theorem tw1371 : Cond.methodLink RX10 371 yX10_forgets ∈ lw_good := lw_t6 (i := 171) (by decide +kernel) (by decide +kernel)
theorem tw1373 : Cond.instanceMethod yX10_forgets ∈ lw_good := lw_t6 (i := 173) (by decide +kernel) (by decide +kernel)
theorem tw1374 : Cond.code yX10_forgets prog_12_method_57_code 2 none ∈ lw_good := lw_t6 (i := 174) (by decide +kernel) (by decide +kernel)
theorem tw1375 : Cond.methodLink RX10 377 yX10_endedNow ∈ lw_good := lw_t6 (i := 175) (by decide +kernel) (by decide +kernel)
theorem tw1377 : Cond.instanceMethod yX10_endedNow ∈ lw_good := lw_t6 (i := 177) (by decide +kernel) (by decide +kernel)
theorem tw1378 : Cond.code yX10_endedNow prog_12_method_47_code 2 (some .int) ∈ lw_good := lw_t6 (i := 178) (by decide +kernel) (by decide +kernel)
theorem tw1379 : Cond.methodLink RL 56 yX10_with ∈ lw_good := lw_t6 (i := 179) (by decide +kernel) (by decide +kernel)
theorem tw1380 : Cond.instanceMethod yX10_with ∈ lw_good := lw_t6 (i := 180) (by decide +kernel) (by decide +kernel)
theorem tw1381 : Cond.selects RX10 yX10_with yX10_with ∈ lw_good := lw_t6 (i := 181) (by decide +kernel) (by decide +kernel)
theorem tw1382 : Cond.code yX10_with prog_12_method_60_code 5 (some .int) ∈ lw_good := lw_t6 (i := 182) (by decide +kernel) (by decide +kernel)
theorem tw1383 : Cond.methodLink RL 60 yX10_solve ∈ lw_good := lw_t6 (i := 183) (by decide +kernel) (by decide +kernel)
theorem tw1384 : Cond.instanceMethod yX10_solve ∈ lw_good := lw_t6 (i := 184) (by decide +kernel) (by decide +kernel)
theorem tw1385 : Cond.selects RX10 yX10_solve yX10_solve ∈ lw_good := lw_t6 (i := 185) (by decide +kernel) (by decide +kernel)
theorem tw1386 : Cond.code yX10_solve prog_12_method_61_code 5 (some .int) ∈ lw_good := lw_t6 (i := 186) (by decide +kernel) (by decide +kernel)
theorem tw1387 : Cond.constant RX10 380 (999999999 : Int32) ∈ lw_good := lw_t6 (i := 187) (by decide +kernel) (by decide +kernel)
theorem tw1388 : Cond.methodLink RL 64 yX10_fewest ∈ lw_good := lw_t6 (i := 188) (by decide +kernel) (by decide +kernel)
theorem tw1389 : Cond.instanceMethod yX10_fewest ∈ lw_good := lw_t6 (i := 189) (by decide +kernel) (by decide +kernel)
theorem tw1390 : Cond.selects RX10 yX10_fewest yX10_fewest ∈ lw_good := lw_t6 (i := 190) (by decide +kernel) (by decide +kernel)
theorem tw1391 : Cond.code yX10_fewest prog_12_method_62_code 7 (some .int) ∈ lw_good := lw_t6 (i := 191) (by decide +kernel) (by decide +kernel)
theorem tw1392 : Cond.methodLink RL 68 yX10_pure ∈ lw_good := lw_t6 (i := 192) (by decide +kernel) (by decide +kernel)
theorem tw1393 : Cond.instanceMethod yX10_pure ∈ lw_good := lw_t6 (i := 193) (by decide +kernel) (by decide +kernel)
theorem tw1394 : Cond.selects RX10 yX10_pure yX10_pure ∈ lw_good := lw_t6 (i := 194) (by decide +kernel) (by decide +kernel)
theorem tw1395 : Cond.code yX10_pure prog_12_method_63_code 5 (some .int) ∈ lw_good := lw_t6 (i := 195) (by decide +kernel) (by decide +kernel)
theorem tw1396 : Cond.methodLink RL 72 yX10_changes ∈ lw_good := lw_t6 (i := 196) (by decide +kernel) (by decide +kernel)
theorem tw1397 : Cond.instanceMethod yX10_changes ∈ lw_good := lw_t6 (i := 197) (by decide +kernel) (by decide +kernel)
theorem tw1398 : Cond.selects RX10 yX10_changes yX10_changes ∈ lw_good := lw_t6 (i := 198) (by decide +kernel) (by decide +kernel)
theorem tw1399 : Cond.code yX10_changes prog_12_method_64_code 4 (some .int) ∈ lw_good := lw_t6 (i := 199) (by decide +kernel) (by decide +kernel)
theorem tw1400 : Cond.methodLink RL 76 yX10_again ∈ lw_good := lw_t6 (i := 200) (by decide +kernel) (by decide +kernel)
theorem tw1401 : Cond.instanceMethod yX10_again ∈ lw_good := lw_t6 (i := 201) (by decide +kernel) (by decide +kernel)
theorem tw1402 : Cond.selects RX10 yX10_again yX10_again ∈ lw_good := lw_t6 (i := 202) (by decide +kernel) (by decide +kernel)
theorem tw1403 : Cond.code yX10_again prog_12_method_65_code 6 (some .int) ∈ lw_good := lw_t6 (i := 203) (by decide +kernel) (by decide +kernel)
theorem tw1404 : Cond.methodLink RL 81 yX10_likely ∈ lw_good := lw_t6 (i := 204) (by decide +kernel) (by decide +kernel)
theorem tw1405 : Cond.instanceMethod yX10_likely ∈ lw_good := lw_t6 (i := 205) (by decide +kernel) (by decide +kernel)
theorem tw1406 : Cond.selects RX10 yX10_likely yX10_likely ∈ lw_good := lw_t6 (i := 206) (by decide +kernel) (by decide +kernel)
theorem tw1407 : Cond.code yX10_likely prog_12_method_68_code 10 (some .long) ∈ lw_good := lw_t6 (i := 207) (by decide +kernel) (by decide +kernel)
theorem tw1408 : Cond.methodLink RX10 385 yX10_lowestOf ∈ lw_good := lw_t6 (i := 208) (by decide +kernel) (by decide +kernel)
theorem tw1410 : Cond.instanceMethod yX10_lowestOf ∈ lw_good := lw_t6 (i := 210) (by decide +kernel) (by decide +kernel)
theorem tw1411 : Cond.code yX10_lowestOf prog_12_method_4_code 2 (some .long) ∈ lw_good := lw_t6 (i := 211) (by decide +kernel) (by decide +kernel)
theorem tw1412 : Cond.constantLong RX10 132 (4000000000000000000 : Int64) ∈ lw_good := lw_t6 (i := 212) (by decide +kernel) (by decide +kernel)
theorem tw1413 : Cond.methodLink RX10 389 yX10_partOf ∈ lw_good := lw_t6 (i := 213) (by decide +kernel) (by decide +kernel)
theorem tw1414 : Cond.static yX10_partOf ∈ lw_good := lw_t6 (i := 214) (by decide +kernel) (by decide +kernel)
theorem tw1415 : Cond.code yX10_partOf prog_12_method_67_code 5 (some .long) ∈ lw_good := lw_t6 (i := 215) (by decide +kernel) (by decide +kernel)
theorem tw1416 : Cond.methodLink RX10 381 yX10_divisor ∈ lw_good := lw_t6 (i := 216) (by decide +kernel) (by decide +kernel)
theorem tw1417 : Cond.static yX10_divisor ∈ lw_good := lw_t6 (i := 217) (by decide +kernel) (by decide +kernel)
theorem tw1418 : Cond.code yX10_divisor prog_12_method_66_code 10 (some .long) ∈ lw_good := lw_t6 (i := 218) (by decide +kernel) (by decide +kernel)
theorem tw1419 : Cond.methodLink RL 85 yX10_mean ∈ lw_good := lw_t6 (i := 219) (by decide +kernel) (by decide +kernel)
theorem tw1420 : Cond.instanceMethod yX10_mean ∈ lw_good := lw_t6 (i := 220) (by decide +kernel) (by decide +kernel)
theorem tw1421 : Cond.selects RX10 yX10_mean yX10_mean ∈ lw_good := lw_t6 (i := 221) (by decide +kernel) (by decide +kernel)
theorem tw1422 : Cond.code yX10_mean prog_12_method_69_code 6 (some .long) ∈ lw_good := lw_t6 (i := 222) (by decide +kernel) (by decide +kernel)
theorem tw1423 : Cond.constantLong RX10 393 (10 : Int64) ∈ lw_good := lw_t6 (i := 223) (by decide +kernel) (by decide +kernel)
theorem tw1424 : Cond.methodLink RL 89 yX10_whatIs ∈ lw_good := lw_t6 (i := 224) (by decide +kernel) (by decide +kernel)
theorem tw1425 : Cond.instanceMethod yX10_whatIs ∈ lw_good := lw_t6 (i := 225) (by decide +kernel) (by decide +kernel)
theorem tw1426 : Cond.selects RX10 yX10_whatIs yX10_whatIs ∈ lw_good := lw_t6 (i := 226) (by decide +kernel) (by decide +kernel)
theorem tw1427 : Cond.code yX10_whatIs prog_12_method_71_code 4 (some .int) ∈ lw_good := lw_t6 (i := 227) (by decide +kernel) (by decide +kernel)
theorem tw1428 : Cond.methodLink RX10 398 yX10_endsSo ∈ lw_good := lw_t6 (i := 228) (by decide +kernel) (by decide +kernel)
theorem tw1430 : Cond.instanceMethod yX10_endsSo ∈ lw_good := lw_t6 (i := 230) (by decide +kernel) (by decide +kernel)
theorem tw1431 : Cond.code yX10_endsSo prog_12_method_70_code 4 (some .boolean) ∈ lw_good := lw_t6 (i := 231) (by decide +kernel) (by decide +kernel)
theorem tw1432 : Cond.methodLink RL 93 yX10_row ∈ lw_good := lw_t6 (i := 232) (by decide +kernel) (by decide +kernel)
theorem tw1433 : Cond.instanceMethod yX10_row ∈ lw_good := lw_t6 (i := 233) (by decide +kernel) (by decide +kernel)
theorem tw1434 : Cond.selects RX10 yX10_row yX10_row ∈ lw_good := lw_t6 (i := 234) (by decide +kernel) (by decide +kernel)
theorem tw1435 : Cond.code yX10_row prog_12_method_72_code 3 (some .int) ∈ lw_good := lw_t6 (i := 235) (by decide +kernel) (by decide +kernel)
theorem tw1436 : Cond.methodLink RL 97 yX10_judge ∈ lw_good := lw_t6 (i := 236) (by decide +kernel) (by decide +kernel)
theorem tw1437 : Cond.instanceMethod yX10_judge ∈ lw_good := lw_t6 (i := 237) (by decide +kernel) (by decide +kernel)
theorem tw1438 : Cond.selects RX10 yX10_judge yX10_judge ∈ lw_good := lw_t6 (i := 238) (by decide +kernel) (by decide +kernel)
theorem tw1439 : Cond.code yX10_judge prog_12_method_73_code 3 (some .int) ∈ lw_good := lw_t6 (i := 239) (by decide +kernel) (by decide +kernel)
theorem tw1440 : Cond.methodLink RL 101 yX10_clear ∈ lw_good := lw_t7 (i := 0) (by decide +kernel) (by decide +kernel)
theorem tw1441 : Cond.instanceMethod yX10_clear ∈ lw_good := lw_t7 (i := 1) (by decide +kernel) (by decide +kernel)
theorem tw1442 : Cond.selects RX10 yX10_clear yX10_clear ∈ lw_good := lw_t7 (i := 2) (by decide +kernel) (by decide +kernel)
theorem tw1443 : Cond.code yX10_clear prog_12_method_74_code 2 (some .int) ∈ lw_good := lw_t7 (i := 3) (by decide +kernel) (by decide +kernel)
theorem tw1444 : Cond.methodLink RL 105 yX10_lots ∈ lw_good := lw_t7 (i := 4) (by decide +kernel) (by decide +kernel)
theorem tw1445 : Cond.instanceMethod yX10_lots ∈ lw_good := lw_t7 (i := 5) (by decide +kernel) (by decide +kernel)
theorem tw1446 : Cond.selects RX10 yX10_lots yX10_lots ∈ lw_good := lw_t7 (i := 6) (by decide +kernel) (by decide +kernel)
theorem tw1447 : Cond.code yX10_lots prog_12_method_76_code 8 (some .int) ∈ lw_good := lw_t7 (i := 7) (by decide +kernel) (by decide +kernel)
theorem tw1448 : Cond.methodLink RX10 407 yX10_draw ∈ lw_good := lw_t7 (i := 8) (by decide +kernel) (by decide +kernel)
theorem tw1450 : Cond.instanceMethod yX10_draw ∈ lw_good := lw_t7 (i := 10) (by decide +kernel) (by decide +kernel)
theorem tw1451 : Cond.code yX10_draw prog_12_method_75_code 2 (some .int) ∈ lw_good := lw_t7 (i := 11) (by decide +kernel) (by decide +kernel)
theorem tw1452 : Cond.constant RX10 404 (1664525 : Int32) ∈ lw_good := lw_t7 (i := 12) (by decide +kernel) (by decide +kernel)
theorem tw1453 : Cond.constant RX10 405 (1013904223 : Int32) ∈ lw_good := lw_t7 (i := 13) (by decide +kernel) (by decide +kernel)
theorem tw1454 : Cond.constant RX10 406 (2147483647 : Int32) ∈ lw_good := lw_t7 (i := 14) (by decide +kernel) (by decide +kernel)
theorem tw1455 : Cond.methodLink RL 109 yX10_image ∈ lw_good := lw_t7 (i := 15) (by decide +kernel) (by decide +kernel)
theorem tw1456 : Cond.instanceMethod yX10_image ∈ lw_good := lw_t7 (i := 16) (by decide +kernel) (by decide +kernel)
theorem tw1457 : Cond.selects RX10 yX10_image yX10_image ∈ lw_good := lw_t7 (i := 17) (by decide +kernel) (by decide +kernel)
theorem tw1458 : Cond.code yX10_image prog_12_method_80_code 1 (some .int) ∈ lw_good := lw_t7 (i := 18) (by decide +kernel) (by decide +kernel)
theorem tw1459 : Cond.methodLink RX10 427 yX10_passesAll ∈ lw_good := lw_t7 (i := 19) (by decide +kernel) (by decide +kernel)
theorem tw1461 : Cond.instanceMethod yX10_passesAll ∈ lw_good := lw_t7 (i := 21) (by decide +kernel) (by decide +kernel)
theorem tw1462 : Cond.code yX10_passesAll prog_12_method_79_code 2 none ∈ lw_good := lw_t7 (i := 22) (by decide +kernel) (by decide +kernel)
theorem tw1463 : Cond.methodLink RX10 417 yX10_passes ∈ lw_good := lw_t7 (i := 23) (by decide +kernel) (by decide +kernel)
theorem tw1465 : Cond.instanceMethod yX10_passes ∈ lw_good := lw_t7 (i := 25) (by decide +kernel) (by decide +kernel)
theorem tw1466 : Cond.code yX10_passes prog_12_method_77_code 3 none ∈ lw_good := lw_t7 (i := 26) (by decide +kernel) (by decide +kernel)
theorem tw1467 : Cond.methodLink RX10 421 yX10_passOne ∈ lw_good := lw_t7 (i := 27) (by decide +kernel) (by decide +kernel)
theorem tw1469 : Cond.instanceMethod yX10_passOne ∈ lw_good := lw_t7 (i := 29) (by decide +kernel) (by decide +kernel)
theorem tw1470 : Cond.code yX10_passOne prog_12_method_78_code 3 (some .int) ∈ lw_good := lw_t7 (i := 30) (by decide +kernel) (by decide +kernel)
theorem tw1471 : Cond.methodLink RL 113 yX10_on ∈ lw_good := lw_t7 (i := 31) (by decide +kernel) (by decide +kernel)
theorem tw1472 : Cond.instanceMethod yX10_on ∈ lw_good := lw_t7 (i := 32) (by decide +kernel) (by decide +kernel)
theorem tw1473 : Cond.selects RX10 yX10_on yX10_on ∈ lw_good := lw_t7 (i := 33) (by decide +kernel) (by decide +kernel)
theorem tw1474 : Cond.code yX10_on prog_12_method_81_code 1 (some .int) ∈ lw_good := lw_t7 (i := 34) (by decide +kernel) (by decide +kernel)
theorem tw1475 : Cond.methodLink RL 117 yX10_count ∈ lw_good := lw_t7 (i := 35) (by decide +kernel) (by decide +kernel)
theorem tw1476 : Cond.instanceMethod yX10_count ∈ lw_good := lw_t7 (i := 36) (by decide +kernel) (by decide +kernel)
theorem tw1477 : Cond.selects RX10 yX10_count yX10_count ∈ lw_good := lw_t7 (i := 37) (by decide +kernel) (by decide +kernel)
theorem tw1478 : Cond.code yX10_count prog_12_method_83_code 2 (some .int) ∈ lw_good := lw_t7 (i := 38) (by decide +kernel) (by decide +kernel)
theorem tw1479 : Cond.methodLink RX10 431 yX10_allOf ∈ lw_good := lw_t7 (i := 39) (by decide +kernel) (by decide +kernel)
theorem tw1480 : Cond.static yX10_allOf ∈ lw_good := lw_t7 (i := 40) (by decide +kernel) (by decide +kernel)
theorem tw1481 : Cond.code yX10_allOf prog_12_method_82_code 6 (some .int) ∈ lw_good := lw_t7 (i := 41) (by decide +kernel) (by decide +kernel)
theorem tw1482 : Cond.fieldLink RJ0 9 "java/lang/String" "value" "[B" ∈ lw_good := lw_t7 (i := 42) (by decide +kernel) (by decide +kernel)
theorem tw1483 : Cond.fieldLink RJ0 15 "java/lang/String" "coder" "B" ∈ lw_good := lw_t7 (i := 43) (by decide +kernel) (by decide +kernel)
theorem twp0 : Cond.selects RX9 yX9_refuse yX9_refuse ∈ lw_good := List.mem_filter.mpr ⟨List.mem_append_left _ (List.mem_of_getElem? (i := 0) (by decide +kernel)), by decide +kernel⟩
theorem twp1 : Cond.selects RX3 yX3_await yX3_await ∈ lw_good := List.mem_filter.mpr ⟨List.mem_append_left _ (List.mem_of_getElem? (i := 1) (by decide +kernel)), by decide +kernel⟩
theorem twp2 : Cond.selects RX3 yX3_fits yX3_fits ∈ lw_good := List.mem_filter.mpr ⟨List.mem_append_left _ (List.mem_of_getElem? (i := 2) (by decide +kernel)), by decide +kernel⟩
theorem twp3 : Cond.selects RX3 yX3_placeBeyondLimits yX3_placeBeyondLimits ∈ lw_good := List.mem_filter.mpr ⟨List.mem_append_left _ (List.mem_of_getElem? (i := 3) (by decide +kernel)), by decide +kernel⟩
theorem twp4 : Cond.selects RX5 yX5_comesToEnd yX5_comesToEnd ∈ lw_good := List.mem_filter.mpr ⟨List.mem_append_left _ (List.mem_of_getElem? (i := 4) (by decide +kernel)), by decide +kernel⟩
theorem twp5 : Cond.selects RX9 yX9_refuseNumber yX9_refuseNumber ∈ lw_good := List.mem_filter.mpr ⟨List.mem_append_left _ (List.mem_of_getElem? (i := 5) (by decide +kernel)), by decide +kernel⟩
theorem twp6 : Cond.selects RX9 yX9_thinkOf yX9_thinkOf ∈ lw_good := List.mem_filter.mpr ⟨List.mem_append_left _ (List.mem_of_getElem? (i := 6) (by decide +kernel)), by decide +kernel⟩
theorem twp7 : Cond.selects RX4 yX4_start yX4_start ∈ lw_good := List.mem_filter.mpr ⟨List.mem_append_left _ (List.mem_of_getElem? (i := 7) (by decide +kernel)), by decide +kernel⟩
theorem twp8 : Cond.selects RX4 yX4_forgetFault yX4_forgetFault ∈ lw_good := List.mem_filter.mpr ⟨List.mem_append_left _ (List.mem_of_getElem? (i := 8) (by decide +kernel)), by decide +kernel⟩
theorem twp9 : Cond.selects RX4 yX4_begin yX4_begin ∈ lw_good := List.mem_filter.mpr ⟨List.mem_append_left _ (List.mem_of_getElem? (i := 9) (by decide +kernel)), by decide +kernel⟩
theorem twp10 : Cond.selects RX4 yX4_beginExpression yX4_beginExpression ∈ lw_good := List.mem_filter.mpr ⟨List.mem_append_left _ (List.mem_of_getElem? (i := 10) (by decide +kernel)), by decide +kernel⟩
theorem twp11 : Cond.selects RX4 yX4_fail yX4_fail ∈ lw_good := List.mem_filter.mpr ⟨List.mem_append_left _ (List.mem_of_getElem? (i := 11) (by decide +kernel)), by decide +kernel⟩
theorem twp12 : Cond.selects RX4 yX4_give yX4_give ∈ lw_good := List.mem_filter.mpr ⟨List.mem_append_left _ (List.mem_of_getElem? (i := 12) (by decide +kernel)), by decide +kernel⟩
theorem twp13 : Cond.selects RX4 yX4_valueOfVariable yX4_valueOfVariable ∈ lw_good := List.mem_filter.mpr ⟨List.mem_append_left _ (List.mem_of_getElem? (i := 13) (by decide +kernel)), by decide +kernel⟩
theorem twp14 : Cond.selects RX4 yX4_useValue yX4_useValue ∈ lw_good := List.mem_filter.mpr ⟨List.mem_append_left _ (List.mem_of_getElem? (i := 14) (by decide +kernel)), by decide +kernel⟩
theorem twp15 : Cond.selects RX4 yX4_useOneOfTwo yX4_useOneOfTwo ∈ lw_good := List.mem_filter.mpr ⟨List.mem_append_left _ (List.mem_of_getElem? (i := 15) (by decide +kernel)), by decide +kernel⟩
theorem twp16 : Cond.selects RX4 yX4_reckon yX4_reckon ∈ lw_good := List.mem_filter.mpr ⟨List.mem_append_left _ (List.mem_of_getElem? (i := 16) (by decide +kernel)), by decide +kernel⟩
theorem twp17 : Cond.selects RX4 yX4_call yX4_call ∈ lw_good := List.mem_filter.mpr ⟨List.mem_append_left _ (List.mem_of_getElem? (i := 17) (by decide +kernel)), by decide +kernel⟩
theorem twp18 : Cond.selects RX4 yX4_useForCall yX4_useForCall ∈ lw_good := List.mem_filter.mpr ⟨List.mem_append_left _ (List.mem_of_getElem? (i := 18) (by decide +kernel)), by decide +kernel⟩
theorem twp19 : Cond.selects RX4 yX4_choose yX4_choose ∈ lw_good := List.mem_filter.mpr ⟨List.mem_append_left _ (List.mem_of_getElem? (i := 19) (by decide +kernel)), by decide +kernel⟩
theorem twp20 : Cond.selects RX4 yX4_beginSecondWithCell yX4_beginSecondWithCell ∈ lw_good := List.mem_filter.mpr ⟨List.mem_append_left _ (List.mem_of_getElem? (i := 20) (by decide +kernel)), by decide +kernel⟩
theorem twp21 : Cond.selects RX4 yX4_store yX4_store ∈ lw_good := List.mem_filter.mpr ⟨List.mem_append_left _ (List.mem_of_getElem? (i := 21) (by decide +kernel)), by decide +kernel⟩
theorem twp22 : Cond.selects RX4 yX4_findField yX4_findField ∈ lw_good := List.mem_filter.mpr ⟨List.mem_append_left _ (List.mem_of_getElem? (i := 22) (by decide +kernel)), by decide +kernel⟩
theorem twp23 : Cond.selects RX4 yX4_failAsTold yX4_failAsTold ∈ lw_good := List.mem_filter.mpr ⟨List.mem_append_left _ (List.mem_of_getElem? (i := 23) (by decide +kernel)), by decide +kernel⟩
theorem twp24 : Cond.selects RX4 yX4_passFaultOn yX4_passFaultOn ∈ lw_good := List.mem_filter.mpr ⟨List.mem_append_left _ (List.mem_of_getElem? (i := 24) (by decide +kernel)), by decide +kernel⟩
theorem twp25 : Cond.selects RX4 yX4_tellEnding yX4_tellEnding ∈ lw_good := List.mem_filter.mpr ⟨List.mem_append_left _ (List.mem_of_getElem? (i := 25) (by decide +kernel)), by decide +kernel⟩
theorem twp26 : Cond.selects RX9 yX9_thinkWith yX9_thinkWith ∈ lw_good := List.mem_filter.mpr ⟨List.mem_append_left _ (List.mem_of_getElem? (i := 26) (by decide +kernel)), by decide +kernel⟩
theorem twp27 : Cond.selects RX9 yX9_refuseLong yX9_refuseLong ∈ lw_good := List.mem_filter.mpr ⟨List.mem_append_left _ (List.mem_of_getElem? (i := 27) (by decide +kernel)), by decide +kernel⟩
theorem twp28 : Cond.selects RX9 yX9_rowTellsEndsFrom yX9_rowTellsEndsFrom ∈ lw_good := List.mem_filter.mpr ⟨List.mem_append_left _ (List.mem_of_getElem? (i := 28) (by decide +kernel)), by decide +kernel⟩
theorem twp29 : Cond.selects RX10 yX10_builds yX10_builds ∈ lw_good := List.mem_filter.mpr ⟨List.mem_append_left _ (List.mem_of_getElem? (i := 29) (by decide +kernel)), by decide +kernel⟩
theorem twp30 : Cond.selects RX10 yX10_buildsOne yX10_buildsOne ∈ lw_good := List.mem_filter.mpr ⟨List.mem_append_left _ (List.mem_of_getElem? (i := 30) (by decide +kernel)), by decide +kernel⟩
theorem twp31 : Cond.selects RX10 yX10_pops yX10_pops ∈ lw_good := List.mem_filter.mpr ⟨List.mem_append_left _ (List.mem_of_getElem? (i := 31) (by decide +kernel)), by decide +kernel⟩
theorem twp32 : Cond.selects RX10 yX10_no yX10_no ∈ lw_good := List.mem_filter.mpr ⟨List.mem_append_left _ (List.mem_of_getElem? (i := 32) (by decide +kernel)), by decide +kernel⟩
theorem twp33 : Cond.selects RX10 yX10_reads yX10_reads ∈ lw_good := List.mem_filter.mpr ⟨List.mem_append_left _ (List.mem_of_getElem? (i := 33) (by decide +kernel)), by decide +kernel⟩
theorem twp34 : Cond.selects RX10 yX10_awaits yX10_awaits ∈ lw_good := List.mem_filter.mpr ⟨List.mem_append_left _ (List.mem_of_getElem? (i := 34) (by decide +kernel)), by decide +kernel⟩
theorem twp35 : Cond.selects RX10 yX10_readsOne yX10_readsOne ∈ lw_good := List.mem_filter.mpr ⟨List.mem_append_left _ (List.mem_of_getElem? (i := 35) (by decide +kernel)), by decide +kernel⟩
theorem twp36 : Cond.selects RX10 yX10_awaitsParts yX10_awaitsParts ∈ lw_good := List.mem_filter.mpr ⟨List.mem_append_left _ (List.mem_of_getElem? (i := 36) (by decide +kernel)), by decide +kernel⟩
theorem twp37 : Cond.selects RX10 yX10_goes yX10_goes ∈ lw_good := List.mem_filter.mpr ⟨List.mem_append_left _ (List.mem_of_getElem? (i := 37) (by decide +kernel)), by decide +kernel⟩
theorem twp38 : Cond.selects RX10 yX10_makes yX10_makes ∈ lw_good := List.mem_filter.mpr ⟨List.mem_append_left _ (List.mem_of_getElem? (i := 38) (by decide +kernel)), by decide +kernel⟩
theorem twp39 : Cond.selects RX10 yX10_begins yX10_begins ∈ lw_good := List.mem_filter.mpr ⟨List.mem_append_left _ (List.mem_of_getElem? (i := 39) (by decide +kernel)), by decide +kernel⟩
theorem twp40 : Cond.selects RX10 yX10_fails yX10_fails ∈ lw_good := List.mem_filter.mpr ⟨List.mem_append_left _ (List.mem_of_getElem? (i := 40) (by decide +kernel)), by decide +kernel⟩
theorem twp41 : Cond.selects RX10 yX10_faultOf yX10_faultOf ∈ lw_good := List.mem_filter.mpr ⟨List.mem_append_left _ (List.mem_of_getElem? (i := 41) (by decide +kernel)), by decide +kernel⟩
theorem twp42 : Cond.selects RX10 yX10_valueOf yX10_valueOf ∈ lw_good := List.mem_filter.mpr ⟨List.mem_append_left _ (List.mem_of_getElem? (i := 42) (by decide +kernel)), by decide +kernel⟩
theorem twp43 : Cond.selects RX10 yX10_has yX10_has ∈ lw_good := List.mem_filter.mpr ⟨List.mem_append_left _ (List.mem_of_getElem? (i := 43) (by decide +kernel)), by decide +kernel⟩
theorem twp44 : Cond.selects RX10 yX10_looksUp yX10_looksUp ∈ lw_good := List.mem_filter.mpr ⟨List.mem_append_left _ (List.mem_of_getElem? (i := 44) (by decide +kernel)), by decide +kernel⟩
theorem twp45 : Cond.selects RX10 yX10_cellOf yX10_cellOf ∈ lw_good := List.mem_filter.mpr ⟨List.mem_append_left _ (List.mem_of_getElem? (i := 45) (by decide +kernel)), by decide +kernel⟩
theorem twp46 : Cond.selects RX10 yX10_waitsFor yX10_waitsFor ∈ lw_good := List.mem_filter.mpr ⟨List.mem_append_left _ (List.mem_of_getElem? (i := 46) (by decide +kernel)), by decide +kernel⟩
theorem twp47 : Cond.selects RX10 yX10_goesOn yX10_goesOn ∈ lw_good := List.mem_filter.mpr ⟨List.mem_append_left _ (List.mem_of_getElem? (i := 47) (by decide +kernel)), by decide +kernel⟩
theorem twp48 : Cond.selects RX10 yX10_isFirstOfTwo yX10_isFirstOfTwo ∈ lw_good := List.mem_filter.mpr ⟨List.mem_append_left _ (List.mem_of_getElem? (i := 48) (by decide +kernel)), by decide +kernel⟩
theorem twp49 : Cond.selects RX10 yX10_keepsFirst yX10_keepsFirst ∈ lw_good := List.mem_filter.mpr ⟨List.mem_append_left _ (List.mem_of_getElem? (i := 49) (by decide +kernel)), by decide +kernel⟩
theorem twp50 : Cond.selects RX10 yX10_goesOnOf yX10_goesOnOf ∈ lw_good := List.mem_filter.mpr ⟨List.mem_append_left _ (List.mem_of_getElem? (i := 50) (by decide +kernel)), by decide +kernel⟩
theorem twp51 : Cond.selects RX10 yX10_reckons yX10_reckons ∈ lw_good := List.mem_filter.mpr ⟨List.mem_append_left _ (List.mem_of_getElem? (i := 51) (by decide +kernel)), by decide +kernel⟩
theorem twp52 : Cond.selects RX10 yX10_chooses yX10_chooses ∈ lw_good := List.mem_filter.mpr ⟨List.mem_append_left _ (List.mem_of_getElem? (i := 52) (by decide +kernel)), by decide +kernel⟩
theorem twp53 : Cond.selects RX10 yX10_frameWith yX10_frameWith ∈ lw_good := List.mem_filter.mpr ⟨List.mem_append_left _ (List.mem_of_getElem? (i := 53) (by decide +kernel)), by decide +kernel⟩
theorem twp54 : Cond.selects RX10 yX10_puts yX10_puts ∈ lw_good := List.mem_filter.mpr ⟨List.mem_append_left _ (List.mem_of_getElem? (i := 54) (by decide +kernel)), by decide +kernel⟩
theorem twp55 : Cond.selects RX10 yX10_calls yX10_calls ∈ lw_good := List.mem_filter.mpr ⟨List.mem_append_left _ (List.mem_of_getElem? (i := 55) (by decide +kernel)), by decide +kernel⟩
theorem twp56 : Cond.selects RX10 yX10_findsField yX10_findsField ∈ lw_good := List.mem_filter.mpr ⟨List.mem_append_left _ (List.mem_of_getElem? (i := 56) (by decide +kernel)), by decide +kernel⟩
theorem twp57 : Cond.selects RX10 yX10_passesCache yX10_passesCache ∈ lw_good := List.mem_filter.mpr ⟨List.mem_append_left _ (List.mem_of_getElem? (i := 57) (by decide +kernel)), by decide +kernel⟩
theorem twp58 : Cond.selects RX10 yX10_throwsNow yX10_throwsNow ∈ lw_good := List.mem_filter.mpr ⟨List.mem_append_left _ (List.mem_of_getElem? (i := 58) (by decide +kernel)), by decide +kernel⟩
theorem twp59 : Cond.selects RX10 yX10_falls yX10_falls ∈ lw_good := List.mem_filter.mpr ⟨List.mem_append_left _ (List.mem_of_getElem? (i := 59) (by decide +kernel)), by decide +kernel⟩
theorem twp60 : Cond.selects RX10 yX10_tellsLast yX10_tellsLast ∈ lw_good := List.mem_filter.mpr ⟨List.mem_append_left _ (List.mem_of_getElem? (i := 60) (by decide +kernel)), by decide +kernel⟩
theorem twp61 : Cond.selects RX10 yX10_howNow yX10_howNow ∈ lw_good := List.mem_filter.mpr ⟨List.mem_append_left _ (List.mem_of_getElem? (i := 61) (by decide +kernel)), by decide +kernel⟩
theorem twp62 : Cond.selects RX10 yX10_numberNow yX10_numberNow ∈ lw_good := List.mem_filter.mpr ⟨List.mem_append_left _ (List.mem_of_getElem? (i := 62) (by decide +kernel)), by decide +kernel⟩
theorem twp63 : Cond.selects RX10 yX10_causesNow yX10_causesNow ∈ lw_good := List.mem_filter.mpr ⟨List.mem_append_left _ (List.mem_of_getElem? (i := 63) (by decide +kernel)), by decide +kernel⟩
theorem twp64 : Cond.selects RX10 yX10_lower yX10_lower ∈ lw_good := List.mem_filter.mpr ⟨List.mem_append_left _ (List.mem_of_getElem? (i := 64) (by decide +kernel)), by decide +kernel⟩
theorem twp65 : Cond.selects RX10 yX10_stateOf yX10_stateOf ∈ lw_good := List.mem_filter.mpr ⟨List.mem_append_left _ (List.mem_of_getElem? (i := 65) (by decide +kernel)), by decide +kernel⟩
theorem twp66 : Cond.selects RX10 yX10_goesWith yX10_goesWith ∈ lw_good := List.mem_filter.mpr ⟨List.mem_append_left _ (List.mem_of_getElem? (i := 66) (by decide +kernel)), by decide +kernel⟩
theorem twp67 : Cond.selects RX10 yX10_minds yX10_minds ∈ lw_good := List.mem_filter.mpr ⟨List.mem_append_left _ (List.mem_of_getElem? (i := 67) (by decide +kernel)), by decide +kernel⟩
theorem twp68 : Cond.selects RX10 yX10_forgets yX10_forgets ∈ lw_good := List.mem_filter.mpr ⟨List.mem_append_left _ (List.mem_of_getElem? (i := 68) (by decide +kernel)), by decide +kernel⟩
theorem twp69 : Cond.selects RX10 yX10_endedNow yX10_endedNow ∈ lw_good := List.mem_filter.mpr ⟨List.mem_append_left _ (List.mem_of_getElem? (i := 69) (by decide +kernel)), by decide +kernel⟩
theorem twp70 : Cond.selects RX10 yX10_lowestOf yX10_lowestOf ∈ lw_good := List.mem_filter.mpr ⟨List.mem_append_left _ (List.mem_of_getElem? (i := 70) (by decide +kernel)), by decide +kernel⟩
theorem twp71 : Cond.selects RX10 yX10_endsSo yX10_endsSo ∈ lw_good := List.mem_filter.mpr ⟨List.mem_append_left _ (List.mem_of_getElem? (i := 71) (by decide +kernel)), by decide +kernel⟩
theorem twp72 : Cond.selects RX10 yX10_draw yX10_draw ∈ lw_good := List.mem_filter.mpr ⟨List.mem_append_left _ (List.mem_of_getElem? (i := 72) (by decide +kernel)), by decide +kernel⟩
theorem twp73 : Cond.selects RX10 yX10_passesAll yX10_passesAll ∈ lw_good := List.mem_filter.mpr ⟨List.mem_append_left _ (List.mem_of_getElem? (i := 73) (by decide +kernel)), by decide +kernel⟩
theorem twp74 : Cond.selects RX10 yX10_passes yX10_passes ∈ lw_good := List.mem_filter.mpr ⟨List.mem_append_left _ (List.mem_of_getElem? (i := 74) (by decide +kernel)), by decide +kernel⟩
theorem twp75 : Cond.selects RX10 yX10_passOne yX10_passOne ∈ lw_good := List.mem_filter.mpr ⟨List.mem_append_left _ (List.mem_of_getElem? (i := 75) (by decide +kernel)), by decide +kernel⟩
theorem iwX0 : ∀ w ∈ wsX00, w ∈ lw_good := by decide +kernel
theorem iwX1 : ∀ w ∈ wsX10, w ∈ lw_good := by decide +kernel
theorem iwX2 : ∀ w ∈ wsX20, w ∈ lw_good := by decide +kernel
theorem iwX3 : ∀ w ∈ wsX30, w ∈ lw_good := by decide +kernel
theorem iwX4 : ∀ w ∈ wsX40, w ∈ lw_good := by decide +kernel
theorem iwX5 : ∀ w ∈ wsX50, w ∈ lw_good := by decide +kernel
theorem iwX6 : ∀ w ∈ wsX60, w ∈ lw_good := by decide +kernel
theorem iwX7 : ∀ w ∈ wsX70, w ∈ lw_good := by decide +kernel
theorem iwX8 : ∀ w ∈ wsX80, w ∈ lw_good := by decide +kernel
theorem iwX9 : ∀ w ∈ wsX90, w ∈ lw_good := by decide +kernel
theorem iwX10 : ∀ w ∈ wsX100, w ∈ lw_good := by decide +kernel
