def RX0 : String := "RuleForge$CriticalPairs"
def TX0 : u_T := fun k => match k with
  | 0 => ("RuleForge$CriticalPairs", "terms", "LRuleForge$Terms;", true)
  | 1 => ("RuleForge$CriticalPairs", "signature", "LRuleForge$Signature;", true)
  | 2 => ("RuleForge$CriticalPairs", "laws", "LRuleForge$Laws;", true)
  | 3 => ("RuleForge$CriticalPairs", "reducer", "LRuleForge$Reducer;", true)
  | 4 => ("RuleForge$CriticalPairs", "count", "I", false)
  | 5 => ("RuleForge$CriticalPairs", "firsts", "[I", true)
  | 6 => ("RuleForge$CriticalPairs", "seconds", "[I", true)
  | 7 => ("RuleForge$CriticalPairs", "places", "[I", true)
  | 8 => ("RuleForge$CriticalPairs", "upTo", "I", false)
  | 9 => ("RuleForge$CriticalPairs", "unifier", "[I", true)
  | 10 => ("RuleForge$CriticalPairs", "one", "I", false)
  | 11 => ("RuleForge$CriticalPairs", "other", "I", false)
  | 12 => ("RuleForge$CriticalPairs", "taken", "I", false)
  | _ => ("RuleForge$CriticalPairs", "difference", "[J", true)
def tyX0 : Nat → FieldType := fun k => match k with
  | 0 => .object "RuleForge$Terms"
  | 1 => .object "RuleForge$Signature"
  | 2 => .object "RuleForge$Laws"
  | 3 => .object "RuleForge$Reducer"
  | 4 => .int
  | 5 => .array .int
  | 6 => .array .int
  | 7 => .array .int
  | 8 => .int
  | 9 => .array .int
  | 10 => .int
  | 11 => .int
  | 12 => .int
  | _ => .array .long
theorem nmX0 : ∀ a, a < 14 → ∀ b, b < 14 → a ≠ b → (TX0 a).2.1 ≠ (TX0 b).2.1 := by decide +kernel
theorem tyX0_ok : ∀ k, k < 14 → parseFieldDescriptor (TX0 k).2.2.1 = some (tyX0 k) := by decide +kernel
abbrev cX0_init : ByteArray := prog_2_method_1_code
def yX0_init : MethodName := ⟨RX0, "<init>", "(LRuleForge$Reducer;)V"⟩
def RX1 : String := "RuleForge$Explorer"
def TX1 : u_T := fun k => match k with
  | 0 => ("RuleForge$Explorer", "terms", "LRuleForge$Terms;", true)
  | 1 => ("RuleForge$Explorer", "walker", "LRuleForge$Walker;", true)
  | 2 => ("RuleForge$Explorer", "states", "I", false)
  | 3 => ("RuleForge$Explorer", "cut", "Z", false)
  | 4 => ("RuleForge$Explorer", "from", "[I", true)
  | 5 => ("RuleForge$Explorer", "by", "[I", true)
  | 6 => ("RuleForge$Explorer", "ahead", "[I", true)
  | 7 => ("RuleForge$Explorer", "used", "I", false)
  | _ => ("RuleForge$Explorer", "taken", "I", false)
def tyX1 : Nat → FieldType := fun k => match k with
  | 0 => .object "RuleForge$Terms"
  | 1 => .object "RuleForge$Walker"
  | 2 => .int
  | 3 => .boolean
  | 4 => .array .int
  | 5 => .array .int
  | 6 => .array .int
  | 7 => .int
  | _ => .int
theorem nmX1 : ∀ a, a < 9 → ∀ b, b < 9 → a ≠ b → (TX1 a).2.1 ≠ (TX1 b).2.1 := by decide +kernel
theorem tyX1_ok : ∀ k, k < 9 → parseFieldDescriptor (TX1 k).2.2.1 = some (tyX1 k) := by decide +kernel
abbrev cX1_init : ByteArray := prog_3_method_1_code
def yX1_init : MethodName := ⟨RX1, "<init>", "(LRuleForge$Walker;)V"⟩
def RX2 : String := "RuleForge$Laws"
def TX2 : u_T := fun k => match k with
  | 0 => ("RuleForge$Laws", "terms", "LRuleForge$Terms;", true)
  | 1 => ("RuleForge$Laws", "signature", "LRuleForge$Signature;", true)
  | 2 => ("RuleForge$Laws", "equations", "I", false)
  | 3 => ("RuleForge$Laws", "rules", "I", false)
  | _ => ("RuleForge$Laws", "hasCondition", "[Z", true)
def tyX2 : Nat → FieldType := fun k => match k with
  | 0 => .object "RuleForge$Terms"
  | 1 => .object "RuleForge$Signature"
  | 2 => .int
  | 3 => .int
  | _ => .array .boolean
theorem nmX2 : ∀ a, a < 5 → ∀ b, b < 5 → a ≠ b → (TX2 a).2.1 ≠ (TX2 b).2.1 := by decide +kernel
theorem tyX2_ok : ∀ k, k < 5 → parseFieldDescriptor (TX2 k).2.2.1 = some (tyX2 k) := by decide +kernel
abbrev cX2_init : ByteArray := prog_4_method_1_code
def yX2_init : MethodName := ⟨RX2, "<init>", "(LRuleForge$Terms;)V"⟩
abbrev cX2_areTold : ByteArray := prog_4_method_2_code
def yX2_areTold : MethodName := ⟨RX2, "areTold", "()Z"⟩
abbrev cX2_partAt : ByteArray := prog_4_method_3_code
def yX2_partAt : MethodName := ⟨RX2, "partAt", "(II)I"⟩
abbrev cX2_add : ByteArray := prog_4_method_4_code
def yX2_add : MethodName := ⟨RX2, "add", "(ZZ)I"⟩
abbrev cX2_canFit : ByteArray := prog_4_method_5_code
def yX2_canFit : MethodName := ⟨RX2, "canFit", "(II)Z"⟩
abbrev cX2_argumentFits : ByteArray := prog_4_method_6_code
def yX2_argumentFits : MethodName := ⟨RX2, "argumentFits", "(II)Z"⟩
def RX3 : String := "RuleForge$Matcher"
def TX3 : u_T := fun k => match k with
  | 0 => ("RuleForge$Matcher", "terms", "LRuleForge$Terms;", true)
  | 1 => ("RuleForge$Matcher", "signature", "LRuleForge$Signature;", true)
  | 2 => ("RuleForge$Matcher", "pieces", "LRuleForge$Pieces;", true)
  | 3 => ("RuleForge$Matcher", "sorts", "[I", true)
  | 4 => ("RuleForge$Matcher", "bound", "[I", true)
  | 5 => ("RuleForge$Matcher", "variables", "I", false)
  | 6 => ("RuleForge$Matcher", "dutyAt", "[I", true)
  | 7 => ("RuleForge$Matcher", "dutyPiece", "[I", true)
  | 8 => ("RuleForge$Matcher", "dutyOperator", "[I", true)
  | 9 => ("RuleForge$Matcher", "dutyLeft", "[I", true)
  | 10 => ("RuleForge$Matcher", "dutyMask", "[I", true)
  | 11 => ("RuleForge$Matcher", "dutyNext", "[I", true)
  | 12 => ("RuleForge$Matcher", "duties", "I", false)
  | 13 => ("RuleForge$Matcher", "listAt", "I", false)
  | 14 => ("RuleForge$Matcher", "rankedAt", "I", false)
  | _ => ("RuleForge$Matcher", "found", "I", false)
def tyX3 : Nat → FieldType := fun k => match k with
  | 0 => .object "RuleForge$Terms"
  | 1 => .object "RuleForge$Signature"
  | 2 => .object "RuleForge$Pieces"
  | 3 => .array .int
  | 4 => .array .int
  | 5 => .int
  | 6 => .array .int
  | 7 => .array .int
  | 8 => .array .int
  | 9 => .array .int
  | 10 => .array .int
  | 11 => .array .int
  | 12 => .int
  | 13 => .int
  | 14 => .int
  | _ => .int
theorem nmX3 : ∀ a, a < 16 → ∀ b, b < 16 → a ≠ b → (TX3 a).2.1 ≠ (TX3 b).2.1 := by decide +kernel
theorem tyX3_ok : ∀ k, k < 16 → parseFieldDescriptor (TX3 k).2.2.1 = some (tyX3 k) := by decide +kernel
abbrev cX3_init : ByteArray := prog_5_method_1_code
def yX3_init : MethodName := ⟨RX3, "<init>", "(LRuleForge$Terms;)V"⟩
abbrev cX3_list : ByteArray := prog_5_method_2_code
def yX3_list : MethodName := ⟨RX3, "list", "(II)I"⟩
abbrev cX3_countByTrying : ByteArray := prog_5_method_3_code
def yX3_countByTrying : MethodName := ⟨RX3, "countByTrying", "(II)I"⟩
abbrev cX3_giveWay : ByteArray := prog_5_method_4_code
def yX3_giveWay : MethodName := ⟨RX3, "giveWay", "(II)Z"⟩
abbrev cX3_giveMatch : ByteArray := prog_5_method_5_code
def yX3_giveMatch : MethodName := ⟨RX3, "giveMatch", "(III)V"⟩
abbrev cX3_addDuty : ByteArray := prog_5_method_6_code
def yX3_addDuty : MethodName := ⟨RX3, "addDuty", "(III)I"⟩
abbrev cX3_solve : ByteArray := prog_5_method_7_code
def yX3_solve : MethodName := ⟨RX3, "solve", "(I)V"⟩
abbrev cX3_bind : ByteArray := prog_5_method_8_code
def yX3_bind : MethodName := ⟨RX3, "bind", "(I)V"⟩
abbrev cX3_meet : ByteArray := prog_5_method_9_code
def yX3_meet : MethodName := ⟨RX3, "meet", "(I)V"⟩
abbrev cX3_meetArguments : ByteArray := prog_5_method_10_code
def yX3_meetArguments : MethodName := ⟨RX3, "meetArguments", "(IIZ)V"⟩
abbrev cX3_share : ByteArray := prog_5_method_11_code
def yX3_share : MethodName := ⟨RX3, "share", "(I)V"⟩
abbrev cX3_noteMatch : ByteArray := prog_5_method_12_code
def yX3_noteMatch : MethodName := ⟨RX3, "noteMatch", "()V"⟩
def RX4 : String := "RuleForge$Pieces"
def TX4 : u_T := fun k => match k with
  | 0 => ("RuleForge$Pieces", "terms", "LRuleForge$Terms;", true)
  | 1 => ("RuleForge$Pieces", "signature", "LRuleForge$Signature;", true)
  | 2 => ("RuleForge$Pieces", "count", "I", false)
  | 3 => ("RuleForge$Pieces", "where", "[I", true)
  | 4 => ("RuleForge$Pieces", "sizes", "[I", true)
  | 5 => ("RuleForge$Pieces", "heads", "[I", true)
  | 6 => ("RuleForge$Pieces", "nodes", "[I", true)
  | 7 => ("RuleForge$Pieces", "masks", "[I", true)
  | 8 => ("RuleForge$Pieces", "same", "[I", true)
  | 9 => ("RuleForge$Pieces", "different", "I", false)
  | 10 => ("RuleForge$Pieces", "sorted", "[I", true)
  | 11 => ("RuleForge$Pieces", "rank", "[I", true)
  | 12 => ("RuleForge$Pieces", "child", "[I", true)
  | 13 => ("RuleForge$Pieces", "part", "[I", true)
  | 14 => ("RuleForge$Pieces", "unit", "[I", true)
  | _ => ("RuleForge$Pieces", "rankedAt", "I", false)
def tyX4 : Nat → FieldType := fun k => match k with
  | 0 => .object "RuleForge$Terms"
  | 1 => .object "RuleForge$Signature"
  | 2 => .int
  | 3 => .array .int
  | 4 => .array .int
  | 5 => .array .int
  | 6 => .array .int
  | 7 => .array .int
  | 8 => .array .int
  | 9 => .int
  | 10 => .array .int
  | 11 => .array .int
  | 12 => .array .int
  | 13 => .array .int
  | 14 => .array .int
  | _ => .int
theorem nmX4 : ∀ a, a < 16 → ∀ b, b < 16 → a ≠ b → (TX4 a).2.1 ≠ (TX4 b).2.1 := by decide +kernel
theorem tyX4_ok : ∀ k, k < 16 → parseFieldDescriptor (TX4 k).2.2.1 = some (tyX4 k) := by decide +kernel
abbrev cX4_init : ByteArray := prog_6_method_1_code
def yX4_init : MethodName := ⟨RX4, "<init>", "(LRuleForge$Terms;)V"⟩
abbrev cX4_add : ByteArray := prog_6_method_2_code
def yX4_add : MethodName := ⟨RX4, "add", "(IIII)I"⟩
abbrev cX4_collect : ByteArray := prog_6_method_3_code
def yX4_collect : MethodName := ⟨RX4, "collect", "(I)V"⟩
abbrev cX4_addParts : ByteArray := prog_6_method_4_code
def yX4_addParts : MethodName := ⟨RX4, "addParts", "()V"⟩
abbrev cX4_writePart : ByteArray := prog_6_method_5_code
def yX4_writePart : MethodName := ⟨RX4, "writePart", "(II)V"⟩
abbrev cX4_addIdentities : ByteArray := prog_6_method_6_code
def yX4_addIdentities : MethodName := ⟨RX4, "addIdentities", "()V"⟩
abbrev cX4_rankAll : ByteArray := prog_6_method_7_code
def yX4_rankAll : MethodName := ⟨RX4, "rankAll", "()V"⟩
abbrev cX4_argument : ByteArray := prog_6_method_8_code
def yX4_argument : MethodName := ⟨RX4, "argument", "(II)I"⟩
abbrev cX4_maskFor : ByteArray := prog_6_method_9_code
def yX4_maskFor : MethodName := ⟨RX4, "maskFor", "(II)I"⟩
abbrev cX4_passesOver : ByteArray := prog_6_method_10_code
def yX4_passesOver : MethodName := ⟨RX4, "passesOver", "(III)Z"⟩
abbrev cX4_partFor : ByteArray := prog_6_method_11_code
def yX4_partFor : MethodName := ⟨RX4, "partFor", "(III)I"⟩
def RX5 : String := "RuleForge$Plans"
def TX5 : u_T := fun k => match k with
  | 0 => ("RuleForge$Plans", "terms", "LRuleForge$Terms;", true)
  | 1 => ("RuleForge$Plans", "walker", "LRuleForge$Walker;", true)
  | 2 => ("RuleForge$Plans", "count", "I", false)
  | 3 => ("RuleForge$Plans", "parts", "I", false)
  | 4 => ("RuleForge$Plans", "kinds", "[I", true)
  | 5 => ("RuleForge$Plans", "rules", "[I", true)
  | 6 => ("RuleForge$Plans", "sizes", "[I", true)
  | 7 => ("RuleForge$Plans", "uses", "I", false)
  | _ => ("RuleForge$Plans", "taken", "I", false)
def tyX5 : Nat → FieldType := fun k => match k with
  | 0 => .object "RuleForge$Terms"
  | 1 => .object "RuleForge$Walker"
  | 2 => .int
  | 3 => .int
  | 4 => .array .int
  | 5 => .array .int
  | 6 => .array .int
  | 7 => .int
  | _ => .int
theorem nmX5 : ∀ a, a < 9 → ∀ b, b < 9 → a ≠ b → (TX5 a).2.1 ≠ (TX5 b).2.1 := by decide +kernel
theorem tyX5_ok : ∀ k, k < 9 → parseFieldDescriptor (TX5 k).2.2.1 = some (tyX5 k) := by decide +kernel
abbrev cX5_init : ByteArray := prog_7_method_1_code
def yX5_init : MethodName := ⟨RX5, "<init>", "(LRuleForge$Walker;)V"⟩
def RX6 : String := "RuleForge$Reducer"
def TX6 : u_T := fun k => match k with
  | 0 => ("RuleForge$Reducer", "terms", "LRuleForge$Terms;", true)
  | 1 => ("RuleForge$Reducer", "laws", "LRuleForge$Laws;", true)
  | 2 => ("RuleForge$Reducer", "matcher", "LRuleForge$Matcher;", true)
  | 3 => ("RuleForge$Reducer", "steps", "I", false)
  | 4 => ("RuleForge$Reducer", "open", "I", false)
  | 5 => ("RuleForge$Reducer", "openAt", "[I", true)
  | 6 => ("RuleForge$Reducer", "marks", "[I", true)
  | 7 => ("RuleForge$Reducer", "nexts", "[I", true)
  | 8 => ("RuleForge$Reducer", "lefts", "[I", true)
  | _ => ("RuleForge$Reducer", "bases", "[I", true)
def tyX6 : Nat → FieldType := fun k => match k with
  | 0 => .object "RuleForge$Terms"
  | 1 => .object "RuleForge$Laws"
  | 2 => .object "RuleForge$Matcher"
  | 3 => .int
  | 4 => .int
  | 5 => .array .int
  | 6 => .array .int
  | 7 => .array .int
  | 8 => .array .int
  | _ => .array .int
theorem nmX6 : ∀ a, a < 10 → ∀ b, b < 10 → a ≠ b → (TX6 a).2.1 ≠ (TX6 b).2.1 := by decide +kernel
theorem tyX6_ok : ∀ k, k < 10 → parseFieldDescriptor (TX6 k).2.2.1 = some (tyX6 k) := by decide +kernel
abbrev cX6_init : ByteArray := prog_8_method_1_code
def yX6_init : MethodName := ⟨RX6, "<init>", "(LRuleForge$Laws;LRuleForge$Matcher;)V"⟩
abbrev cX6_normalForm : ByteArray := prog_8_method_2_code
def yX6_normalForm : MethodName := ⟨RX6, "normalForm", "(II)I"⟩
abbrev cX6_begin : ByteArray := prog_8_method_3_code
def yX6_begin : MethodName := ⟨RX6, "begin", "(I)I"⟩
abbrev cX6_look : ByteArray := prog_8_method_4_code
def yX6_look : MethodName := ⟨RX6, "look", "(II)V"⟩
abbrev cX6_finish : ByteArray := prog_8_method_5_code
def yX6_finish : MethodName := ⟨RX6, "finish", "(III)I"⟩
abbrev cX6_rewritten : ByteArray := prog_8_method_6_code
def yX6_rewritten : MethodName := ⟨RX6, "rewritten", "(II)I"⟩
abbrev cX6_decide : ByteArray := prog_8_method_7_code
def yX6_decide : MethodName := ⟨RX6, "decide", "(IIII)I"⟩
def RX7 : String := "RuleForge$Signature"
def TX7 : u_T := fun k => match k with
  | 0 => ("RuleForge$Signature", "sorts", "I", false)
  | 1 => ("RuleForge$Signature", "operators", "I", false)
  | 2 => ("RuleForge$Signature", "reached", "[I", true)
  | 3 => ("RuleForge$Signature", "variableSort", "[I", true)
  | 4 => ("RuleForge$Signature", "arity", "[I", true)
  | 5 => ("RuleForge$Signature", "axioms", "[I", true)
  | 6 => ("RuleForge$Signature", "identity", "[I", true)
  | 7 => ("RuleForge$Signature", "declarations", "[I", true)
  | 8 => ("RuleForge$Signature", "declared", "[I", true)
  | 9 => ("RuleForge$Signature", "weights", "[I", true)
  | _ => ("RuleForge$Signature", "views", "[I", true)
def tyX7 : Nat → FieldType := fun k => match k with
  | 0 => .int
  | 1 => .int
  | 2 => .array .int
  | 3 => .array .int
  | 4 => .array .int
  | 5 => .array .int
  | 6 => .array .int
  | 7 => .array .int
  | 8 => .array .int
  | 9 => .array .int
  | _ => .array .int
theorem nmX7 : ∀ a, a < 11 → ∀ b, b < 11 → a ≠ b → (TX7 a).2.1 ≠ (TX7 b).2.1 := by decide +kernel
theorem tyX7_ok : ∀ k, k < 11 → parseFieldDescriptor (TX7 k).2.2.1 = some (tyX7 k) := by decide +kernel
abbrev cX7_init : ByteArray := prog_9_method_1_code
def yX7_init : MethodName := ⟨RX7, "<init>", "()V"⟩
abbrev cX7_hasSort : ByteArray := prog_9_method_2_code
def yX7_hasSort : MethodName := ⟨RX7, "hasSort", "(I)Z"⟩
abbrev cX7_hasOperator : ByteArray := prog_9_method_3_code
def yX7_hasOperator : MethodName := ⟨RX7, "hasOperator", "(I)Z"⟩
abbrev cX7_reaches : ByteArray := prog_9_method_4_code
def yX7_reaches : MethodName := ⟨RX7, "reaches", "(II)Z"⟩
abbrev cX7_addOperator : ByteArray := prog_9_method_6_code
def yX7_addOperator : MethodName := ⟨RX7, "addOperator", "(III)I"⟩
abbrev cX7_addDeclaration : ByteArray := prog_9_method_7_code
def yX7_addDeclaration : MethodName := ⟨RX7, "addDeclaration", "(IIIII)I"⟩
abbrev cX7_resultOf : ByteArray := prog_9_method_8_code
def yX7_resultOf : MethodName := ⟨RX7, "resultOf", "(IIII)I"⟩
def RX8 : String := "RuleForge$Terms"
def TX8 : u_T := fun k => match k with
  | 0 => ("RuleForge$Terms", "signature", "LRuleForge$Signature;", true)
  | 1 => ("RuleForge$Terms", "cells", "[I", true)
  | 2 => ("RuleForge$Terms", "top", "I", false)
  | 3 => ("RuleForge$Terms", "waiting", "[I", true)
  | 4 => ("RuleForge$Terms", "awaited", "I", false)
  | 5 => ("RuleForge$Terms", "spread", "[I", true)
  | 6 => ("RuleForge$Terms", "spreadSize", "[I", true)
  | 7 => ("RuleForge$Terms", "given", "[I", true)
  | 8 => ("RuleForge$Terms", "hole", "I", false)
  | 9 => ("RuleForge$Terms", "filling", "I", false)
  | _ => ("RuleForge$Terms", "isViewed", "Z", false)
def tyX8 : Nat → FieldType := fun k => match k with
  | 0 => .object "RuleForge$Signature"
  | 1 => .array .int
  | 2 => .int
  | 3 => .array .int
  | 4 => .int
  | 5 => .array .int
  | 6 => .array .int
  | 7 => .array .int
  | 8 => .int
  | 9 => .int
  | _ => .boolean
theorem nmX8 : ∀ a, a < 11 → ∀ b, b < 11 → a ≠ b → (TX8 a).2.1 ≠ (TX8 b).2.1 := by decide +kernel
theorem tyX8_ok : ∀ k, k < 11 → parseFieldDescriptor (TX8 k).2.2.1 = some (tyX8 k) := by decide +kernel
abbrev cX8_init : ByteArray := prog_10_method_1_code
def yX8_init : MethodName := ⟨RX8, "<init>", "(LRuleForge$Signature;)V"⟩
abbrev cX8_startAnew : ByteArray := prog_10_method_2_code
def yX8_startAnew : MethodName := ⟨RX8, "startAnew", "()V"⟩
abbrev cX8_giveNothing : ByteArray := prog_10_method_3_code
def yX8_giveNothing : MethodName := ⟨RX8, "giveNothing", "()V"⟩
abbrev cX8_await : ByteArray := prog_10_method_4_code
def yX8_await : MethodName := ⟨RX8, "await", "(I)V"⟩
abbrev cX8_end : ByteArray := prog_10_method_5_code
def yX8_end : MethodName := ⟨RX8, "end", "(I)I"⟩
abbrev cX8_order : ByteArray := prog_10_method_6_code
def yX8_order : MethodName := ⟨RX8, "order", "(II)I"⟩
abbrev cX8_store : ByteArray := prog_10_method_7_code
def yX8_store : MethodName := ⟨RX8, "store", "(II)V"⟩
abbrev cX8_settle : ByteArray := prog_10_method_8_code
def yX8_settle : MethodName := ⟨RX8, "settle", "(II)I"⟩
abbrev cX8_variablesAt : ByteArray := prog_10_method_9_code
def yX8_variablesAt : MethodName := ⟨RX8, "variablesAt", "(I)I"⟩
abbrev cX8_canBePattern : ByteArray := prog_10_method_10_code
def yX8_canBePattern : MethodName := ⟨RX8, "canBePattern", "(I)Z"⟩
abbrev cX8_canBeLeft : ByteArray := prog_10_method_11_code
def yX8_canBeLeft : MethodName := ⟨RX8, "canBeLeft", "(I)Z"⟩
abbrev cX8_sortAt : ByteArray := prog_10_method_12_code
def yX8_sortAt : MethodName := ⟨RX8, "sortAt", "(I)I"⟩
abbrev cX8_putOn : ByteArray := prog_10_method_13_code
def yX8_putOn : MethodName := ⟨RX8, "putOn", "(II)I"⟩
abbrev cX8_write : ByteArray := prog_10_method_14_code
def yX8_write : MethodName := ⟨RX8, "write", "(II)I"⟩
abbrev cX8_rebuild : ByteArray := prog_10_method_15_code
def yX8_rebuild : MethodName := ⟨RX8, "rebuild", "(I)I"⟩
def RX9 : String := "RuleForge$Walker"
def TX9 : u_T := fun k => match k with
  | 0 => ("RuleForge$Walker", "terms", "LRuleForge$Terms;", true)
  | 1 => ("RuleForge$Walker", "reducer", "LRuleForge$Reducer;", true)
  | 2 => ("RuleForge$Walker", "laws", "LRuleForge$Laws;", true)
  | 3 => ("RuleForge$Walker", "matcher", "LRuleForge$Matcher;", true)
  | 4 => ("RuleForge$Walker", "term", "I", false)
  | 5 => ("RuleForge$Walker", "end", "I", false)
  | 6 => ("RuleForge$Walker", "law", "I", false)
  | 7 => ("RuleForge$Walker", "place", "I", false)
  | 8 => ("RuleForge$Walker", "mark", "I", false)
  | 9 => ("RuleForge$Walker", "list", "I", false)
  | 10 => ("RuleForge$Walker", "ranks", "I", false)
  | 11 => ("RuleForge$Walker", "count", "I", false)
  | 12 => ("RuleForge$Walker", "next", "I", false)
  | 13 => ("RuleForge$Walker", "listEnd", "I", false)
  | _ => ("RuleForge$Walker", "taken", "I", false)
def tyX9 : Nat → FieldType := fun k => match k with
  | 0 => .object "RuleForge$Terms"
  | 1 => .object "RuleForge$Reducer"
  | 2 => .object "RuleForge$Laws"
  | 3 => .object "RuleForge$Matcher"
  | 4 => .int
  | 5 => .int
  | 6 => .int
  | 7 => .int
  | 8 => .int
  | 9 => .int
  | 10 => .int
  | 11 => .int
  | 12 => .int
  | 13 => .int
  | _ => .int
theorem nmX9 : ∀ a, a < 15 → ∀ b, b < 15 → a ≠ b → (TX9 a).2.1 ≠ (TX9 b).2.1 := by decide +kernel
theorem tyX9_ok : ∀ k, k < 15 → parseFieldDescriptor (TX9 k).2.2.1 = some (tyX9 k) := by decide +kernel
abbrev cX9_init : ByteArray := prog_11_method_1_code
def yX9_init : MethodName := ⟨RX9, "<init>", "(LRuleForge$Reducer;)V"⟩
def RX10 : String := "RuleForge"
def TX10 : u_T := fun k => match k with
  | 0 => ("RuleForge", "signature", "LRuleForge$Signature;", true)
  | 1 => ("RuleForge", "terms", "LRuleForge$Terms;", true)
  | 2 => ("RuleForge", "laws", "LRuleForge$Laws;", true)
  | 3 => ("RuleForge", "matcher", "LRuleForge$Matcher;", true)
  | 4 => ("RuleForge", "reducer", "LRuleForge$Reducer;", true)
  | 5 => ("RuleForge", "explorer", "LRuleForge$Explorer;", true)
  | 6 => ("RuleForge", "plans", "LRuleForge$Plans;", true)
  | 7 => ("RuleForge", "criticalPairs", "LRuleForge$CriticalPairs;", true)
  | 8 => ("RuleForge", "stacked", "I", false)
  | _ => ("RuleForge", "kept", "I", false)
def tyX10 : Nat → FieldType := fun k => match k with
  | 0 => .object "RuleForge$Signature"
  | 1 => .object "RuleForge$Terms"
  | 2 => .object "RuleForge$Laws"
  | 3 => .object "RuleForge$Matcher"
  | 4 => .object "RuleForge$Reducer"
  | 5 => .object "RuleForge$Explorer"
  | 6 => .object "RuleForge$Plans"
  | 7 => .object "RuleForge$CriticalPairs"
  | 8 => .int
  | _ => .int
theorem nmX10 : ∀ a, a < 10 → ∀ b, b < 10 → a ≠ b → (TX10 a).2.1 ≠ (TX10 b).2.1 := by decide +kernel
theorem tyX10_ok : ∀ k, k < 10 → parseFieldDescriptor (TX10 k).2.2.1 = some (tyX10 k) := by decide +kernel
abbrev cX10_init : ByteArray := prog_1_method_1_code
def yX10_init : MethodName := ⟨RX10, "<init>", "()V"⟩
abbrev cX10_sort : ByteArray := prog_1_method_2_code
def yX10_sort : MethodName := ⟨RX10, "sort", "()I"⟩
abbrev cX10_operator : ByteArray := prog_1_method_5_code
def yX10_operator : MethodName := ⟨RX10, "operator", "(III)I"⟩
abbrev cX10_declare : ByteArray := prog_1_method_6_code
def yX10_declare : MethodName := ⟨RX10, "declare", "(IIIII)I"⟩
abbrev cX10_term : ByteArray := prog_1_method_7_code
def yX10_term : MethodName := ⟨RX10, "term", "(I)I"⟩
abbrev cX10_apply : ByteArray := prog_1_method_8_code
def yX10_apply : MethodName := ⟨RX10, "apply", "(I)I"⟩
abbrev cX10_drop : ByteArray := prog_1_method_11_code
def yX10_drop : MethodName := ⟨RX10, "drop", "()I"⟩
abbrev cX10_sortOf : ByteArray := prog_1_method_12_code
def yX10_sortOf : MethodName := ⟨RX10, "sortOf", "()I"⟩
abbrev cX10_code : ByteArray := prog_1_method_13_code
def yX10_code : MethodName := ⟨RX10, "code", "(I)I"⟩
abbrev cX10_matches : ByteArray := prog_1_method_14_code
def yX10_matches : MethodName := ⟨RX10, "matches", "()I"⟩
abbrev cX10_matchesAnew : ByteArray := prog_1_method_15_code
def yX10_matchesAnew : MethodName := ⟨RX10, "matchesAnew", "()I"⟩
abbrev cX10_match : ByteArray := prog_1_method_16_code
def yX10_match : MethodName := ⟨RX10, "match", "(II)I"⟩
abbrev cX10_tell : ByteArray := prog_1_method_17_code
def yX10_tell : MethodName := ⟨RX10, "tell", "(ZZ)I"⟩
abbrev cX10_equations : ByteArray := prog_1_method_18_code
def yX10_equations : MethodName := ⟨RX10, "equations", "()I"⟩
abbrev cX10_reduce : ByteArray := prog_1_method_19_code
def yX10_reduce : MethodName := ⟨RX10, "reduce", "()I"⟩
abbrev cX10_matching : ByteArray := prog_1_method_21_code
def yX10_matching : MethodName := ⟨RX10, "matching", "()I"⟩
abbrev cX10_push : ByteArray := prog_1_method_42_code
def yX10_push : MethodName := ⟨RX10, "push", "(I)I"⟩
abbrev cX10_topAt : ByteArray := prog_1_method_43_code
def yX10_topAt : MethodName := ⟨RX10, "topAt", "()I"⟩
abbrev cX10_hasPatternAndSubject : ByteArray := prog_1_method_45_code
def yX10_hasPatternAndSubject : MethodName := ⟨RX10, "hasPatternAndSubject", "()Z"⟩
abbrev cX10_stackAt : ByteArray := prog_1_method_46_code
def yX10_stackAt : MethodName := ⟨RX10, "stackAt", "(I)I"⟩
abbrev cX10_isVariableNumber : ByteArray := prog_1_method_47_code
def yX10_isVariableNumber : MethodName := ⟨RX10, "isVariableNumber", "(I)Z"⟩
abbrev cX10_operatorIn : ByteArray := prog_1_method_48_code
def yX10_operatorIn : MethodName := ⟨RX10, "operatorIn", "(I)I"⟩
def RX11 : String := "RuleForgeModel$Both"
def TX11 : u_T := fun k => match k with
  | _ => ("", "", "", false)
def tyX11 : Nat → FieldType := fun k => match k with
  | _ => .int
theorem nmX11 : ∀ a, a < 0 → ∀ b, b < 0 → a ≠ b → (TX11 a).2.1 ≠ (TX11 b).2.1 := by decide +kernel
theorem tyX11_ok : ∀ k, k < 0 → parseFieldDescriptor (TX11 k).2.2.1 = some (tyX11 k) := by decide +kernel
def RX12 : String := "RuleForgeModel$Fails"
def TX12 : u_T := fun k => match k with
  | _ => ("", "", "", false)
def tyX12 : Nat → FieldType := fun k => match k with
  | _ => .int
theorem nmX12 : ∀ a, a < 0 → ∀ b, b < 0 → a ≠ b → (TX12 a).2.1 ≠ (TX12 b).2.1 := by decide +kernel
theorem tyX12_ok : ∀ k, k < 0 → parseFieldDescriptor (TX12 k).2.2.1 = some (tyX12 k) := by decide +kernel
def RX13 : String := "RuleForgeModel$Law"
def TX13 : u_T := fun k => match k with
  | _ => ("", "", "", false)
def tyX13 : Nat → FieldType := fun k => match k with
  | _ => .int
theorem nmX13 : ∀ a, a < 0 → ∀ b, b < 0 → a ≠ b → (TX13 a).2.1 ≠ (TX13 b).2.1 := by decide +kernel
theorem tyX13_ok : ∀ k, k < 0 → parseFieldDescriptor (TX13 k).2.2.1 = some (tyX13 k) := by decide +kernel
def RX14 : String := "RuleForgeModel$Plan"
def TX14 : u_T := fun k => match k with
  | _ => ("", "", "", false)
def tyX14 : Nat → FieldType := fun k => match k with
  | _ => .int
theorem nmX14 : ∀ a, a < 0 → ∀ b, b < 0 → a ≠ b → (TX14 a).2.1 ≠ (TX14 b).2.1 := by decide +kernel
theorem tyX14_ok : ∀ k, k < 0 → parseFieldDescriptor (TX14 k).2.2.1 = some (tyX14 k) := by decide +kernel
def RX15 : String := "RuleForgeModel$Steps"
def TX15 : u_T := fun k => match k with
  | _ => ("", "", "", false)
def tyX15 : Nat → FieldType := fun k => match k with
  | _ => .int
theorem nmX15 : ∀ a, a < 0 → ∀ b, b < 0 → a ≠ b → (TX15 a).2.1 ≠ (TX15 b).2.1 := by decide +kernel
theorem tyX15_ok : ∀ k, k < 0 → parseFieldDescriptor (TX15 k).2.2.1 = some (tyX15 k) := by decide +kernel
def RX16 : String := "RuleForgeModel$Term"
def TX16 : u_T := fun k => match k with
  | _ => ("", "", "", false)
def tyX16 : Nat → FieldType := fun k => match k with
  | _ => .int
theorem nmX16 : ∀ a, a < 0 → ∀ b, b < 0 → a ≠ b → (TX16 a).2.1 ≠ (TX16 b).2.1 := by decide +kernel
theorem tyX16_ok : ∀ k, k < 0 → parseFieldDescriptor (TX16 k).2.2.1 = some (tyX16 k) := by decide +kernel
def RX17 : String := "RuleForgeModel"
def TX17 : u_T := fun k => match k with
  | _ => ("", "", "", false)
def tyX17 : Nat → FieldType := fun k => match k with
  | _ => .int
theorem nmX17 : ∀ a, a < 0 → ∀ b, b < 0 → a ≠ b → (TX17 a).2.1 ≠ (TX17 b).2.1 := by decide +kernel
theorem tyX17_ok : ∀ k, k < 0 → parseFieldDescriptor (TX17 k).2.2.1 = some (tyX17 k) := by decide +kernel
def RJx145de : String := "java/io/Serializable"
def TJx145de : u_T := fun k => match k with
  | _ => ("", "", "", false)
def tyJx145de : Nat → FieldType := fun k => match k with
  | _ => .int
theorem nmJx145de : ∀ a, a < 0 → ∀ b, b < 0 → a ≠ b → (TJx145de a).2.1 ≠ (TJx145de b).2.1 := by decide +kernel
theorem tyJx145de_ok : ∀ k, k < 0 → parseFieldDescriptor (TJx145de k).2.2.1 = some (tyJx145de k) := by decide +kernel
def RJ6 : String := "java/lang/Integer"
def TJ6 : u_T := fun k => match k with
  | _ => ("", "", "", false)
def tyJ6 : Nat → FieldType := fun k => match k with
  | _ => .int
theorem nmJ6 : ∀ a, a < 0 → ∀ b, b < 0 → a ≠ b → (TJ6 a).2.1 ≠ (TJ6 b).2.1 := by decide +kernel
theorem tyJ6_ok : ∀ k, k < 0 → parseFieldDescriptor (TJ6 k).2.2.1 = some (tyJ6 k) := by decide +kernel
abbrev cJ6_lowestOneBit_0f7a4 : ByteArray := prog_24_method_46_code
def yJ6_lowestOneBit_0f7a4 : MethodName := ⟨RJ6, "lowestOneBit", "(I)I"⟩
abbrev cJ6_numberOfTrailingZeros_0f7a4 : ByteArray := prog_24_method_48_code
def yJ6_numberOfTrailingZeros_0f7a4 : MethodName := ⟨RJ6, "numberOfTrailingZeros", "(I)I"⟩
abbrev cJ6_bitCount_0f7a4 : ByteArray := prog_24_method_49_code
def yJ6_bitCount_0f7a4 : MethodName := ⟨RJ6, "bitCount", "(I)I"⟩
def RJ0 : String := "java/lang/String"
def TJ0 : u_T := fun k => match k with
  | _ => ("", "", "", false)
def tyJ0 : Nat → FieldType := fun k => match k with
  | _ => .int
theorem nmJ0 : ∀ a, a < 0 → ∀ b, b < 0 → a ≠ b → (TJ0 a).2.1 ≠ (TJ0 b).2.1 := by decide +kernel
theorem tyJ0_ok : ∀ k, k < 0 → parseFieldDescriptor (TJ0 k).2.2.1 = some (tyJ0 k) := by decide +kernel
def RJ10 : String := "java/lang/System"
def TJ10 : u_T := fun k => match k with
  | _ => ("", "", "", false)
def tyJ10 : Nat → FieldType := fun k => match k with
  | _ => .int
theorem nmJ10 : ∀ a, a < 0 → ∀ b, b < 0 → a ≠ b → (TJ10 a).2.1 ≠ (TJ10 b).2.1 := by decide +kernel
theorem tyJ10_ok : ∀ k, k < 0 → parseFieldDescriptor (TJ10 k).2.2.1 = some (tyJ10 k) := by decide +kernel
def RJ7 : String := "java/util/Arrays"
def TJ7 : u_T := fun k => match k with
  | _ => ("", "", "", false)
def tyJ7 : Nat → FieldType := fun k => match k with
  | _ => .int
theorem nmJ7 : ∀ a, a < 0 → ∀ b, b < 0 → a ≠ b → (TJ7 a).2.1 ≠ (TJ7 b).2.1 := by decide +kernel
theorem tyJ7_ok : ∀ k, k < 0 → parseFieldDescriptor (TJ7 k).2.2.1 = some (tyJ7 k) := by decide +kernel
abbrev cJ7_fill_53178 : ByteArray := prog_29_method_103_code
def yJ7_fill_53178 : MethodName := ⟨RJ7, "fill", "([II)V"⟩
def RL : String := "RuleForgeLaw"
abbrev cL_cell : ByteArray := method_2_code
def yL_cell : MethodName := ⟨RL, "cell", "([II)I"⟩
abbrev cL_low : ByteArray := method_3_code
def yL_low : MethodName := ⟨RL, "low", "(II)I"⟩
abbrev cL_number : ByteArray := method_4_code
def yL_number : MethodName := ⟨RL, "number", "(LRuleForge;I)V"⟩
abbrev cL_is : ByteArray := method_5_code
def yL_is : MethodName := ⟨RL, "is", "(LRuleForge;I)Z"⟩
abbrev cL_refused : ByteArray := method_6_code
def yL_refused : MethodName := ⟨RL, "refused", "(LRuleForge;I)I"⟩
abbrev cL_things : ByteArray := method_7_code
def yL_things : MethodName := ⟨RL, "things", "(LRuleForge;I[II)V"⟩
abbrev cL_bags : ByteArray := method_8_code
def yL_bags : MethodName := ⟨RL, "bags", "(LRuleForge;II)Z"⟩
abbrev cL_first : ByteArray := method_9_code
def yL_first : MethodName := ⟨RL, "first", "([IZ)I"⟩
abbrev cL_rows : ByteArray := method_10_code
def yL_rows : MethodName := ⟨RL, "rows", "(LRuleForge;II)Z"⟩
abbrev cL_law : ByteArray := code
def yL_law : MethodName := ⟨RL, "law", "([I)Z"⟩
abbrev vwCl : List vw_C := [(RX0, TX0, 14), (RX1, TX1, 9), (RX2, TX2, 5), (RX3, TX3, 16), (RX4, TX4, 16), (RX5, TX5, 9), (RX6, TX6, 10), (RX7, TX7, 11), (RX8, TX8, 11), (RX9, TX9, 15), (RX10, TX10, 10)]
