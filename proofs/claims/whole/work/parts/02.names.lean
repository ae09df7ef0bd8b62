/-! names: classes, their fields by the slots, methods; the words of the tables by their places -/
def R_M : String := "ConditionMill"
def R_T : String := "ConditionMill$Text"
def R_W : String := "ConditionMill$Walk"
def R_L : String := "ConditionMill$Literal"
def R_K : String := "ConditionMill$Reckoner"
def R_S : String := "ConditionMill$Sums"
def R_R : String := "ConditionMillModel"
def R_Lw : String := "ConditionMillLaw"
def R_JS : String := "java/lang/String"
def R_JL : String := "java/lang/StringLatin1"
def R_JU : String := "java/lang/StringUTF16"
def R_JC : String := "java/lang/Character"
def R_JM : String := "java/lang/Math"
def R_JA : String := "jdk/internal/util/ArraysSupport"
def R_JP : String := "jdk/internal/util/Preconditions"
def R_JO : String := "java/lang/Object"
def T_L : u_T := fun k => match k with
  | 0 => ("ConditionMill$Literal", "text", "LConditionMill$Text;", true)
  | 1 => ("ConditionMill$Literal", "amount", "J", false)
  | _ => ("ConditionMill$Literal", "plain", "Z", false)
def ty_L : Nat → FieldType := fun k => match k with
  | 0 => .object "ConditionMill$Text"
  | 1 => .long
  | _ => .boolean
theorem nm_L : ∀ a, a < 3 → ∀ b, b < 3 → a ≠ b → (T_L a).2.1 ≠ (T_L b).2.1 := by decide +kernel
theorem ty_L_ok : ∀ k, k < 3 → parseFieldDescriptor (T_L k).2.2.1 = some (ty_L k) := by decide +kernel
theorem in_L : ∀ w ∈ u_ws R_L T_L 3, w ∈ TB := by decide +kernel
def T_K : u_T := fun k => match k with
  | 0 => ("ConditionMill$Reckoner", "walk", "LConditionMill$Walk;", true)
  | 1 => ("ConditionMill$Reckoner", "literal", "LConditionMill$Literal;", true)
  | 2 => ("ConditionMill$Reckoner", "signs", "[I", true)
  | 3 => ("ConditionMill$Reckoner", "strengths", "[I", true)
  | 4 => ("ConditionMill$Reckoner", "skips", "[Z", true)
  | 5 => ("ConditionMill$Reckoner", "amounts", "[J", true)
  | 6 => ("ConditionMill$Reckoner", "plains", "[Z", true)
  | 7 => ("ConditionMill$Reckoner", "waiting", "I", false)
  | 8 => ("ConditionMill$Reckoner", "held", "I", false)
  | 9 => ("ConditionMill$Reckoner", "nested", "I", false)
  | 10 => ("ConditionMill$Reckoner", "skipping", "I", false)
  | 11 => ("ConditionMill$Reckoner", "formed", "Z", false)
  | _ => ("ConditionMill$Reckoner", "divided", "Z", false)
def ty_K : Nat → FieldType := fun k => match k with
  | 0 => .object "ConditionMill$Walk"
  | 1 => .object "ConditionMill$Literal"
  | 2 => .array .int
  | 3 => .array .int
  | 4 => .array .boolean
  | 5 => .array .long
  | 6 => .array .boolean
  | 7 => .int
  | 8 => .int
  | 9 => .int
  | 10 => .int
  | 11 => .boolean
  | _ => .boolean
theorem nm_K : ∀ a, a < 13 → ∀ b, b < 13 → a ≠ b → (T_K a).2.1 ≠ (T_K b).2.1 := by decide +kernel
theorem ty_K_ok : ∀ k, k < 13 → parseFieldDescriptor (T_K k).2.2.1 = some (ty_K k) := by decide +kernel
theorem in_K : ∀ w ∈ u_ws R_K T_K 13, w ∈ TB := by decide +kernel
def T_T : u_T := fun k => match k with
  | 0 => ("ConditionMill$Text", "row", "[B", true)
  | _ => ("ConditionMill$Text", "size", "I", false)
def ty_T : Nat → FieldType := fun k => match k with
  | 0 => .array .byte
  | _ => .int
theorem nm_T : ∀ a, a < 2 → ∀ b, b < 2 → a ≠ b → (T_T a).2.1 ≠ (T_T b).2.1 := by decide +kernel
theorem ty_T_ok : ∀ k, k < 2 → parseFieldDescriptor (T_T k).2.2.1 = some (ty_T k) := by decide +kernel
theorem in_T : ∀ w ∈ u_ws R_T T_T 2, w ∈ TB := by decide +kernel
def T_W : u_T := fun k => match k with
  | 0 => ("ConditionMill$Walk", "text", "LConditionMill$Text;", true)
  | 1 => ("ConditionMill$Walk", "start", "I", false)
  | 2 => ("ConditionMill$Walk", "end", "I", false)
  | 3 => ("ConditionMill$Walk", "kind", "I", false)
  | 4 => ("ConditionMill$Walk", "openTextEnd", "I", false)
  | _ => ("ConditionMill$Walk", "openCharacterEnd", "I", false)
def ty_W : Nat → FieldType := fun k => match k with
  | 0 => .object "ConditionMill$Text"
  | 1 => .int
  | 2 => .int
  | 3 => .int
  | 4 => .int
  | _ => .int
theorem nm_W : ∀ a, a < 6 → ∀ b, b < 6 → a ≠ b → (T_W a).2.1 ≠ (T_W b).2.1 := by decide +kernel
theorem ty_W_ok : ∀ k, k < 6 → parseFieldDescriptor (T_W k).2.2.1 = some (ty_W k) := by decide +kernel
theorem in_W : ∀ w ∈ u_ws R_W T_W 6, w ∈ TB := by decide +kernel
def T_M : u_T := fun k => match k with
  | 0 => ("ConditionMill", "text", "LConditionMill$Text;", true)
  | 1 => ("ConditionMill", "walk", "LConditionMill$Walk;", true)
  | 2 => ("ConditionMill", "reckoner", "LConditionMill$Reckoner;", true)
  | 3 => ("ConditionMill", "latestAmount", "J", false)
  | _ => ("ConditionMill", "latestPlain", "Z", false)
def ty_M : Nat → FieldType := fun k => match k with
  | 0 => .object "ConditionMill$Text"
  | 1 => .object "ConditionMill$Walk"
  | 2 => .object "ConditionMill$Reckoner"
  | 3 => .long
  | _ => .boolean
theorem nm_M : ∀ a, a < 5 → ∀ b, b < 5 → a ≠ b → (T_M a).2.1 ≠ (T_M b).2.1 := by decide +kernel
theorem ty_M_ok : ∀ k, k < 5 → parseFieldDescriptor (T_M k).2.2.1 = some (ty_M k) := by decide +kernel
theorem in_M : ∀ w ∈ u_ws R_M T_M 5, w ∈ TB := by decide +kernel
def T_R : u_T := fun k => match k with
  | 0 => ("ConditionMillModel", "size", "I", false)
  | 1 => ("ConditionMillModel", "store", "[B", true)
  | 2 => ("ConditionMillModel", "value", "J", false)
  | 3 => ("ConditionMillModel", "isPlain", "Z", false)
  | 4 => ("ConditionMillModel", "count", "I", false)
  | 5 => ("ConditionMillModel", "tokenAt", "[I", true)
  | 6 => ("ConditionMillModel", "tokenSize", "[I", true)
  | 7 => ("ConditionMillModel", "look", "I", false)
  | 8 => ("ConditionMillModel", "bad", "Z", false)
  | 9 => ("ConditionMillModel", "byZero", "Z", false)
  | 10 => ("ConditionMillModel", "inner", "I", false)
  | 11 => ("ConditionMillModel", "plain", "Z", false)
  | 12 => ("ConditionMillModel", "held", "I", false)
  | 13 => ("ConditionMillModel", "heldSign", "[I", true)
  | 14 => ("ConditionMillModel", "heldValue", "[J", true)
  | _ => ("ConditionMillModel", "heldPlain", "[Z", true)
def ty_R : Nat → FieldType := fun k => match k with
  | 0 => .int
  | 1 => .array .byte
  | 2 => .long
  | 3 => .boolean
  | 4 => .int
  | 5 => .array .int
  | 6 => .array .int
  | 7 => .int
  | 8 => .boolean
  | 9 => .boolean
  | 10 => .int
  | 11 => .boolean
  | 12 => .int
  | 13 => .array .int
  | 14 => .array .long
  | _ => .array .boolean
theorem nm_R : ∀ a, a < 16 → ∀ b, b < 16 → a ≠ b → (T_R a).2.1 ≠ (T_R b).2.1 := by decide +kernel
theorem ty_R_ok : ∀ k, k < 16 → parseFieldDescriptor (T_R k).2.2.1 = some (ty_R k) := by decide +kernel
theorem in_R : ∀ w ∈ u_ws R_R T_R 16, w ∈ TB := by decide +kernel
abbrev vwCl : List vw_C := [(R_L, T_L, 3), (R_K, T_K, 13), (R_T, T_T, 2), (R_W, T_W, 6), (R_M, T_M, 5), (R_R, T_R, 16)]
abbrev c_T_at : ByteArray := prog_5_method_3_code
def y_T_at : MethodName := ⟨R_T, "at", "(I)I"⟩
def ws_T_at : List Cond := Cond.code y_T_at c_T_at 2 (some .int) :: TB
theorem hd_T_at : (y_T_at).cls = R_T ∧ (y_T_at).cls ≠ "java/lang/invoke/MethodHandle" ∧ (y_T_at).cls ≠ "java/lang/invoke/VarHandle" ∧ (parseMethodDescriptor (y_T_at).desc).map (fun d => d.parameters.length) = some 1 := by decide +kernel
abbrev c_T_append : ByteArray := prog_5_method_2_code
def y_T_append : MethodName := ⟨R_T, "append", "(JI)V"⟩
def ws_T_append : List Cond := Cond.code y_T_append c_T_append 5 none :: TB
theorem hd_T_append : (y_T_append).cls = R_T ∧ (y_T_append).cls ≠ "java/lang/invoke/MethodHandle" ∧ (y_T_append).cls ≠ "java/lang/invoke/VarHandle" ∧ (parseMethodDescriptor (y_T_append).desc).map (fun d => d.parameters.length) = some 2 := by decide +kernel
abbrev c_W_isBlank : ByteArray := prog_6_method_14_code
def y_W_isBlank : MethodName := ⟨R_W, "isBlank", "(I)Z"⟩
def ws_W_isBlank : List Cond := Cond.code y_W_isBlank c_W_isBlank 1 (some .boolean) :: TB
theorem hd_W_isBlank : (y_W_isBlank).cls ≠ "java/lang/invoke/MethodHandle" ∧ (y_W_isBlank).cls ≠ "java/lang/invoke/VarHandle" ∧ (parseMethodDescriptor (y_W_isBlank).desc).map (fun d => d.parameters.length) = some 1 := by decide +kernel
abbrev c_W_isDigit : ByteArray := prog_6_method_15_code
def y_W_isDigit : MethodName := ⟨R_W, "isDigit", "(I)Z"⟩
def ws_W_isDigit : List Cond := Cond.code y_W_isDigit c_W_isDigit 1 (some .boolean) :: TB
theorem hd_W_isDigit : (y_W_isDigit).cls ≠ "java/lang/invoke/MethodHandle" ∧ (y_W_isDigit).cls ≠ "java/lang/invoke/VarHandle" ∧ (parseMethodDescriptor (y_W_isDigit).desc).map (fun d => d.parameters.length) = some 1 := by decide +kernel
abbrev c_W_isLetter : ByteArray := prog_6_method_16_code
def y_W_isLetter : MethodName := ⟨R_W, "isLetter", "(I)Z"⟩
def ws_W_isLetter : List Cond := Cond.code y_W_isLetter c_W_isLetter 1 (some .boolean) :: TB
theorem hd_W_isLetter : (y_W_isLetter).cls ≠ "java/lang/invoke/MethodHandle" ∧ (y_W_isLetter).cls ≠ "java/lang/invoke/VarHandle" ∧ (parseMethodDescriptor (y_W_isLetter).desc).map (fun d => d.parameters.length) = some 1 := by decide +kernel
abbrev c_W_take : ByteArray := prog_6_method_5_code
def y_W_take : MethodName := ⟨R_W, "take", "(II)V"⟩
def ws_W_take : List Cond := Cond.code y_W_take c_W_take 3 none :: TB
theorem hd_W_take : (y_W_take).cls = R_W ∧ (y_W_take).cls ≠ "java/lang/invoke/MethodHandle" ∧ (y_W_take).cls ≠ "java/lang/invoke/VarHandle" ∧ (parseMethodDescriptor (y_W_take).desc).map (fun d => d.parameters.length) = some 2 := by decide +kernel
abbrev c_W_goesOnNumber : ByteArray := prog_6_method_13_code
def y_W_goesOnNumber : MethodName := ⟨R_W, "goesOnNumber", "(II)Z"⟩
def ws_W_goesOnNumber : List Cond := Cond.code y_W_goesOnNumber c_W_goesOnNumber 2 (some .boolean) :: TB
theorem hd_W_goesOnNumber : (y_W_goesOnNumber).cls ≠ "java/lang/invoke/MethodHandle" ∧ (y_W_goesOnNumber).cls ≠ "java/lang/invoke/VarHandle" ∧ (parseMethodDescriptor (y_W_goesOnNumber).desc).map (fun d => d.parameters.length) = some 2 := by decide +kernel
abbrev c_W_isTriple : ByteArray := prog_6_method_11_code
def y_W_isTriple : MethodName := ⟨R_W, "isTriple", "(III)Z"⟩
def ws_W_isTriple : List Cond := Cond.code y_W_isTriple c_W_isTriple 3 (some .boolean) :: TB
theorem hd_W_isTriple : (y_W_isTriple).cls ≠ "java/lang/invoke/MethodHandle" ∧ (y_W_isTriple).cls ≠ "java/lang/invoke/VarHandle" ∧ (parseMethodDescriptor (y_W_isTriple).desc).map (fun d => d.parameters.length) = some 3 := by decide +kernel
abbrev c_W_isPair : ByteArray := prog_6_method_12_code
def y_W_isPair : MethodName := ⟨R_W, "isPair", "(II)Z"⟩
def ws_W_isPair : List Cond := Cond.code y_W_isPair c_W_isPair 2 (some .boolean) :: TB
theorem hd_W_isPair : (y_W_isPair).cls ≠ "java/lang/invoke/MethodHandle" ∧ (y_W_isPair).cls ≠ "java/lang/invoke/VarHandle" ∧ (parseMethodDescriptor (y_W_isPair).desc).map (fun d => d.parameters.length) = some 2 := by decide +kernel
abbrev c_W_restart : ByteArray := prog_6_method_2_code
def y_W_restart : MethodName := ⟨R_W, "restart", "()V"⟩
def ws_W_restart : List Cond := Cond.code y_W_restart c_W_restart 1 none :: TB
theorem hd_W_restart : (y_W_restart).cls = R_W ∧ (y_W_restart).cls ≠ "java/lang/invoke/MethodHandle" ∧ (y_W_restart).cls ≠ "java/lang/invoke/VarHandle" ∧ (parseMethodDescriptor (y_W_restart).desc).map (fun d => d.parameters.length) = some 0 := by decide +kernel
abbrev c_W_signCode : ByteArray := prog_6_method_4_code
def y_W_signCode : MethodName := ⟨R_W, "signCode", "()I"⟩
def ws_W_signCode : List Cond := Cond.code y_W_signCode c_W_signCode 3 (some .int) :: TB
theorem hd_W_signCode : (y_W_signCode).cls = R_W ∧ (y_W_signCode).cls ≠ "java/lang/invoke/MethodHandle" ∧ (y_W_signCode).cls ≠ "java/lang/invoke/VarHandle" ∧ (parseMethodDescriptor (y_W_signCode).desc).map (fun d => d.parameters.length) = some 0 := by decide +kernel
abbrev c_W_closeOf : ByteArray := prog_6_method_7_code
def y_W_closeOf : MethodName := ⟨R_W, "closeOf", "(II)I"⟩
def ws_W_closeOf : List Cond := Cond.code y_W_closeOf c_W_closeOf 5 (some .int) :: TB
theorem hd_W_closeOf : (y_W_closeOf).cls = R_W ∧ (y_W_closeOf).cls ≠ "java/lang/invoke/MethodHandle" ∧ (y_W_closeOf).cls ≠ "java/lang/invoke/VarHandle" ∧ (parseMethodDescriptor (y_W_closeOf).desc).map (fun d => d.parameters.length) = some 2 := by decide +kernel
abbrev c_W_takeQuoted : ByteArray := prog_6_method_6_code
def y_W_takeQuoted : MethodName := ⟨R_W, "takeQuoted", "()Z"⟩
def ws_W_takeQuoted : List Cond := Cond.code y_W_takeQuoted c_W_takeQuoted 4 (some .boolean) :: TB
theorem hd_W_takeQuoted : (y_W_takeQuoted).cls = R_W ∧ (y_W_takeQuoted).cls ≠ "java/lang/invoke/MethodHandle" ∧ (y_W_takeQuoted).cls ≠ "java/lang/invoke/VarHandle" ∧ (parseMethodDescriptor (y_W_takeQuoted).desc).map (fun d => d.parameters.length) = some 0 := by decide +kernel
abbrev c_W_takeName : ByteArray := prog_6_method_8_code
def y_W_takeName : MethodName := ⟨R_W, "takeName", "()Z"⟩
def ws_W_takeName : List Cond := Cond.code y_W_takeName c_W_takeName 2 (some .boolean) :: TB
theorem hd_W_takeName : (y_W_takeName).cls = R_W ∧ (y_W_takeName).cls ≠ "java/lang/invoke/MethodHandle" ∧ (y_W_takeName).cls ≠ "java/lang/invoke/VarHandle" ∧ (parseMethodDescriptor (y_W_takeName).desc).map (fun d => d.parameters.length) = some 0 := by decide +kernel
abbrev c_W_takeNumber : ByteArray := prog_6_method_9_code
def y_W_takeNumber : MethodName := ⟨R_W, "takeNumber", "()Z"⟩
def ws_W_takeNumber : List Cond := Cond.code y_W_takeNumber c_W_takeNumber 3 (some .boolean) :: TB
theorem hd_W_takeNumber : (y_W_takeNumber).cls = R_W ∧ (y_W_takeNumber).cls ≠ "java/lang/invoke/MethodHandle" ∧ (y_W_takeNumber).cls ≠ "java/lang/invoke/VarHandle" ∧ (parseMethodDescriptor (y_W_takeNumber).desc).map (fun d => d.parameters.length) = some 0 := by decide +kernel
abbrev c_JL_canEncode : ByteArray := prog_12_method_4_code
def y_JL_canEncode : MethodName := ⟨R_JL, "canEncode", "(I)Z"⟩
def ws_JL_canEncode : List Cond := Cond.code y_JL_canEncode c_JL_canEncode 1 (some .boolean) :: TB
theorem hd_JL_canEncode : (y_JL_canEncode).cls ≠ "java/lang/invoke/MethodHandle" ∧ (y_JL_canEncode).cls ≠ "java/lang/invoke/VarHandle" ∧ (parseMethodDescriptor (y_JL_canEncode).desc).map (fun d => d.parameters.length) = some 1 := by decide +kernel
abbrev c_JL_indexOfChar : ByteArray := prog_12_method_23_code
def y_JL_indexOfChar : MethodName := ⟨R_JL, "indexOfChar", "([BIII)I"⟩
def ws_JL_indexOfChar : List Cond := Cond.code y_JL_indexOfChar c_JL_indexOfChar 6 (some .int) :: TB
theorem hd_JL_indexOfChar : (y_JL_indexOfChar).cls ≠ "java/lang/invoke/MethodHandle" ∧ (y_JL_indexOfChar).cls ≠ "java/lang/invoke/VarHandle" ∧ (parseMethodDescriptor (y_JL_indexOfChar).desc).map (fun d => d.parameters.length) = some 4 := by decide +kernel
abbrev c_JL_indexOf : ByteArray := prog_12_method_22_code
def y_JL_indexOf : MethodName := ⟨R_JL, "indexOf", "([BIII)I"⟩
def ws_JL_indexOf : List Cond := Cond.code y_JL_indexOf c_JL_indexOf 4 (some .int) :: TB
theorem hd_JL_indexOf : (y_JL_indexOf).cls ≠ "java/lang/invoke/MethodHandle" ∧ (y_JL_indexOf).cls ≠ "java/lang/invoke/VarHandle" ∧ (parseMethodDescriptor (y_JL_indexOf).desc).map (fun d => d.parameters.length) = some 4 := by decide +kernel
abbrev c_JM_max : ByteArray := prog_10_method_65_code
def y_JM_max : MethodName := ⟨R_JM, "max", "(II)I"⟩
def ws_JM_max : List Cond := Cond.code y_JM_max c_JM_max 2 (some .int) :: TB
theorem hd_JM_max : (y_JM_max).cls ≠ "java/lang/invoke/MethodHandle" ∧ (y_JM_max).cls ≠ "java/lang/invoke/VarHandle" ∧ (parseMethodDescriptor (y_JM_max).desc).map (fun d => d.parameters.length) = some 2 := by decide +kernel
abbrev c_JM_min : ByteArray := prog_10_method_69_code
def y_JM_min : MethodName := ⟨R_JM, "min", "(II)I"⟩
def ws_JM_min : List Cond := Cond.code y_JM_min c_JM_min 2 (some .int) :: TB
theorem hd_JM_min : (y_JM_min).cls ≠ "java/lang/invoke/MethodHandle" ∧ (y_JM_min).cls ≠ "java/lang/invoke/VarHandle" ∧ (parseMethodDescriptor (y_JM_min).desc).map (fun d => d.parameters.length) = some 2 := by decide +kernel
abbrev c_JS_isLatin1 : ByteArray := prog_11_method_154_code
def y_JS_isLatin1 : MethodName := ⟨R_JS, "isLatin1", "()Z"⟩
def ws_JS_isLatin1 : List Cond := Cond.code y_JS_isLatin1 c_JS_isLatin1 1 (some .boolean) :: TB
theorem hd_JS_isLatin1 : (y_JS_isLatin1).cls = R_JS ∧ (y_JS_isLatin1).cls ≠ "java/lang/invoke/MethodHandle" ∧ (y_JS_isLatin1).cls ≠ "java/lang/invoke/VarHandle" ∧ (parseMethodDescriptor (y_JS_isLatin1).desc).map (fun d => d.parameters.length) = some 0 := by decide +kernel
abbrev c_JS_coder : ByteArray := prog_11_method_152_code
def y_JS_coder : MethodName := ⟨R_JS, "coder", "()B"⟩
def ws_JS_coder : List Cond := Cond.code y_JS_coder c_JS_coder 1 (some .byte) :: TB
theorem hd_JS_coder : (y_JS_coder).cls = R_JS ∧ (y_JS_coder).cls ≠ "java/lang/invoke/MethodHandle" ∧ (y_JS_coder).cls ≠ "java/lang/invoke/VarHandle" ∧ (parseMethodDescriptor (y_JS_coder).desc).map (fun d => d.parameters.length) = some 0 := by decide +kernel
abbrev c_JS_length : ByteArray := prog_11_method_54_code
def y_JS_length : MethodName := ⟨R_JS, "length", "()I"⟩
def ws_JS_length : List Cond := Cond.code y_JS_length c_JS_length 1 (some .int) :: TB
theorem hd_JS_length : (y_JS_length).cls = R_JS ∧ (y_JS_length).cls ≠ "java/lang/invoke/MethodHandle" ∧ (y_JS_length).cls ≠ "java/lang/invoke/VarHandle" ∧ (parseMethodDescriptor (y_JS_length).desc).map (fun d => d.parameters.length) = some 0 := by decide +kernel
abbrev c_JS_indexOf : ByteArray := prog_11_method_80_code
def y_JS_indexOf : MethodName := ⟨R_JS, "indexOf", "(II)I"⟩
def ws_JS_indexOf : List Cond := Cond.code y_JS_indexOf c_JS_indexOf 3 (some .int) :: TB
theorem hd_JS_indexOf : (y_JS_indexOf).cls = R_JS ∧ (y_JS_indexOf).cls ≠ "java/lang/invoke/MethodHandle" ∧ (y_JS_indexOf).cls ≠ "java/lang/invoke/VarHandle" ∧ (parseMethodDescriptor (y_JS_indexOf).desc).map (fun d => d.parameters.length) = some 2 := by decide +kernel
abbrev c_JS_indexOf2 : ByteArray := prog_11_method_79_code
def y_JS_indexOf2 : MethodName := ⟨R_JS, "indexOf", "(I)I"⟩
def ws_JS_indexOf2 : List Cond := Cond.code y_JS_indexOf2 c_JS_indexOf2 2 (some .int) :: TB
theorem hd_JS_indexOf2 : (y_JS_indexOf2).cls = R_JS ∧ (y_JS_indexOf2).cls ≠ "java/lang/invoke/MethodHandle" ∧ (y_JS_indexOf2).cls ≠ "java/lang/invoke/VarHandle" ∧ (parseMethodDescriptor (y_JS_indexOf2).desc).map (fun d => d.parameters.length) = some 1 := by decide +kernel
abbrev c_W_takeSign : ByteArray := prog_6_method_10_code
def y_W_takeSign : MethodName := ⟨R_W, "takeSign", "()Z"⟩
def ws_W_takeSign : List Cond := Cond.code y_W_takeSign c_W_takeSign 4 (some .boolean) :: TB
theorem hd_W_takeSign : (y_W_takeSign).cls = R_W ∧ (y_W_takeSign).cls ≠ "java/lang/invoke/MethodHandle" ∧ (y_W_takeSign).cls ≠ "java/lang/invoke/VarHandle" ∧ (parseMethodDescriptor (y_W_takeSign).desc).map (fun d => d.parameters.length) = some 0 := by decide +kernel
abbrev c_W_step : ByteArray := prog_6_method_3_code
def y_W_step : MethodName := ⟨R_W, "step", "()Z"⟩
def ws_W_step : List Cond := Cond.code y_W_step c_W_step 2 (some .boolean) :: TB
theorem hd_W_step : (y_W_step).cls = R_W ∧ (y_W_step).cls ≠ "java/lang/invoke/MethodHandle" ∧ (y_W_step).cls ≠ "java/lang/invoke/VarHandle" ∧ (parseMethodDescriptor (y_W_step).desc).map (fun d => d.parameters.length) = some 0 := by decide +kernel
abbrev c_L_digitOf : ByteArray := prog_2_method_9_code
def y_L_digitOf : MethodName := ⟨R_L, "digitOf", "(I)I"⟩
def ws_L_digitOf : List Cond := Cond.code y_L_digitOf c_L_digitOf 1 (some .int) :: TB
theorem hd_L_digitOf : (y_L_digitOf).cls ≠ "java/lang/invoke/MethodHandle" ∧ (y_L_digitOf).cls ≠ "java/lang/invoke/VarHandle" ∧ (parseMethodDescriptor (y_L_digitOf).desc).map (fun d => d.parameters.length) = some 1 := by decide +kernel
abbrev c_L_escaped : ByteArray := prog_2_method_8_code
def y_L_escaped : MethodName := ⟨R_L, "escaped", "(I)I"⟩
def ws_L_escaped : List Cond := Cond.code y_L_escaped c_L_escaped 1 (some .int) :: TB
theorem hd_L_escaped : (y_L_escaped).cls ≠ "java/lang/invoke/MethodHandle" ∧ (y_L_escaped).cls ≠ "java/lang/invoke/VarHandle" ∧ (parseMethodDescriptor (y_L_escaped).desc).map (fun d => d.parameters.length) = some 1 := by decide +kernel
abbrev c_L_baseAt : ByteArray := prog_2_method_4_code
def y_L_baseAt : MethodName := ⟨R_L, "baseAt", "(I)I"⟩
def ws_L_baseAt : List Cond := Cond.code y_L_baseAt c_L_baseAt 3 (some .int) :: TB
theorem hd_L_baseAt : (y_L_baseAt).cls = R_L ∧ (y_L_baseAt).cls ≠ "java/lang/invoke/MethodHandle" ∧ (y_L_baseAt).cls ≠ "java/lang/invoke/VarHandle" ∧ (parseMethodDescriptor (y_L_baseAt).desc).map (fun d => d.parameters.length) = some 1 := by decide +kernel
abbrev c_L_fits : ByteArray := prog_2_method_5_code
def y_L_fits : MethodName := ⟨R_L, "fits", "(II)Z"⟩
def ws_L_fits : List Cond := Cond.code y_L_fits c_L_fits 3 (some .boolean) :: TB
theorem hd_L_fits : (y_L_fits).cls = R_L ∧ (y_L_fits).cls ≠ "java/lang/invoke/MethodHandle" ∧ (y_L_fits).cls ≠ "java/lang/invoke/VarHandle" ∧ (parseMethodDescriptor (y_L_fits).desc).map (fun d => d.parameters.length) = some 2 := by decide +kernel
abbrev c_L_readTail : ByteArray := prog_2_method_6_code
def y_L_readTail : MethodName := ⟨R_L, "readTail", "(II)Z"⟩
def ws_L_readTail : List Cond := Cond.code y_L_readTail c_L_readTail 6 (some .boolean) :: TB
theorem hd_L_readTail : (y_L_readTail).cls = R_L ∧ (y_L_readTail).cls ≠ "java/lang/invoke/MethodHandle" ∧ (y_L_readTail).cls ≠ "java/lang/invoke/VarHandle" ∧ (parseMethodDescriptor (y_L_readTail).desc).map (fun d => d.parameters.length) = some 2 := by decide +kernel
abbrev c_L_readNumber : ByteArray := prog_2_method_3_code
def y_L_readNumber : MethodName := ⟨R_L, "readNumber", "(II)Z"⟩
def ws_L_readNumber : List Cond := Cond.code y_L_readNumber c_L_readNumber 7 (some .boolean) :: TB
theorem hd_L_readNumber : (y_L_readNumber).cls = R_L ∧ (y_L_readNumber).cls ≠ "java/lang/invoke/MethodHandle" ∧ (y_L_readNumber).cls ≠ "java/lang/invoke/VarHandle" ∧ (parseMethodDescriptor (y_L_readNumber).desc).map (fun d => d.parameters.length) = some 2 := by decide +kernel
abbrev c_L_readCharacter : ByteArray := prog_2_method_7_code
def y_L_readCharacter : MethodName := ⟨R_L, "readCharacter", "(II)Z"⟩
def ws_L_readCharacter : List Cond := Cond.code y_L_readCharacter c_L_readCharacter 3 (some .boolean) :: TB
theorem hd_L_readCharacter : (y_L_readCharacter).cls = R_L ∧ (y_L_readCharacter).cls ≠ "java/lang/invoke/MethodHandle" ∧ (y_L_readCharacter).cls ≠ "java/lang/invoke/VarHandle" ∧ (parseMethodDescriptor (y_L_readCharacter).desc).map (fun d => d.parameters.length) = some 2 := by decide +kernel
abbrev c_L_read : ByteArray := prog_2_method_2_code
def y_L_read : MethodName := ⟨R_L, "read", "(III)Z"⟩
def ws_L_read : List Cond := Cond.code y_L_read c_L_read 4 (some .boolean) :: TB
theorem hd_L_read : (y_L_read).cls = R_L ∧ (y_L_read).cls ≠ "java/lang/invoke/MethodHandle" ∧ (y_L_read).cls ≠ "java/lang/invoke/VarHandle" ∧ (parseMethodDescriptor (y_L_read).desc).map (fun d => d.parameters.length) = some 3 := by decide +kernel
abbrev c_S_isTruth : ByteArray := prog_4_method_3_code
def y_S_isTruth : MethodName := ⟨R_S, "isTruth", "(I)Z"⟩
def ws_S_isTruth : List Cond := Cond.code y_S_isTruth c_S_isTruth 1 (some .boolean) :: TB
theorem hd_S_isTruth : (y_S_isTruth).cls ≠ "java/lang/invoke/MethodHandle" ∧ (y_S_isTruth).cls ≠ "java/lang/invoke/VarHandle" ∧ (parseMethodDescriptor (y_S_isTruth).desc).map (fun d => d.parameters.length) = some 1 := by decide +kernel
abbrev c_S_front : ByteArray := prog_4_method_2_code
def y_S_front : MethodName := ⟨R_S, "front", "(IJ)J"⟩
def ws_S_front : List Cond := Cond.code y_S_front c_S_front 3 (some .long) :: TB
theorem hd_S_front : (y_S_front).cls ≠ "java/lang/invoke/MethodHandle" ∧ (y_S_front).cls ≠ "java/lang/invoke/VarHandle" ∧ (parseMethodDescriptor (y_S_front).desc).map (fun d => d.parameters.length) = some 2 := by decide +kernel
abbrev c_S_holds : ByteArray := prog_4_method_5_code
def y_S_holds : MethodName := ⟨R_S, "holds", "(IJJZ)Z"⟩
def ws_S_holds : List Cond := Cond.code y_S_holds c_S_holds 8 (some .boolean) :: TB
theorem hd_S_holds : (y_S_holds).cls ≠ "java/lang/invoke/MethodHandle" ∧ (y_S_holds).cls ≠ "java/lang/invoke/VarHandle" ∧ (parseMethodDescriptor (y_S_holds).desc).map (fun d => d.parameters.length) = some 4 := by decide +kernel
abbrev c_S_quotient : ByteArray := prog_4_method_6_code
def y_S_quotient : MethodName := ⟨R_S, "quotient", "(JJZ)J"⟩
def ws_S_quotient : List Cond := Cond.code y_S_quotient c_S_quotient 9 (some .long) :: TB
theorem hd_S_quotient : (y_S_quotient).cls ≠ "java/lang/invoke/MethodHandle" ∧ (y_S_quotient).cls ≠ "java/lang/invoke/VarHandle" ∧ (parseMethodDescriptor (y_S_quotient).desc).map (fun d => d.parameters.length) = some 3 := by decide +kernel
abbrev c_S_pair : ByteArray := prog_4_method_4_code
def y_S_pair : MethodName := ⟨R_S, "pair", "(IJJZ)J"⟩
def ws_S_pair : List Cond := Cond.code y_S_pair c_S_pair 6 (some .long) :: TB
theorem hd_S_pair : (y_S_pair).cls ≠ "java/lang/invoke/MethodHandle" ∧ (y_S_pair).cls ≠ "java/lang/invoke/VarHandle" ∧ (parseMethodDescriptor (y_S_pair).desc).map (fun d => d.parameters.length) = some 4 := by decide +kernel
abbrev c_K_nest : ByteArray := prog_3_method_17_code
def y_K_nest : MethodName := ⟨R_K, "nest", "()V"⟩
def ws_K_nest : List Cond := Cond.code y_K_nest c_K_nest 1 none :: TB
theorem hd_K_nest : (y_K_nest).cls = R_K ∧ (y_K_nest).cls ≠ "java/lang/invoke/MethodHandle" ∧ (y_K_nest).cls ≠ "java/lang/invoke/VarHandle" ∧ (parseMethodDescriptor (y_K_nest).desc).map (fun d => d.parameters.length) = some 0 := by decide +kernel
abbrev c_K_hold : ByteArray := prog_3_method_18_code
def y_K_hold : MethodName := ⟨R_K, "hold", "(JZ)V"⟩
def ws_K_hold : List Cond := Cond.code y_K_hold c_K_hold 4 none :: TB
theorem hd_K_hold : (y_K_hold).cls = R_K ∧ (y_K_hold).cls ≠ "java/lang/invoke/MethodHandle" ∧ (y_K_hold).cls ≠ "java/lang/invoke/VarHandle" ∧ (parseMethodDescriptor (y_K_hold).desc).map (fun d => d.parameters.length) = some 2 := by decide +kernel
abbrev c_K_await : ByteArray := prog_3_method_19_code
def y_K_await : MethodName := ⟨R_K, "await", "(IIZ)V"⟩
def ws_K_await : List Cond := Cond.code y_K_await c_K_await 4 none :: TB
theorem hd_K_await : (y_K_await).cls = R_K ∧ (y_K_await).cls ≠ "java/lang/invoke/MethodHandle" ∧ (y_K_await).cls ≠ "java/lang/invoke/VarHandle" ∧ (parseMethodDescriptor (y_K_await).desc).map (fun d => d.parameters.length) = some 3 := by decide +kernel
abbrev c_K_endWait : ByteArray := prog_3_method_20_code
def y_K_endWait : MethodName := ⟨R_K, "endWait", "()V"⟩
def ws_K_endWait : List Cond := Cond.code y_K_endWait c_K_endWait 1 none :: TB
theorem hd_K_endWait : (y_K_endWait).cls = R_K ∧ (y_K_endWait).cls ≠ "java/lang/invoke/MethodHandle" ∧ (y_K_endWait).cls ≠ "java/lang/invoke/VarHandle" ∧ (parseMethodDescriptor (y_K_endWait).desc).map (fun d => d.parameters.length) = some 0 := by decide +kernel
abbrev c_K_isOpen : ByteArray := prog_3_method_10_code
def y_K_isOpen : MethodName := ⟨R_K, "isOpen", "(I)Z"⟩
def ws_K_isOpen : List Cond := Cond.code y_K_isOpen c_K_isOpen 2 (some .boolean) :: TB
theorem hd_K_isOpen : (y_K_isOpen).cls = R_K ∧ (y_K_isOpen).cls ≠ "java/lang/invoke/MethodHandle" ∧ (y_K_isOpen).cls ≠ "java/lang/invoke/VarHandle" ∧ (parseMethodDescriptor (y_K_isOpen).desc).map (fun d => d.parameters.length) = some 1 := by decide +kernel
abbrev c_K_skipsRight : ByteArray := prog_3_method_11_code
def y_K_skipsRight : MethodName := ⟨R_K, "skipsRight", "(I)Z"⟩
def ws_K_skipsRight : List Cond := Cond.code y_K_skipsRight c_K_skipsRight 3 (some .boolean) :: TB
theorem hd_K_skipsRight : (y_K_skipsRight).cls = R_K ∧ (y_K_skipsRight).cls ≠ "java/lang/invoke/MethodHandle" ∧ (y_K_skipsRight).cls ≠ "java/lang/invoke/VarHandle" ∧ (parseMethodDescriptor (y_K_skipsRight).desc).map (fun d => d.parameters.length) = some 1 := by decide +kernel
abbrev c_K_strengthOf : ByteArray := prog_3_method_12_code
def y_K_strengthOf : MethodName := ⟨R_K, "strengthOf", "(I)I"⟩
def ws_K_strengthOf : List Cond := Cond.code y_K_strengthOf c_K_strengthOf 1 (some .int) :: TB
theorem hd_K_strengthOf : (y_K_strengthOf).cls ≠ "java/lang/invoke/MethodHandle" ∧ (y_K_strengthOf).cls ≠ "java/lang/invoke/VarHandle" ∧ (parseMethodDescriptor (y_K_strengthOf).desc).map (fun d => d.parameters.length) = some 1 := by decide +kernel
abbrev c_K_clear : ByteArray := prog_3_method_3_code
def y_K_clear : MethodName := ⟨R_K, "clear", "()V"⟩
def ws_K_clear : List Cond := Cond.code y_K_clear c_K_clear 1 none :: TB
theorem hd_K_clear : (y_K_clear).cls = R_K ∧ (y_K_clear).cls ≠ "java/lang/invoke/MethodHandle" ∧ (y_K_clear).cls ≠ "java/lang/invoke/VarHandle" ∧ (parseMethodDescriptor (y_K_clear).desc).map (fun d => d.parameters.length) = some 0 := by decide +kernel
abbrev c_K_openNest : ByteArray := prog_3_method_5_code
def y_K_openNest : MethodName := ⟨R_K, "openNest", "(I)V"⟩
def ws_K_openNest : List Cond := Cond.code y_K_openNest c_K_openNest 2 none :: TB
theorem hd_K_openNest : (y_K_openNest).cls = R_K ∧ (y_K_openNest).cls ≠ "java/lang/invoke/MethodHandle" ∧ (y_K_openNest).cls ≠ "java/lang/invoke/VarHandle" ∧ (parseMethodDescriptor (y_K_openNest).desc).map (fun d => d.parameters.length) = some 1 := by decide +kernel
abbrev c_K_closeBracket : ByteArray := prog_3_method_7_code
def y_K_closeBracket : MethodName := ⟨R_K, "closeBracket", "()V"⟩
def ws_K_closeBracket : List Cond := Cond.code y_K_closeBracket c_K_closeBracket 1 none :: TB
theorem hd_K_closeBracket : (y_K_closeBracket).cls = R_K ∧ (y_K_closeBracket).cls ≠ "java/lang/invoke/MethodHandle" ∧ (y_K_closeBracket).cls ≠ "java/lang/invoke/VarHandle" ∧ (parseMethodDescriptor (y_K_closeBracket).desc).map (fun d => d.parameters.length) = some 0 := by decide +kernel
abbrev c_K_beginChoice : ByteArray := prog_3_method_8_code
def y_K_beginChoice : MethodName := ⟨R_K, "beginChoice", "()V"⟩
def ws_K_beginChoice : List Cond := Cond.code y_K_beginChoice c_K_beginChoice 1 none :: TB
theorem hd_K_beginChoice : (y_K_beginChoice).cls = R_K ∧ (y_K_beginChoice).cls ≠ "java/lang/invoke/MethodHandle" ∧ (y_K_beginChoice).cls ≠ "java/lang/invoke/VarHandle" ∧ (parseMethodDescriptor (y_K_beginChoice).desc).map (fun d => d.parameters.length) = some 0 := by decide +kernel
abbrev c_K_turnChoice : ByteArray := prog_3_method_9_code
def y_K_turnChoice : MethodName := ⟨R_K, "turnChoice", "()V"⟩
def ws_K_turnChoice : List Cond := Cond.code y_K_turnChoice c_K_turnChoice 2 none :: TB
theorem hd_K_turnChoice : (y_K_turnChoice).cls = R_K ∧ (y_K_turnChoice).cls ≠ "java/lang/invoke/MethodHandle" ∧ (y_K_turnChoice).cls ≠ "java/lang/invoke/VarHandle" ∧ (parseMethodDescriptor (y_K_turnChoice).desc).map (fun d => d.parameters.length) = some 0 := by decide +kernel
abbrev c_K_finishFront : ByteArray := prog_3_method_14_code
def y_K_finishFront : MethodName := ⟨R_K, "finishFront", "(I)V"⟩
def ws_K_finishFront : List Cond := Cond.code y_K_finishFront c_K_finishFront 3 none :: TB
theorem hd_K_finishFront : (y_K_finishFront).cls = R_K ∧ (y_K_finishFront).cls ≠ "java/lang/invoke/MethodHandle" ∧ (y_K_finishFront).cls ≠ "java/lang/invoke/VarHandle" ∧ (parseMethodDescriptor (y_K_finishFront).desc).map (fun d => d.parameters.length) = some 1 := by decide +kernel
abbrev c_K_finishChoice : ByteArray := prog_3_method_15_code
def y_K_finishChoice : MethodName := ⟨R_K, "finishChoice", "(Z)V"⟩
def ws_K_finishChoice : List Cond := Cond.code y_K_finishChoice c_K_finishChoice 3 none :: TB
theorem hd_K_finishChoice : (y_K_finishChoice).cls = R_K ∧ (y_K_finishChoice).cls ≠ "java/lang/invoke/MethodHandle" ∧ (y_K_finishChoice).cls ≠ "java/lang/invoke/VarHandle" ∧ (parseMethodDescriptor (y_K_finishChoice).desc).map (fun d => d.parameters.length) = some 1 := by decide +kernel
abbrev c_K_finishPair : ByteArray := prog_3_method_16_code
def y_K_finishPair : MethodName := ⟨R_K, "finishPair", "(I)V"⟩
def ws_K_finishPair : List Cond := Cond.code y_K_finishPair c_K_finishPair 5 none :: TB
theorem hd_K_finishPair : (y_K_finishPair).cls = R_K ∧ (y_K_finishPair).cls ≠ "java/lang/invoke/MethodHandle" ∧ (y_K_finishPair).cls ≠ "java/lang/invoke/VarHandle" ∧ (parseMethodDescriptor (y_K_finishPair).desc).map (fun d => d.parameters.length) = some 1 := by decide +kernel
abbrev c_K_finishDownTo : ByteArray := prog_3_method_13_code
def y_K_finishDownTo : MethodName := ⟨R_K, "finishDownTo", "(I)V"⟩
def ws_K_finishDownTo : List Cond := Cond.code y_K_finishDownTo c_K_finishDownTo 4 none :: TB
theorem hd_K_finishDownTo : (y_K_finishDownTo).cls = R_K ∧ (y_K_finishDownTo).cls ≠ "java/lang/invoke/MethodHandle" ∧ (y_K_finishDownTo).cls ≠ "java/lang/invoke/VarHandle" ∧ (parseMethodDescriptor (y_K_finishDownTo).desc).map (fun d => d.parameters.length) = some 1 := by decide +kernel
abbrev c_K_takeOperand : ByteArray := prog_3_method_4_code
def y_K_takeOperand : MethodName := ⟨R_K, "takeOperand", "()Z"⟩
def ws_K_takeOperand : List Cond := Cond.code y_K_takeOperand c_K_takeOperand 1 (some .boolean) :: TB
theorem hd_K_takeOperand : (y_K_takeOperand).cls = R_K ∧ (y_K_takeOperand).cls ≠ "java/lang/invoke/MethodHandle" ∧ (y_K_takeOperand).cls ≠ "java/lang/invoke/VarHandle" ∧ (parseMethodDescriptor (y_K_takeOperand).desc).map (fun d => d.parameters.length) = some 0 := by decide +kernel
abbrev c_K_takeOperator : ByteArray := prog_3_method_6_code
def y_K_takeOperator : MethodName := ⟨R_K, "takeOperator", "()Z"⟩
def ws_K_takeOperator : List Cond := Cond.code y_K_takeOperator c_K_takeOperator 3 (some .boolean) :: TB
theorem hd_K_takeOperator : (y_K_takeOperator).cls = R_K ∧ (y_K_takeOperator).cls ≠ "java/lang/invoke/MethodHandle" ∧ (y_K_takeOperator).cls ≠ "java/lang/invoke/VarHandle" ∧ (parseMethodDescriptor (y_K_takeOperator).desc).map (fun d => d.parameters.length) = some 0 := by decide +kernel
abbrev c_K_run : ByteArray := prog_3_method_2_code
def y_K_run : MethodName := ⟨R_K, "run", "()I"⟩
def ws_K_run : List Cond := Cond.code y_K_run c_K_run 3 (some .int) :: TB
theorem hd_K_run : (y_K_run).cls = R_K ∧ (y_K_run).cls ≠ "java/lang/invoke/MethodHandle" ∧ (y_K_run).cls ≠ "java/lang/invoke/VarHandle" ∧ (parseMethodDescriptor (y_K_run).desc).map (fun d => d.parameters.length) = some 0 := by decide +kernel
abbrev c_M_feed : ByteArray := prog_1_method_2_code
def y_M_feed : MethodName := ⟨R_M, "feed", "(JI)I"⟩
def ws_M_feed : List Cond := Cond.code y_M_feed c_M_feed 4 (some .int) :: TB
theorem hd_M_feed : (y_M_feed).cls = R_M ∧ (y_M_feed).cls ≠ "java/lang/invoke/MethodHandle" ∧ (y_M_feed).cls ≠ "java/lang/invoke/VarHandle" ∧ (parseMethodDescriptor (y_M_feed).desc).map (fun d => d.parameters.length) = some 2 := by decide +kernel
abbrev c_M_cut : ByteArray := prog_1_method_3_code
def y_M_cut : MethodName := ⟨R_M, "cut", "(I)I"⟩
def ws_M_cut : List Cond := Cond.code y_M_cut c_M_cut 3 (some .int) :: TB
theorem hd_M_cut : (y_M_cut).cls = R_M ∧ (y_M_cut).cls ≠ "java/lang/invoke/MethodHandle" ∧ (y_M_cut).cls ≠ "java/lang/invoke/VarHandle" ∧ (parseMethodDescriptor (y_M_cut).desc).map (fun d => d.parameters.length) = some 1 := by decide +kernel
abbrev c_M_reckon : ByteArray := prog_1_method_4_code
def y_M_reckon : MethodName := ⟨R_M, "reckon", "()I"⟩
def ws_M_reckon : List Cond := Cond.code y_M_reckon c_M_reckon 3 (some .int) :: TB
theorem hd_M_reckon : (y_M_reckon).cls = R_M ∧ (y_M_reckon).cls ≠ "java/lang/invoke/MethodHandle" ∧ (y_M_reckon).cls ≠ "java/lang/invoke/VarHandle" ∧ (parseMethodDescriptor (y_M_reckon).desc).map (fun d => d.parameters.length) = some 0 := by decide +kernel
abbrev c_M_value : ByteArray := prog_1_method_5_code
def y_M_value : MethodName := ⟨R_M, "value", "()J"⟩
def ws_M_value : List Cond := Cond.code y_M_value c_M_value 1 (some .long) :: TB
theorem hd_M_value : (y_M_value).cls = R_M ∧ (y_M_value).cls ≠ "java/lang/invoke/MethodHandle" ∧ (y_M_value).cls ≠ "java/lang/invoke/VarHandle" ∧ (parseMethodDescriptor (y_M_value).desc).map (fun d => d.parameters.length) = some 0 := by decide +kernel
abbrev c_M_isPlain : ByteArray := prog_1_method_6_code
def y_M_isPlain : MethodName := ⟨R_M, "isPlain", "()Z"⟩
def ws_M_isPlain : List Cond := Cond.code y_M_isPlain c_M_isPlain 1 (some .boolean) :: TB
theorem hd_M_isPlain : (y_M_isPlain).cls = R_M ∧ (y_M_isPlain).cls ≠ "java/lang/invoke/MethodHandle" ∧ (y_M_isPlain).cls ≠ "java/lang/invoke/VarHandle" ∧ (parseMethodDescriptor (y_M_isPlain).desc).map (fun d => d.parameters.length) = some 0 := by decide +kernel
abbrev c_M_tokens : ByteArray := prog_1_method_7_code
def y_M_tokens : MethodName := ⟨R_M, "tokens", "()I"⟩
def ws_M_tokens : List Cond := Cond.code y_M_tokens c_M_tokens 2 (some .int) :: TB
theorem hd_M_tokens : (y_M_tokens).cls = R_M ∧ (y_M_tokens).cls ≠ "java/lang/invoke/MethodHandle" ∧ (y_M_tokens).cls ≠ "java/lang/invoke/VarHandle" ∧ (parseMethodDescriptor (y_M_tokens).desc).map (fun d => d.parameters.length) = some 0 := by decide +kernel
abbrev c_M_token : ByteArray := prog_1_method_8_code
def y_M_token : MethodName := ⟨R_M, "token", "(II)I"⟩
def ws_M_token : List Cond := Cond.code y_M_token c_M_token 4 (some .int) :: TB
theorem hd_M_token : (y_M_token).cls = R_M ∧ (y_M_token).cls ≠ "java/lang/invoke/MethodHandle" ∧ (y_M_token).cls ≠ "java/lang/invoke/VarHandle" ∧ (parseMethodDescriptor (y_M_token).desc).map (fun d => d.parameters.length) = some 2 := by decide +kernel
abbrev c_T_init : ByteArray := prog_5_method_1_code
def y_T_init : MethodName := ⟨R_T, "<init>", "()V"⟩
def ws_T_init : List Cond := Cond.code y_T_init c_T_init 1 none :: TB
theorem hd_T_init : (y_T_init).cls ≠ "java/lang/invoke/MethodHandle" ∧ (y_T_init).cls ≠ "java/lang/invoke/VarHandle" ∧ (parseMethodDescriptor (y_T_init).desc).map (fun d => d.parameters.length) = some 0 := by decide +kernel
abbrev c_W_init : ByteArray := prog_6_method_1_code
def y_W_init : MethodName := ⟨R_W, "<init>", "(LConditionMill$Text;)V"⟩
def ws_W_init : List Cond := Cond.code y_W_init c_W_init 2 none :: TB
theorem hd_W_init : (y_W_init).cls ≠ "java/lang/invoke/MethodHandle" ∧ (y_W_init).cls ≠ "java/lang/invoke/VarHandle" ∧ (parseMethodDescriptor (y_W_init).desc).map (fun d => d.parameters.length) = some 1 := by decide +kernel
abbrev c_L_init : ByteArray := prog_2_method_1_code
def y_L_init : MethodName := ⟨R_L, "<init>", "(LConditionMill$Text;)V"⟩
def ws_L_init : List Cond := Cond.code y_L_init c_L_init 2 none :: TB
theorem hd_L_init : (y_L_init).cls ≠ "java/lang/invoke/MethodHandle" ∧ (y_L_init).cls ≠ "java/lang/invoke/VarHandle" ∧ (parseMethodDescriptor (y_L_init).desc).map (fun d => d.parameters.length) = some 1 := by decide +kernel
abbrev c_K_init : ByteArray := prog_3_method_1_code
def y_K_init : MethodName := ⟨R_K, "<init>", "(LConditionMill$Walk;LConditionMill$Literal;)V"⟩
def ws_K_init : List Cond := Cond.code y_K_init c_K_init 3 none :: TB
theorem hd_K_init : (y_K_init).cls ≠ "java/lang/invoke/MethodHandle" ∧ (y_K_init).cls ≠ "java/lang/invoke/VarHandle" ∧ (parseMethodDescriptor (y_K_init).desc).map (fun d => d.parameters.length) = some 2 := by decide +kernel
abbrev c_M_init : ByteArray := prog_1_method_1_code
def y_M_init : MethodName := ⟨R_M, "<init>", "()V"⟩
def ws_M_init : List Cond := Cond.code y_M_init c_M_init 1 none :: TB
theorem hd_M_init : (y_M_init).cls ≠ "java/lang/invoke/MethodHandle" ∧ (y_M_init).cls ≠ "java/lang/invoke/VarHandle" ∧ (parseMethodDescriptor (y_M_init).desc).map (fun d => d.parameters.length) = some 0 := by decide +kernel
theorem tw_0 : (.fieldLink R_T 15 "ConditionMill$Text" "size" "I") ∈ TB := tb_i 30 (by decide +kernel) rfl
theorem tw_1 : (.fieldLink R_T 9 "ConditionMill$Text" "row" "[B") ∈ TB := tb_i 29 (by decide +kernel) rfl
theorem tw_2 : (.fieldLink R_W 22 "ConditionMill$Walk" "kind" "I") ∈ TB := tb_i 52 (by decide +kernel) rfl
theorem tw_3 : (.fieldLink R_W 19 "ConditionMill$Walk" "end" "I") ∈ TB := tb_i 49 (by decide +kernel) rfl
theorem tw_4 : (.methodLink R_W 68 y_W_isDigit) ∈ TB := tb_i 213 (by decide +kernel) rfl
theorem tw_5 : (.code y_W_isDigit c_W_isDigit 1 (some .boolean)) ∈ TB := tb_i 215 (by decide +kernel) rfl
theorem tw_6 : (.initialized R_W) ∈ TB := tb_i 3 (by decide +kernel) rfl
theorem tw_7 : (.static y_W_isDigit) ∈ TB := tb_i 214 (by decide +kernel) rfl
theorem tw_8 : (.methodLink R_W 65 y_W_isLetter) ∈ TB := tb_i 210 (by decide +kernel) rfl
theorem tw_9 : (.code y_W_isLetter c_W_isLetter 1 (some .boolean)) ∈ TB := tb_i 212 (by decide +kernel) rfl
theorem tw_10 : (.static y_W_isLetter) ∈ TB := tb_i 211 (by decide +kernel) rfl
theorem tw_11 : (.fieldLink R_W 15 "ConditionMill$Walk" "start" "I") ∈ TB := tb_i 46 (by decide +kernel) rfl
theorem tw_12 : (.fieldLink R_W 25 "ConditionMill$Walk" "openTextEnd" "I") ∈ TB := tb_i 55 (by decide +kernel) rfl
theorem tw_13 : (.fieldLink R_W 28 "ConditionMill$Walk" "openCharacterEnd" "I") ∈ TB := tb_i 56 (by decide +kernel) rfl
theorem tw_14 : (.fieldLink R_W 9 "ConditionMill$Walk" "text" "LConditionMill$Text;") ∈ TB := tb_i 45 (by decide +kernel) rfl
theorem tw_15 : (.methodLink R_W 36 y_T_at) ∈ TB := tb_i 187 (by decide +kernel) rfl
theorem tw_16 : (.code y_T_at c_T_at 2 (some .int)) ∈ TB := tb_i 190 (by decide +kernel) rfl
theorem tw_17 : (.initialized R_T) ∈ TB := tb_i 2 (by decide +kernel) rfl
theorem tw_18 : (.instanceMethod y_T_at) ∈ TB := tb_i 188 (by decide +kernel) rfl
theorem tw_19 : (.selects R_T y_T_at y_T_at) ∈ TB := tb_i 189 (by decide +kernel) rfl
theorem tw_20 : (.methodLink R_W 61 y_W_closeOf) ∈ TB := tb_i 198 (by decide +kernel) rfl
theorem tw_21 : (.code y_W_closeOf c_W_closeOf 5 (some .int)) ∈ TB := tb_i 201 (by decide +kernel) rfl
theorem tw_22 : (.instanceMethod y_W_closeOf) ∈ TB := tb_i 200 (by decide +kernel) rfl
theorem tw_23 : (.selects R_W y_W_closeOf y_W_closeOf) ∈ TB := tb_s (by decide +kernel)
theorem tw_24 : (.methodLink R_W 57 y_W_take) ∈ TB := tb_i 202 (by decide +kernel) rfl
theorem tw_25 : (.code y_W_take c_W_take 3 none) ∈ TB := tb_i 205 (by decide +kernel) rfl
theorem tw_26 : (.instanceMethod y_W_take) ∈ TB := tb_i 204 (by decide +kernel) rfl
theorem tw_27 : (.selects R_W y_W_take y_W_take) ∈ TB := tb_s (by decide +kernel)
theorem tw_28 : (.methodLink R_W 71 y_W_goesOnNumber) ∈ TB := tb_i 220 (by decide +kernel) rfl
theorem tw_29 : (.code y_W_goesOnNumber c_W_goesOnNumber 2 (some .boolean)) ∈ TB := tb_i 222 (by decide +kernel) rfl
theorem tw_30 : (.static y_W_goesOnNumber) ∈ TB := tb_i 221 (by decide +kernel) rfl
theorem tw_31 : (.methodLink R_JL 88 y_JL_canEncode) ∈ TB := tb_i 259 (by decide +kernel) rfl
theorem tw_32 : (.code y_JL_canEncode c_JL_canEncode 1 (some .boolean)) ∈ TB := tb_i 261 (by decide +kernel) rfl
theorem tw_33 : (.initialized R_JL) ∈ TB := tb_i 8 (by decide +kernel) rfl
theorem tw_34 : (.static y_JL_canEncode) ∈ TB := tb_i 260 (by decide +kernel) rfl
theorem tw_35 : (.methodLink R_JL 92 y_JM_max) ∈ TB := tb_i 262 (by decide +kernel) rfl
theorem tw_36 : (.static y_JM_max) ∈ TB := tb_i 263 (by decide +kernel) rfl
theorem tw_37 : (.initialized R_JM) ∈ TB := tb_i 9 (by decide +kernel) rfl
theorem tw_38 : (.code y_JM_max c_JM_max 2 (some .int)) ∈ TB := tb_i 264 (by decide +kernel) rfl
theorem tw_39 : (.methodLink R_JL 38 y_JM_min) ∈ TB := tb_i 265 (by decide +kernel) rfl
theorem tw_40 : (.static y_JM_min) ∈ TB := tb_i 266 (by decide +kernel) rfl
theorem tw_41 : (.code y_JM_min c_JM_min 2 (some .int)) ∈ TB := tb_i 267 (by decide +kernel) rfl
theorem tw_42 : (.methodLink R_JL 95 y_JL_indexOfChar) ∈ TB := tb_i 268 (by decide +kernel) rfl
theorem tw_43 : (.code y_JL_indexOfChar c_JL_indexOfChar 6 (some .int)) ∈ TB := tb_i 270 (by decide +kernel) rfl
theorem tw_44 : (.static y_JL_indexOfChar) ∈ TB := tb_i 269 (by decide +kernel) rfl
theorem tw_45 : (.fieldLink R_JS 38 "java/lang/String" "COMPACT_STRINGS" "Z") ∈ TB := tb_i 246 (by decide +kernel) rfl
theorem tw_46 : (.fieldLink R_JS 15 "java/lang/String" "coder" "B") ∈ TB := tb_i 747 (by decide +kernel) rfl
theorem tw_47 : (.fieldLink R_JS 9 "java/lang/String" "value" "[B") ∈ TB := tb_i 748 (by decide +kernel) rfl
theorem tw_48 : (.methodLink R_JS 335 y_JS_coder) ∈ TB := tb_i 252 (by decide +kernel) rfl
theorem tw_49 : (.code y_JS_coder c_JS_coder 1 (some .byte)) ∈ TB := tb_i 255 (by decide +kernel) rfl
theorem tw_50 : (.initialized R_JS) ∈ TB := tb_i 7 (by decide +kernel) rfl
theorem tw_51 : (.instanceMethod y_JS_coder) ∈ TB := tb_i 253 (by decide +kernel) rfl
theorem tw_52 : (.selects R_JS y_JS_coder y_JS_coder) ∈ TB := tb_i 254 (by decide +kernel) rfl
theorem tw_53 : (.methodLink R_JS 492 y_JS_isLatin1) ∈ TB := tb_i 242 (by decide +kernel) rfl
theorem tw_54 : (.code y_JS_isLatin1 c_JS_isLatin1 1 (some .boolean)) ∈ TB := tb_i 245 (by decide +kernel) rfl
theorem tw_55 : (.instanceMethod y_JS_isLatin1) ∈ TB := tb_i 243 (by decide +kernel) rfl
theorem tw_56 : (.selects R_JS y_JS_isLatin1 y_JS_isLatin1) ∈ TB := tb_i 244 (by decide +kernel) rfl
theorem tw_57 : (.methodLink R_JS 505 y_JS_length) ∈ TB := tb_i 248 (by decide +kernel) rfl
theorem tw_58 : (.code y_JS_length c_JS_length 1 (some .int)) ∈ TB := tb_i 251 (by decide +kernel) rfl
theorem tw_59 : (.instanceMethod y_JS_length) ∈ TB := tb_i 249 (by decide +kernel) rfl
theorem tw_60 : (.selects R_JS y_JS_length y_JS_length) ∈ TB := tb_i 250 (by decide +kernel) rfl
theorem tw_61 : (.methodLink R_JS 637 y_JL_indexOf) ∈ TB := tb_i 256 (by decide +kernel) rfl
theorem tw_62 : (.code y_JL_indexOf c_JL_indexOf 4 (some .int)) ∈ TB := tb_i 258 (by decide +kernel) rfl
theorem tw_63 : (.static y_JL_indexOf) ∈ TB := tb_i 257 (by decide +kernel) rfl
theorem tw_64 : (.methodLink R_JS 633 y_JS_indexOf) ∈ TB := tb_i 238 (by decide +kernel) rfl
theorem tw_65 : (.code y_JS_indexOf c_JS_indexOf 3 (some .int)) ∈ TB := tb_i 241 (by decide +kernel) rfl
theorem tw_66 : (.instanceMethod y_JS_indexOf) ∈ TB := tb_i 239 (by decide +kernel) rfl
theorem tw_67 : (.selects R_JS y_JS_indexOf y_JS_indexOf) ∈ TB := tb_i 240 (by decide +kernel) rfl
theorem tw_68 : (.methodLink R_W 75 y_W_isTriple) ∈ TB := tb_i 227 (by decide +kernel) rfl
theorem tw_69 : (.code y_W_isTriple c_W_isTriple 3 (some .boolean)) ∈ TB := tb_i 229 (by decide +kernel) rfl
theorem tw_70 : (.static y_W_isTriple) ∈ TB := tb_i 228 (by decide +kernel) rfl
theorem tw_71 : (.methodLink R_W 79 y_W_isPair) ∈ TB := tb_i 230 (by decide +kernel) rfl
theorem tw_72 : (.code y_W_isPair c_W_isPair 2 (some .boolean)) ∈ TB := tb_i 232 (by decide +kernel) rfl
theorem tw_73 : (.static y_W_isPair) ∈ TB := tb_i 231 (by decide +kernel) rfl
theorem tw_74 : (.methodLink R_W 84 y_JS_indexOf2) ∈ TB := tb_i 234 (by decide +kernel) rfl
theorem tw_75 : (.code y_JS_indexOf2 c_JS_indexOf2 2 (some .int)) ∈ TB := tb_i 237 (by decide +kernel) rfl
theorem tw_76 : (.instanceMethod y_JS_indexOf2) ∈ TB := tb_i 235 (by decide +kernel) rfl
theorem tw_77 : (.selects R_JS y_JS_indexOf2 y_JS_indexOf2) ∈ TB := tb_i 236 (by decide +kernel) rfl
theorem tw_78 : (.methodLink R_W 44 y_W_takeQuoted) ∈ TB := tb_i 194 (by decide +kernel) rfl
theorem tw_79 : (.code y_W_takeQuoted c_W_takeQuoted 4 (some .boolean)) ∈ TB := tb_i 197 (by decide +kernel) rfl
theorem tw_80 : (.instanceMethod y_W_takeQuoted) ∈ TB := tb_i 196 (by decide +kernel) rfl
theorem tw_81 : (.selects R_W y_W_takeQuoted y_W_takeQuoted) ∈ TB := tb_s (by decide +kernel)
theorem tw_82 : (.methodLink R_W 48 y_W_takeName) ∈ TB := tb_i 206 (by decide +kernel) rfl
theorem tw_83 : (.code y_W_takeName c_W_takeName 2 (some .boolean)) ∈ TB := tb_i 209 (by decide +kernel) rfl
theorem tw_84 : (.instanceMethod y_W_takeName) ∈ TB := tb_i 208 (by decide +kernel) rfl
theorem tw_85 : (.selects R_W y_W_takeName y_W_takeName) ∈ TB := tb_s (by decide +kernel)
theorem tw_86 : (.methodLink R_W 51 y_W_takeNumber) ∈ TB := tb_i 216 (by decide +kernel) rfl
theorem tw_87 : (.code y_W_takeNumber c_W_takeNumber 3 (some .boolean)) ∈ TB := tb_i 219 (by decide +kernel) rfl
theorem tw_88 : (.instanceMethod y_W_takeNumber) ∈ TB := tb_i 218 (by decide +kernel) rfl
theorem tw_89 : (.selects R_W y_W_takeNumber y_W_takeNumber) ∈ TB := tb_s (by decide +kernel)
theorem tw_90 : (.methodLink R_W 54 y_W_takeSign) ∈ TB := tb_i 223 (by decide +kernel) rfl
theorem tw_91 : (.code y_W_takeSign c_W_takeSign 4 (some .boolean)) ∈ TB := tb_i 226 (by decide +kernel) rfl
theorem tw_92 : (.instanceMethod y_W_takeSign) ∈ TB := tb_i 225 (by decide +kernel) rfl
theorem tw_93 : (.selects R_W y_W_takeSign y_W_takeSign) ∈ TB := tb_s (by decide +kernel)
theorem tw_94 : (.methodLink R_W 40 y_W_isBlank) ∈ TB := tb_i 191 (by decide +kernel) rfl
theorem tw_95 : (.code y_W_isBlank c_W_isBlank 1 (some .boolean)) ∈ TB := tb_i 193 (by decide +kernel) rfl
theorem tw_96 : (.static y_W_isBlank) ∈ TB := tb_i 192 (by decide +kernel) rfl
theorem tw_97 : (.fieldLink R_L 9 "ConditionMill$Literal" "text" "LConditionMill$Text;") ∈ TB := tb_i 78 (by decide +kernel) rfl
theorem tw_98 : (.methodLink R_L 34 y_T_at) ∈ TB := tb_i 352 (by decide +kernel) rfl
theorem tw_99 : (.fieldLink R_L 15 "ConditionMill$Literal" "amount" "J") ∈ TB := tb_i 79 (by decide +kernel) rfl
theorem tw_100 : (.constantLong R_L 48 1844674407370955161) ∈ TB := tb_i 360 (by decide +kernel) rfl
theorem tw_101 : (.fieldLink R_L 19 "ConditionMill$Literal" "plain" "Z") ∈ TB := tb_i 81 (by decide +kernel) rfl
theorem tw_102 : (.methodLink R_L 30 y_L_baseAt) ∈ TB := tb_i 348 (by decide +kernel) rfl
theorem tw_103 : (.code y_L_baseAt c_L_baseAt 3 (some .int)) ∈ TB := tb_i 351 (by decide +kernel) rfl
theorem tw_104 : (.initialized R_L) ∈ TB := tb_i 5 (by decide +kernel) rfl
theorem tw_105 : (.instanceMethod y_L_baseAt) ∈ TB := tb_i 350 (by decide +kernel) rfl
theorem tw_106 : (.selects R_L y_L_baseAt y_L_baseAt) ∈ TB := tb_s (by decide +kernel)
theorem tw_107 : (.methodLink R_L 45 y_L_readTail) ∈ TB := tb_i 361 (by decide +kernel) rfl
theorem tw_108 : (.code y_L_readTail c_L_readTail 6 (some .boolean)) ∈ TB := tb_i 364 (by decide +kernel) rfl
theorem tw_109 : (.instanceMethod y_L_readTail) ∈ TB := tb_i 363 (by decide +kernel) rfl
theorem tw_110 : (.selects R_L y_L_readTail y_L_readTail) ∈ TB := tb_s (by decide +kernel)
theorem tw_111 : (.methodLink R_L 39 y_L_digitOf) ∈ TB := tb_i 353 (by decide +kernel) rfl
theorem tw_112 : (.code y_L_digitOf c_L_digitOf 1 (some .int)) ∈ TB := tb_i 355 (by decide +kernel) rfl
theorem tw_113 : (.static y_L_digitOf) ∈ TB := tb_i 354 (by decide +kernel) rfl
theorem tw_114 : (.methodLink R_L 42 y_L_fits) ∈ TB := tb_i 356 (by decide +kernel) rfl
theorem tw_115 : (.code y_L_fits c_L_fits 3 (some .boolean)) ∈ TB := tb_i 359 (by decide +kernel) rfl
theorem tw_116 : (.instanceMethod y_L_fits) ∈ TB := tb_i 358 (by decide +kernel) rfl
theorem tw_117 : (.selects R_L y_L_fits y_L_fits) ∈ TB := tb_s (by decide +kernel)
theorem tw_118 : (.methodLink R_L 50 y_L_escaped) ∈ TB := tb_i 369 (by decide +kernel) rfl
theorem tw_119 : (.code y_L_escaped c_L_escaped 1 (some .int)) ∈ TB := tb_i 371 (by decide +kernel) rfl
theorem tw_120 : (.static y_L_escaped) ∈ TB := tb_i 370 (by decide +kernel) rfl
theorem tw_121 : (.constantLong R_L 53 (-1)) ∈ TB := tb_i 372 (by decide +kernel) rfl
theorem tw_122 : (.methodLink R_L 23 y_L_readNumber) ∈ TB := tb_i 344 (by decide +kernel) rfl
theorem tw_123 : (.code y_L_readNumber c_L_readNumber 7 (some .boolean)) ∈ TB := tb_i 347 (by decide +kernel) rfl
theorem tw_124 : (.instanceMethod y_L_readNumber) ∈ TB := tb_i 346 (by decide +kernel) rfl
theorem tw_125 : (.selects R_L y_L_readNumber y_L_readNumber) ∈ TB := tb_s (by decide +kernel)
theorem tw_126 : (.methodLink R_L 27 y_L_readCharacter) ∈ TB := tb_i 365 (by decide +kernel) rfl
theorem tw_127 : (.code y_L_readCharacter c_L_readCharacter 3 (some .boolean)) ∈ TB := tb_i 368 (by decide +kernel) rfl
theorem tw_128 : (.instanceMethod y_L_readCharacter) ∈ TB := tb_i 367 (by decide +kernel) rfl
theorem tw_129 : (.selects R_L y_L_readCharacter y_L_readCharacter) ∈ TB := tb_s (by decide +kernel)
theorem tw_130 : (.constantLong R_S 9 (-1)) ∈ TB := tb_i 395 (by decide +kernel) rfl
theorem tw_131 : (.constantLong R_S 27 (-9223372036854775808)) ∈ TB := tb_i 413 (by decide +kernel) rfl
theorem tw_132 : (.methodLink R_S 11 y_S_isTruth) ∈ TB := tb_i 407 (by decide +kernel) rfl
theorem tw_133 : (.code y_S_isTruth c_S_isTruth 1 (some .boolean)) ∈ TB := tb_i 409 (by decide +kernel) rfl
theorem tw_134 : (.initialized R_S) ∈ TB := tb_i 13 (by decide +kernel) rfl
theorem tw_135 : (.static y_S_isTruth) ∈ TB := tb_i 408 (by decide +kernel) rfl
theorem tw_136 : (.methodLink R_S 23 y_S_quotient) ∈ TB := tb_i 415 (by decide +kernel) rfl
theorem tw_137 : (.code y_S_quotient c_S_quotient 9 (some .long)) ∈ TB := tb_i 417 (by decide +kernel) rfl
theorem tw_138 : (.static y_S_quotient) ∈ TB := tb_i 416 (by decide +kernel) rfl
theorem tw_139 : (.constantLong R_S 21 63) ∈ TB := tb_i 414 (by decide +kernel) rfl
theorem tw_140 : (.methodLink R_S 17 y_S_holds) ∈ TB := tb_i 410 (by decide +kernel) rfl
theorem tw_141 : (.code y_S_holds c_S_holds 8 (some .boolean)) ∈ TB := tb_i 412 (by decide +kernel) rfl
theorem tw_142 : (.static y_S_holds) ∈ TB := tb_i 411 (by decide +kernel) rfl
theorem tw_143 : (.fieldLink R_K 73 "ConditionMill$Reckoner" "nested" "I") ∈ TB := tb_i 105 (by decide +kernel) rfl
theorem tw_144 : (.fieldLink R_K 40 "ConditionMill$Reckoner" "formed" "Z") ∈ TB := tb_i 107 (by decide +kernel) rfl
theorem tw_145 : (.fieldLink R_K 64 "ConditionMill$Reckoner" "held" "I") ∈ TB := tb_i 104 (by decide +kernel) rfl
theorem tw_146 : (.fieldLink R_K 22 "ConditionMill$Reckoner" "amounts" "[J") ∈ TB := tb_i 99 (by decide +kernel) rfl
theorem tw_147 : (.fieldLink R_K 26 "ConditionMill$Reckoner" "plains" "[Z") ∈ TB := tb_i 101 (by decide +kernel) rfl
theorem tw_148 : (.fieldLink R_K 60 "ConditionMill$Reckoner" "waiting" "I") ∈ TB := tb_i 103 (by decide +kernel) rfl
theorem tw_149 : (.fieldLink R_K 11 "ConditionMill$Reckoner" "signs" "[I") ∈ TB := tb_i 96 (by decide +kernel) rfl
theorem tw_150 : (.fieldLink R_K 15 "ConditionMill$Reckoner" "strengths" "[I") ∈ TB := tb_i 97 (by decide +kernel) rfl
theorem tw_151 : (.fieldLink R_K 18 "ConditionMill$Reckoner" "skips" "[Z") ∈ TB := tb_i 98 (by decide +kernel) rfl
theorem tw_152 : (.fieldLink R_K 76 "ConditionMill$Reckoner" "skipping" "I") ∈ TB := tb_i 106 (by decide +kernel) rfl
theorem tw_153 : (.fieldLink R_K 29 "ConditionMill$Reckoner" "walk" "LConditionMill$Walk;") ∈ TB := tb_i 94 (by decide +kernel) rfl
theorem tw_154 : (.methodLink R_K 70 y_W_restart) ∈ TB := tb_i 179 (by decide +kernel) rfl
theorem tw_155 : (.code y_W_restart c_W_restart 1 none) ∈ TB := tb_i 182 (by decide +kernel) rfl
theorem tw_156 : (.instanceMethod y_W_restart) ∈ TB := tb_i 180 (by decide +kernel) rfl
theorem tw_157 : (.selects R_W y_W_restart y_W_restart) ∈ TB := tb_i 181 (by decide +kernel) rfl
theorem tw_158 : (.fieldLink R_K 67 "ConditionMill$Reckoner" "divided" "Z") ∈ TB := tb_i 108 (by decide +kernel) rfl
theorem tw_159 : (.methodLink R_K 112 y_K_nest) ∈ TB := tb_i 332 (by decide +kernel) rfl
theorem tw_160 : (.code y_K_nest c_K_nest 1 none) ∈ TB := tb_i 335 (by decide +kernel) rfl
theorem tw_161 : (.initialized R_K) ∈ TB := tb_i 4 (by decide +kernel) rfl
theorem tw_162 : (.instanceMethod y_K_nest) ∈ TB := tb_i 334 (by decide +kernel) rfl
theorem tw_163 : (.selects R_K y_K_nest y_K_nest) ∈ TB := tb_s (by decide +kernel)
theorem tw_164 : (.methodLink R_K 115 y_K_await) ∈ TB := tb_i 336 (by decide +kernel) rfl
theorem tw_165 : (.code y_K_await c_K_await 4 none) ∈ TB := tb_i 339 (by decide +kernel) rfl
theorem tw_166 : (.instanceMethod y_K_await) ∈ TB := tb_i 338 (by decide +kernel) rfl
theorem tw_167 : (.selects R_K y_K_await y_K_await) ∈ TB := tb_s (by decide +kernel)
theorem tw_168 : (.methodLink R_K 136 y_K_isOpen) ∈ TB := tb_i 427 (by decide +kernel) rfl
theorem tw_169 : (.code y_K_isOpen c_K_isOpen 2 (some .boolean)) ∈ TB := tb_i 430 (by decide +kernel) rfl
theorem tw_170 : (.instanceMethod y_K_isOpen) ∈ TB := tb_i 429 (by decide +kernel) rfl
theorem tw_171 : (.selects R_K y_K_isOpen y_K_isOpen) ∈ TB := tb_s (by decide +kernel)
theorem tw_172 : (.methodLink R_K 139 y_K_endWait) ∈ TB := tb_i 419 (by decide +kernel) rfl
theorem tw_173 : (.code y_K_endWait c_K_endWait 1 none) ∈ TB := tb_i 422 (by decide +kernel) rfl
theorem tw_174 : (.instanceMethod y_K_endWait) ∈ TB := tb_i 421 (by decide +kernel) rfl
theorem tw_175 : (.selects R_K y_K_endWait y_K_endWait) ∈ TB := tb_s (by decide +kernel)
theorem tw_176 : (.methodLink R_K 152 y_S_front) ∈ TB := tb_i 392 (by decide +kernel) rfl
theorem tw_177 : (.code y_S_front c_S_front 3 (some .long)) ∈ TB := tb_i 394 (by decide +kernel) rfl
theorem tw_178 : (.static y_S_front) ∈ TB := tb_i 393 (by decide +kernel) rfl
theorem tw_179 : (.methodLink R_K 158 y_S_pair) ∈ TB := tb_i 404 (by decide +kernel) rfl
theorem tw_180 : (.code y_S_pair c_S_pair 6 (some .long)) ∈ TB := tb_i 406 (by decide +kernel) rfl
theorem tw_181 : (.static y_S_pair) ∈ TB := tb_i 405 (by decide +kernel) rfl
theorem tw_182 : (.methodLink R_K 162 y_S_isTruth) ∈ TB := tb_i 418 (by decide +kernel) rfl
theorem tw_183 : (.methodLink R_K 149 y_K_finishPair) ∈ TB := tb_i 400 (by decide +kernel) rfl
theorem tw_184 : (.code y_K_finishPair c_K_finishPair 5 none) ∈ TB := tb_i 403 (by decide +kernel) rfl
theorem tw_185 : (.instanceMethod y_K_finishPair) ∈ TB := tb_i 402 (by decide +kernel) rfl
theorem tw_186 : (.selects R_K y_K_finishPair y_K_finishPair) ∈ TB := tb_s (by decide +kernel)
theorem tw_187 : (.methodLink R_K 145 y_K_finishChoice) ∈ TB := tb_i 396 (by decide +kernel) rfl
theorem tw_188 : (.code y_K_finishChoice c_K_finishChoice 3 none) ∈ TB := tb_i 399 (by decide +kernel) rfl
theorem tw_189 : (.instanceMethod y_K_finishChoice) ∈ TB := tb_i 398 (by decide +kernel) rfl
theorem tw_190 : (.selects R_K y_K_finishChoice y_K_finishChoice) ∈ TB := tb_s (by decide +kernel)
theorem tw_191 : (.methodLink R_K 142 y_K_finishFront) ∈ TB := tb_i 388 (by decide +kernel) rfl
theorem tw_192 : (.code y_K_finishFront c_K_finishFront 3 none) ∈ TB := tb_i 391 (by decide +kernel) rfl
theorem tw_193 : (.instanceMethod y_K_finishFront) ∈ TB := tb_i 390 (by decide +kernel) rfl
theorem tw_194 : (.selects R_K y_K_finishFront y_K_finishFront) ∈ TB := tb_s (by decide +kernel)
theorem tw_195 : (.fieldLink R_K 33 "ConditionMill$Reckoner" "literal" "LConditionMill$Literal;") ∈ TB := tb_i 95 (by decide +kernel) rfl
theorem tw_196 : (.methodLink R_K 95 y_L_read) ∈ TB := tb_i 340 (by decide +kernel) rfl
theorem tw_197 : (.code y_L_read c_L_read 4 (some .boolean)) ∈ TB := tb_i 343 (by decide +kernel) rfl
theorem tw_198 : (.instanceMethod y_L_read) ∈ TB := tb_i 341 (by decide +kernel) rfl
theorem tw_199 : (.selects R_L y_L_read y_L_read) ∈ TB := tb_i 342 (by decide +kernel) rfl
theorem tw_200 : (.methodLink R_K 108 y_K_hold) ∈ TB := tb_i 373 (by decide +kernel) rfl
theorem tw_201 : (.code y_K_hold c_K_hold 4 none) ∈ TB := tb_i 376 (by decide +kernel) rfl
theorem tw_202 : (.instanceMethod y_K_hold) ∈ TB := tb_i 375 (by decide +kernel) rfl
theorem tw_203 : (.selects R_K y_K_hold y_K_hold) ∈ TB := tb_s (by decide +kernel)
theorem tw_204 : (.methodLink R_K 82 y_W_signCode) ∈ TB := tb_i 324 (by decide +kernel) rfl
theorem tw_205 : (.code y_W_signCode c_W_signCode 3 (some .int)) ∈ TB := tb_i 327 (by decide +kernel) rfl
theorem tw_206 : (.instanceMethod y_W_signCode) ∈ TB := tb_i 325 (by decide +kernel) rfl
theorem tw_207 : (.selects R_W y_W_signCode y_W_signCode) ∈ TB := tb_i 326 (by decide +kernel) rfl
theorem tw_208 : (.methodLink R_K 86 y_K_openNest) ∈ TB := tb_i 328 (by decide +kernel) rfl
theorem tw_209 : (.code y_K_openNest c_K_openNest 2 none) ∈ TB := tb_i 331 (by decide +kernel) rfl
theorem tw_210 : (.instanceMethod y_K_openNest) ∈ TB := tb_i 330 (by decide +kernel) rfl
theorem tw_211 : (.selects R_K y_K_openNest y_K_openNest) ∈ TB := tb_s (by decide +kernel)
theorem tw_212 : (.methodLink R_K 119 y_K_strengthOf) ∈ TB := tb_i 381 (by decide +kernel) rfl
theorem tw_213 : (.code y_K_strengthOf c_K_strengthOf 1 (some .int)) ∈ TB := tb_i 383 (by decide +kernel) rfl
theorem tw_214 : (.static y_K_strengthOf) ∈ TB := tb_i 382 (by decide +kernel) rfl
theorem tw_215 : (.methodLink R_K 56 y_K_finishDownTo) ∈ TB := tb_i 384 (by decide +kernel) rfl
theorem tw_216 : (.code y_K_finishDownTo c_K_finishDownTo 4 none) ∈ TB := tb_i 387 (by decide +kernel) rfl
theorem tw_217 : (.instanceMethod y_K_finishDownTo) ∈ TB := tb_i 386 (by decide +kernel) rfl
theorem tw_218 : (.selects R_K y_K_finishDownTo y_K_finishDownTo) ∈ TB := tb_s (by decide +kernel)
theorem tw_219 : (.methodLink R_K 123 y_K_closeBracket) ∈ TB := tb_i 423 (by decide +kernel) rfl
theorem tw_220 : (.code y_K_closeBracket c_K_closeBracket 1 none) ∈ TB := tb_i 426 (by decide +kernel) rfl
theorem tw_221 : (.instanceMethod y_K_closeBracket) ∈ TB := tb_i 425 (by decide +kernel) rfl
theorem tw_222 : (.selects R_K y_K_closeBracket y_K_closeBracket) ∈ TB := tb_s (by decide +kernel)
theorem tw_223 : (.methodLink R_K 129 y_K_turnChoice) ∈ TB := tb_i 435 (by decide +kernel) rfl
theorem tw_224 : (.code y_K_turnChoice c_K_turnChoice 2 none) ∈ TB := tb_i 438 (by decide +kernel) rfl
theorem tw_225 : (.instanceMethod y_K_turnChoice) ∈ TB := tb_i 437 (by decide +kernel) rfl
theorem tw_226 : (.selects R_K y_K_turnChoice y_K_turnChoice) ∈ TB := tb_s (by decide +kernel)
theorem tw_227 : (.methodLink R_K 126 y_K_beginChoice) ∈ TB := tb_i 431 (by decide +kernel) rfl
theorem tw_228 : (.code y_K_beginChoice c_K_beginChoice 1 none) ∈ TB := tb_i 434 (by decide +kernel) rfl
theorem tw_229 : (.instanceMethod y_K_beginChoice) ∈ TB := tb_i 433 (by decide +kernel) rfl
theorem tw_230 : (.selects R_K y_K_beginChoice y_K_beginChoice) ∈ TB := tb_s (by decide +kernel)
theorem tw_231 : (.methodLink R_K 132 y_K_skipsRight) ∈ TB := tb_i 439 (by decide +kernel) rfl
theorem tw_232 : (.code y_K_skipsRight c_K_skipsRight 3 (some .boolean)) ∈ TB := tb_i 442 (by decide +kernel) rfl
theorem tw_233 : (.instanceMethod y_K_skipsRight) ∈ TB := tb_i 441 (by decide +kernel) rfl
theorem tw_234 : (.selects R_K y_K_skipsRight y_K_skipsRight) ∈ TB := tb_s (by decide +kernel)
theorem tw_235 : (.methodLink R_K 37 y_K_clear) ∈ TB := tb_i 175 (by decide +kernel) rfl
theorem tw_236 : (.code y_K_clear c_K_clear 1 none) ∈ TB := tb_i 178 (by decide +kernel) rfl
theorem tw_237 : (.instanceMethod y_K_clear) ∈ TB := tb_i 177 (by decide +kernel) rfl
theorem tw_238 : (.selects R_K y_K_clear y_K_clear) ∈ TB := tb_s (by decide +kernel)
theorem tw_239 : (.methodLink R_K 44 y_W_step) ∈ TB := tb_i 183 (by decide +kernel) rfl
theorem tw_240 : (.code y_W_step c_W_step 2 (some .boolean)) ∈ TB := tb_i 186 (by decide +kernel) rfl
theorem tw_241 : (.instanceMethod y_W_step) ∈ TB := tb_i 184 (by decide +kernel) rfl
theorem tw_242 : (.selects R_W y_W_step y_W_step) ∈ TB := tb_i 185 (by decide +kernel) rfl
theorem tw_243 : (.methodLink R_K 53 y_K_takeOperator) ∈ TB := tb_i 377 (by decide +kernel) rfl
theorem tw_244 : (.code y_K_takeOperator c_K_takeOperator 3 (some .boolean)) ∈ TB := tb_i 380 (by decide +kernel) rfl
theorem tw_245 : (.instanceMethod y_K_takeOperator) ∈ TB := tb_i 379 (by decide +kernel) rfl
theorem tw_246 : (.selects R_K y_K_takeOperator y_K_takeOperator) ∈ TB := tb_s (by decide +kernel)
theorem tw_247 : (.methodLink R_K 50 y_K_takeOperand) ∈ TB := tb_i 320 (by decide +kernel) rfl
theorem tw_248 : (.code y_K_takeOperand c_K_takeOperand 1 (some .boolean)) ∈ TB := tb_i 323 (by decide +kernel) rfl
theorem tw_249 : (.instanceMethod y_K_takeOperand) ∈ TB := tb_i 322 (by decide +kernel) rfl
theorem tw_250 : (.selects R_K y_K_takeOperand y_K_takeOperand) ∈ TB := tb_s (by decide +kernel)
theorem tw_251 : (.fieldLink R_M 10 "ConditionMill" "text" "LConditionMill$Text;") ∈ TB := tb_i 139 (by decide +kernel) rfl
theorem tw_252 : (.methodLink R_M 41 y_T_append) ∈ TB := tb_i 159 (by decide +kernel) rfl
theorem tw_253 : (.code y_T_append c_T_append 5 none) ∈ TB := tb_i 162 (by decide +kernel) rfl
theorem tw_254 : (.instanceMethod y_T_append) ∈ TB := tb_i 160 (by decide +kernel) rfl
theorem tw_255 : (.selects R_T y_T_append y_T_append) ∈ TB := tb_i 161 (by decide +kernel) rfl
theorem tw_256 : (.fieldLink R_M 33 "ConditionMill" "reckoner" "LConditionMill$Reckoner;") ∈ TB := tb_i 141 (by decide +kernel) rfl
theorem tw_257 : (.methodLink R_M 45 y_K_run) ∈ TB := tb_i 171 (by decide +kernel) rfl
theorem tw_258 : (.code y_K_run c_K_run 3 (some .int)) ∈ TB := tb_i 174 (by decide +kernel) rfl
theorem tw_259 : (.instanceMethod y_K_run) ∈ TB := tb_i 172 (by decide +kernel) rfl
theorem tw_260 : (.selects R_K y_K_run y_K_run) ∈ TB := tb_i 173 (by decide +kernel) rfl
theorem tw_261 : (.fieldLink R_M 53 "ConditionMill" "latestAmount" "J") ∈ TB := tb_i 142 (by decide +kernel) rfl
theorem tw_262 : (.fieldLink R_M 61 "ConditionMill" "latestPlain" "Z") ∈ TB := tb_i 143 (by decide +kernel) rfl
theorem tw_263 : (.fieldLink R_M 21 "ConditionMill" "walk" "LConditionMill$Walk;") ∈ TB := tb_i 140 (by decide +kernel) rfl
theorem tw_264 : (.methodLink R_M 65 y_W_restart) ∈ TB := tb_i 455 (by decide +kernel) rfl
theorem tw_265 : (.methodLink R_M 68 y_W_step) ∈ TB := tb_i 456 (by decide +kernel) rfl
theorem tw_266 : (.methodLink R_T 3 objectInit) ∈ TB := tb_i 28 (by decide +kernel) rfl
theorem tw_267 : (.instanceMethod objectInit) ∈ TB := tb_i 21 (by decide +kernel) rfl
theorem tw_268 : (.code objectInit ⟨#[0xb1]⟩ 1 none) ∈ TB := tb_i 22 (by decide +kernel) rfl
theorem tw_269 : (.arrayClass .byte) ∈ TB := tb_i 38 (by decide +kernel) rfl
theorem tw_270 : (.methodLink R_W 3 objectInit) ∈ TB := tb_i 44 (by decide +kernel) rfl
theorem tw_271 : (.methodLink R_L 3 objectInit) ∈ TB := tb_i 77 (by decide +kernel) rfl
theorem tw_272 : (.methodLink R_K 5 objectInit) ∈ TB := tb_i 93 (by decide +kernel) rfl
theorem tw_273 : (.arrayClass .int) ∈ TB := tb_i 136 (by decide +kernel) rfl
theorem tw_274 : (.arrayClass .boolean) ∈ TB := tb_i 137 (by decide +kernel) rfl
theorem tw_275 : (.arrayClass .long) ∈ TB := tb_i 138 (by decide +kernel) rfl
theorem tw_276 : (.methodLink R_M 1 objectInit) ∈ TB := tb_i 20 (by decide +kernel) rfl
theorem tw_277 : (.classLink R_M 7 R_T) ∈ TB := tb_i 23 (by decide +kernel) rfl
theorem tw_278 : (.instantiable R_T 2) ∈ TB := tb_i 24 (by decide +kernel) rfl
theorem tw_279 : (.code y_T_init c_T_init 1 none) ∈ TB := tb_i 27 (by decide +kernel) rfl
theorem tw_280 : (.instanceMethod y_T_init) ∈ TB := tb_i 26 (by decide +kernel) rfl
theorem tw_281 : (.classLink R_M 16 R_W) ∈ TB := tb_i 39 (by decide +kernel) rfl
theorem tw_282 : (.instantiable R_W 6) ∈ TB := tb_i 40 (by decide +kernel) rfl
theorem tw_283 : (.methodLink R_M 18 y_W_init) ∈ TB := tb_i 41 (by decide +kernel) rfl
theorem tw_284 : (.code y_W_init c_W_init 2 none) ∈ TB := tb_i 43 (by decide +kernel) rfl
theorem tw_285 : (.instanceMethod y_W_init) ∈ TB := tb_i 42 (by decide +kernel) rfl
theorem tw_286 : (.classLink R_M 25 R_K) ∈ TB := tb_i 70 (by decide +kernel) rfl
theorem tw_287 : (.instantiable R_K 13) ∈ TB := tb_i 71 (by decide +kernel) rfl
theorem tw_288 : (.classLink R_M 27 R_L) ∈ TB := tb_i 72 (by decide +kernel) rfl
theorem tw_289 : (.instantiable R_L 3) ∈ TB := tb_i 73 (by decide +kernel) rfl
theorem tw_290 : (.methodLink R_M 29 y_L_init) ∈ TB := tb_i 74 (by decide +kernel) rfl
theorem tw_291 : (.code y_L_init c_L_init 2 none) ∈ TB := tb_i 76 (by decide +kernel) rfl
theorem tw_292 : (.instanceMethod y_L_init) ∈ TB := tb_i 75 (by decide +kernel) rfl
theorem tw_293 : (.methodLink R_M 30 y_K_init) ∈ TB := tb_i 90 (by decide +kernel) rfl
theorem tw_294 : (.code y_K_init c_K_init 3 none) ∈ TB := tb_i 92 (by decide +kernel) rfl
theorem tw_295 : (.instanceMethod y_K_init) ∈ TB := tb_i 91 (by decide +kernel) rfl
/-- links to nest mates -/
def NW : List Cond := [.fieldLinkNest R_W 31 "ConditionMill$Text" "size" "I" "ConditionMill", .fieldLinkNest R_K 79 "ConditionMill$Walk" "kind" "I" "ConditionMill", .fieldLinkNest R_K 89 "ConditionMill$Walk" "start" "I" "ConditionMill", .fieldLinkNest R_K 92 "ConditionMill$Walk" "end" "I" "ConditionMill", .fieldLinkNest R_K 101 "ConditionMill$Literal" "amount" "J" "ConditionMill", .fieldLinkNest R_K 105 "ConditionMill$Literal" "plain" "Z" "ConditionMill", .fieldLinkNest R_M 37 "ConditionMill$Text" "size" "I" "ConditionMill", .fieldLinkNest R_M 57 "ConditionMill$Reckoner" "plains" "[Z" "ConditionMill", .fieldLinkNest R_M 49 "ConditionMill$Reckoner" "amounts" "[J" "ConditionMill", .fieldLinkNest R_M 78 "ConditionMill$Walk" "kind" "I" "ConditionMill", .fieldLinkNest R_M 75 "ConditionMill$Walk" "end" "I" "ConditionMill", .fieldLinkNest R_M 72 "ConditionMill$Walk" "start" "I" "ConditionMill", .methodLinkNest R_M 9 y_T_init "ConditionMill"]
theorem nw_0 : (.fieldLinkNest R_W 31 "ConditionMill$Text" "size" "I" "ConditionMill") ∈ NW := List.mem_of_getElem? (i := 0) rfl
theorem nw_1 : (.fieldLinkNest R_K 79 "ConditionMill$Walk" "kind" "I" "ConditionMill") ∈ NW := List.mem_of_getElem? (i := 1) rfl
theorem nw_2 : (.fieldLinkNest R_K 89 "ConditionMill$Walk" "start" "I" "ConditionMill") ∈ NW := List.mem_of_getElem? (i := 2) rfl
theorem nw_3 : (.fieldLinkNest R_K 92 "ConditionMill$Walk" "end" "I" "ConditionMill") ∈ NW := List.mem_of_getElem? (i := 3) rfl
theorem nw_4 : (.fieldLinkNest R_K 101 "ConditionMill$Literal" "amount" "J" "ConditionMill") ∈ NW := List.mem_of_getElem? (i := 4) rfl
theorem nw_5 : (.fieldLinkNest R_K 105 "ConditionMill$Literal" "plain" "Z" "ConditionMill") ∈ NW := List.mem_of_getElem? (i := 5) rfl
theorem nw_6 : (.fieldLinkNest R_M 37 "ConditionMill$Text" "size" "I" "ConditionMill") ∈ NW := List.mem_of_getElem? (i := 6) rfl
theorem nw_7 : (.fieldLinkNest R_M 57 "ConditionMill$Reckoner" "plains" "[Z" "ConditionMill") ∈ NW := List.mem_of_getElem? (i := 7) rfl
theorem nw_8 : (.fieldLinkNest R_M 49 "ConditionMill$Reckoner" "amounts" "[J" "ConditionMill") ∈ NW := List.mem_of_getElem? (i := 8) rfl
theorem nw_9 : (.fieldLinkNest R_M 78 "ConditionMill$Walk" "kind" "I" "ConditionMill") ∈ NW := List.mem_of_getElem? (i := 9) rfl
theorem nw_10 : (.fieldLinkNest R_M 75 "ConditionMill$Walk" "end" "I" "ConditionMill") ∈ NW := List.mem_of_getElem? (i := 10) rfl
theorem nw_11 : (.fieldLinkNest R_M 72 "ConditionMill$Walk" "start" "I" "ConditionMill") ∈ NW := List.mem_of_getElem? (i := 11) rfl
theorem nw_12 : (.methodLinkNest R_M 9 y_T_init "ConditionMill") ∈ NW := List.mem_of_getElem? (i := 12) rfl
theorem NW_in : ∀ w ∈ NW, w ∈ lw_tbl := by decide +kernel
theorem NW_tab : ∀ w ∈ NW, w.onTables = true := by decide +kernel
theorem NW_warm {s U : State} (hW : s.WarmedH U.vm) (h : ∀ w ∈ NW, va_Nw w s) : ∀ w ∈ NW, va_Nw w U := by
  intro w hw
  have h := h w hw
  simp only [NW, List.mem_cons, List.not_mem_nil, or_false] at hw
  rcases hw with rfl | rfl | rfl | rfl | rfl | rfl | rfl | rfl | rfl | rfl | rfl | rfl | rfl
  · exact va_Nw.warmF hW h
  · exact va_Nw.warmF hW h
  · exact va_Nw.warmF hW h
  · exact va_Nw.warmF hW h
  · exact va_Nw.warmF hW h
  · exact va_Nw.warmF hW h
  · exact va_Nw.warmF hW h
  · exact va_Nw.warmF hW h
  · exact va_Nw.warmF hW h
  · exact va_Nw.warmF hW h
  · exact va_Nw.warmF hW h
  · exact va_Nw.warmF hW h
  · exact va_Nw.warmM hW h
theorem NW_same {u U : State} (hv : U.vm = u.vm) (h : ∀ w ∈ NW, va_Nw w u) : ∀ w ∈ NW, va_Nw w U := fun w hw => va_tabs (NW_tab w hw) hv.symm (h w hw)
