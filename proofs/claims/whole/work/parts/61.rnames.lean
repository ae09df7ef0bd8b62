abbrev c_QJS_isLatin1 : ByteArray := prog_11_method_154_code
def y_QJS_isLatin1 : MethodName := ⟨R_JS, "isLatin1", "()Z"⟩
def ws_QJS_isLatin1 : List Cond := Cond.code y_QJS_isLatin1 c_QJS_isLatin1 1 (some .boolean) :: TB
theorem hd_QJS_isLatin1 : (y_QJS_isLatin1).cls = R_JS ∧ (y_QJS_isLatin1).cls ≠ "java/lang/invoke/MethodHandle" ∧ (y_QJS_isLatin1).cls ≠ "java/lang/invoke/VarHandle" ∧ (parseMethodDescriptor (y_QJS_isLatin1).desc).map (fun d => d.parameters.length) = some 0 := by decide +kernel
abbrev c_QJS_coder : ByteArray := prog_11_method_152_code
def y_QJS_coder : MethodName := ⟨R_JS, "coder", "()B"⟩
def ws_QJS_coder : List Cond := Cond.code y_QJS_coder c_QJS_coder 1 (some .byte) :: TB
theorem hd_QJS_coder : (y_QJS_coder).cls = R_JS ∧ (y_QJS_coder).cls ≠ "java/lang/invoke/MethodHandle" ∧ (y_QJS_coder).cls ≠ "java/lang/invoke/VarHandle" ∧ (parseMethodDescriptor (y_QJS_coder).desc).map (fun d => d.parameters.length) = some 0 := by decide +kernel
abbrev c_QJS_length : ByteArray := prog_11_method_54_code
def y_QJS_length : MethodName := ⟨R_JS, "length", "()I"⟩
def ws_QJS_length : List Cond := Cond.code y_QJS_length c_QJS_length 1 (some .int) :: TB
theorem hd_QJS_length : (y_QJS_length).cls = R_JS ∧ (y_QJS_length).cls ≠ "java/lang/invoke/MethodHandle" ∧ (y_QJS_length).cls ≠ "java/lang/invoke/VarHandle" ∧ (parseMethodDescriptor (y_QJS_length).desc).map (fun d => d.parameters.length) = some 0 := by decide +kernel
abbrev c_QJP_checkIndex : ByteArray := prog_15_method_11_code
def y_QJP_checkIndex : MethodName := ⟨R_JP, "checkIndex", "(IILjava/util/function/BiFunction;)I"⟩
def ws_QJP_checkIndex : List Cond := Cond.code y_QJP_checkIndex c_QJP_checkIndex 3 (some .int) :: TB
theorem hd_QJP_checkIndex : (y_QJP_checkIndex).cls ≠ "java/lang/invoke/MethodHandle" ∧ (y_QJP_checkIndex).cls ≠ "java/lang/invoke/VarHandle" ∧ (parseMethodDescriptor (y_QJP_checkIndex).desc).map (fun d => d.parameters.length) = some 3 := by decide +kernel
abbrev c_QJS_checkIndex : ByteArray := prog_11_method_155_code
def y_QJS_checkIndex : MethodName := ⟨R_JS, "checkIndex", "(II)V"⟩
def ws_QJS_checkIndex : List Cond := Cond.code y_QJS_checkIndex c_QJS_checkIndex 2 none :: TB
theorem hd_QJS_checkIndex : (y_QJS_checkIndex).cls ≠ "java/lang/invoke/MethodHandle" ∧ (y_QJS_checkIndex).cls ≠ "java/lang/invoke/VarHandle" ∧ (parseMethodDescriptor (y_QJS_checkIndex).desc).map (fun d => d.parameters.length) = some 2 := by decide +kernel
abbrev c_QJL_charAt : ByteArray := prog_12_method_2_code
def y_QJL_charAt : MethodName := ⟨R_JL, "charAt", "([BI)C"⟩
def ws_QJL_charAt : List Cond := Cond.code y_QJL_charAt c_QJL_charAt 2 (some .char) :: TB
theorem hd_QJL_charAt : (y_QJL_charAt).cls ≠ "java/lang/invoke/MethodHandle" ∧ (y_QJL_charAt).cls ≠ "java/lang/invoke/VarHandle" ∧ (parseMethodDescriptor (y_QJL_charAt).desc).map (fun d => d.parameters.length) = some 2 := by decide +kernel
abbrev c_QJS_charAt : ByteArray := prog_11_method_56_code
def y_QJS_charAt : MethodName := ⟨R_JS, "charAt", "(I)C"⟩
def ws_QJS_charAt : List Cond := Cond.code y_QJS_charAt c_QJS_charAt 2 (some .char) :: TB
theorem hd_QJS_charAt : (y_QJS_charAt).cls = R_JS ∧ (y_QJS_charAt).cls ≠ "java/lang/invoke/MethodHandle" ∧ (y_QJS_charAt).cls ≠ "java/lang/invoke/VarHandle" ∧ (parseMethodDescriptor (y_QJS_charAt).desc).map (fun d => d.parameters.length) = some 1 := by decide +kernel
abbrev c_QJS_hashCode : ByteArray := prog_11_method_78_code
def y_QJS_hashCode : MethodName := ⟨R_JS, "hashCode", "()I"⟩
def ws_QJS_hashCode : List Cond := Cond.code y_QJS_hashCode c_QJS_hashCode 2 (some .int) :: TB
theorem hd_QJS_hashCode : (y_QJS_hashCode).cls = R_JS ∧ (y_QJS_hashCode).cls ≠ "java/lang/invoke/MethodHandle" ∧ (y_QJS_hashCode).cls ≠ "java/lang/invoke/VarHandle" ∧ (parseMethodDescriptor (y_QJS_hashCode).desc).map (fun d => d.parameters.length) = some 0 := by decide +kernel
abbrev c_QJL_equals : ByteArray := prog_12_method_13_code
def y_QJL_equals : MethodName := ⟨R_JL, "equals", "([B[B)Z"⟩
def ws_QJL_equals : List Cond := Cond.code y_QJL_equals c_QJL_equals 3 (some .boolean) :: TB
theorem hd_QJL_equals : (y_QJL_equals).cls ≠ "java/lang/invoke/MethodHandle" ∧ (y_QJL_equals).cls ≠ "java/lang/invoke/VarHandle" ∧ (parseMethodDescriptor (y_QJL_equals).desc).map (fun d => d.parameters.length) = some 2 := by decide +kernel
abbrev c_QJS_equals : ByteArray := prog_11_method_66_code
def y_QJS_equals : MethodName := ⟨R_JS, "equals", "(Ljava/lang/Object;)Z"⟩
def ws_QJS_equals : List Cond := Cond.code y_QJS_equals c_QJS_equals 3 (some .boolean) :: TB
theorem hd_QJS_equals : (y_QJS_equals).cls = R_JS ∧ (y_QJS_equals).cls ≠ "java/lang/invoke/MethodHandle" ∧ (y_QJS_equals).cls ≠ "java/lang/invoke/VarHandle" ∧ (parseMethodDescriptor (y_QJS_equals).desc).map (fun d => d.parameters.length) = some 1 := by decide +kernel
abbrev c_R_isOneOf : ByteArray := prog_8_method_9_code
def y_R_isOneOf : MethodName := ⟨R_R, "isOneOf", "(ILjava/lang/String;)Z"⟩
def ws_R_isOneOf : List Cond := Cond.code y_R_isOneOf c_R_isOneOf 4 (some .boolean) :: TB
theorem hd_R_isOneOf : (y_R_isOneOf).cls ≠ "java/lang/invoke/MethodHandle" ∧ (y_R_isOneOf).cls ≠ "java/lang/invoke/VarHandle" ∧ (parseMethodDescriptor (y_R_isOneOf).desc).map (fun d => d.parameters.length) = some 2 := by decide +kernel
abbrev c_R_signOf : ByteArray := prog_8_method_24_code
def y_R_signOf : MethodName := ⟨R_R, "signOf", "(I)Ljava/lang/String;"⟩
def ws_R_signOf : List Cond := Cond.code y_R_signOf c_R_signOf 1 (some (.object "java/lang/String")) :: TB
theorem hd_R_signOf : (y_R_signOf).cls ≠ "java/lang/invoke/MethodHandle" ∧ (y_R_signOf).cls ≠ "java/lang/invoke/VarHandle" ∧ (parseMethodDescriptor (y_R_signOf).desc).map (fun d => d.parameters.length) = some 1 := by decide +kernel
abbrev c_R_strengthOf : ByteArray := prog_8_method_23_code
def y_R_strengthOf : MethodName := ⟨R_R, "strengthOf", "(Ljava/lang/String;)I"⟩
def ws_R_strengthOf : List Cond := Cond.code y_R_strengthOf c_R_strengthOf 3 (some .int) :: TB
theorem hd_R_strengthOf : (y_R_strengthOf).cls ≠ "java/lang/invoke/MethodHandle" ∧ (y_R_strengthOf).cls ≠ "java/lang/invoke/VarHandle" ∧ (parseMethodDescriptor (y_R_strengthOf).desc).map (fun d => d.parameters.length) = some 1 := by decide +kernel
abbrev c_R_isLetter : ByteArray := prog_8_method_4_code
def y_R_isLetter : MethodName := ⟨R_R, "isLetter", "(I)Z"⟩
def ws_R_isLetter : List Cond := Cond.code y_R_isLetter c_R_isLetter 1 (some .boolean) :: TB
theorem hd_R_isLetter : (y_R_isLetter).cls ≠ "java/lang/invoke/MethodHandle" ∧ (y_R_isLetter).cls ≠ "java/lang/invoke/VarHandle" ∧ (parseMethodDescriptor (y_R_isLetter).desc).map (fun d => d.parameters.length) = some 1 := by decide +kernel
abbrev c_R_isDigit : ByteArray := prog_8_method_5_code
def y_R_isDigit : MethodName := ⟨R_R, "isDigit", "(I)Z"⟩
def ws_R_isDigit : List Cond := Cond.code y_R_isDigit c_R_isDigit 1 (some .boolean) :: TB
theorem hd_R_isDigit : (y_R_isDigit).cls ≠ "java/lang/invoke/MethodHandle" ∧ (y_R_isDigit).cls ≠ "java/lang/invoke/VarHandle" ∧ (parseMethodDescriptor (y_R_isDigit).desc).map (fun d => d.parameters.length) = some 1 := by decide +kernel
abbrev c_R_isBlank : ByteArray := prog_8_method_6_code
def y_R_isBlank : MethodName := ⟨R_R, "isBlank", "(I)Z"⟩
def ws_R_isBlank : List Cond := Cond.code y_R_isBlank c_R_isBlank 1 (some .boolean) :: TB
theorem hd_R_isBlank : (y_R_isBlank).cls ≠ "java/lang/invoke/MethodHandle" ∧ (y_R_isBlank).cls ≠ "java/lang/invoke/VarHandle" ∧ (parseMethodDescriptor (y_R_isBlank).desc).map (fun d => d.parameters.length) = some 1 := by decide +kernel
abbrev c_R_byteAt : ByteArray := prog_8_method_7_code
def y_R_byteAt : MethodName := ⟨R_R, "byteAt", "([BII)I"⟩
def ws_R_byteAt : List Cond := Cond.code y_R_byteAt c_R_byteAt 3 (some .int) :: TB
theorem hd_R_byteAt : (y_R_byteAt).cls ≠ "java/lang/invoke/MethodHandle" ∧ (y_R_byteAt).cls ≠ "java/lang/invoke/VarHandle" ∧ (parseMethodDescriptor (y_R_byteAt).desc).map (fun d => d.parameters.length) = some 3 := by decide +kernel
abbrev c_R_quotedEnd : ByteArray := prog_8_method_8_code
def y_R_quotedEnd : MethodName := ⟨R_R, "quotedEnd", "(II)I"⟩
def ws_R_quotedEnd : List Cond := Cond.code y_R_quotedEnd c_R_quotedEnd 5 (some .int) :: TB
theorem hd_R_quotedEnd : (y_R_quotedEnd).cls = R_R ∧ (y_R_quotedEnd).cls ≠ "java/lang/invoke/MethodHandle" ∧ (y_R_quotedEnd).cls ≠ "java/lang/invoke/VarHandle" ∧ (parseMethodDescriptor (y_R_quotedEnd).desc).map (fun d => d.parameters.length) = some 2 := by decide +kernel
abbrev c_R_signSize : ByteArray := prog_8_method_10_code
def y_R_signSize : MethodName := ⟨R_R, "signSize", "(II)I"⟩
def ws_R_signSize : List Cond := Cond.code y_R_signSize c_R_signSize 8 (some .int) :: TB
theorem hd_R_signSize : (y_R_signSize).cls = R_R ∧ (y_R_signSize).cls ≠ "java/lang/invoke/MethodHandle" ∧ (y_R_signSize).cls ≠ "java/lang/invoke/VarHandle" ∧ (parseMethodDescriptor (y_R_signSize).desc).map (fun d => d.parameters.length) = some 2 := by decide +kernel
abbrev c_R_tokenSizeAt : ByteArray := prog_8_method_11_code
def y_R_tokenSizeAt : MethodName := ⟨R_R, "tokenSizeAt", "(II)I"⟩
def ws_R_tokenSizeAt : List Cond := Cond.code y_R_tokenSizeAt c_R_tokenSizeAt 9 (some .int) :: TB
theorem hd_R_tokenSizeAt : (y_R_tokenSizeAt).cls = R_R ∧ (y_R_tokenSizeAt).cls ≠ "java/lang/invoke/MethodHandle" ∧ (y_R_tokenSizeAt).cls ≠ "java/lang/invoke/VarHandle" ∧ (parseMethodDescriptor (y_R_tokenSizeAt).desc).map (fun d => d.parameters.length) = some 2 := by decide +kernel
abbrev c_R_cutAll : ByteArray := prog_8_method_12_code
def y_R_cutAll : MethodName := ⟨R_R, "cutAll", "()V"⟩
def ws_R_cutAll : List Cond := Cond.code y_R_cutAll c_R_cutAll 2 none :: TB
theorem hd_R_cutAll : (y_R_cutAll).cls = R_R ∧ (y_R_cutAll).cls ≠ "java/lang/invoke/MethodHandle" ∧ (y_R_cutAll).cls ≠ "java/lang/invoke/VarHandle" ∧ (parseMethodDescriptor (y_R_cutAll).desc).map (fun d => d.parameters.length) = some 0 := by decide +kernel
abbrev c_R_byteOf : ByteArray := prog_8_method_13_code
def y_R_byteOf : MethodName := ⟨R_R, "byteOf", "(II)I"⟩
def ws_R_byteOf : List Cond := Cond.code y_R_byteOf c_R_byteOf 3 (some .int) :: TB
theorem hd_R_byteOf : (y_R_byteOf).cls = R_R ∧ (y_R_byteOf).cls ≠ "java/lang/invoke/MethodHandle" ∧ (y_R_byteOf).cls ≠ "java/lang/invoke/VarHandle" ∧ (parseMethodDescriptor (y_R_byteOf).desc).map (fun d => d.parameters.length) = some 2 := by decide +kernel
abbrev c_R_is : ByteArray := prog_8_method_14_code
def y_R_is : MethodName := ⟨R_R, "is", "(ILjava/lang/String;)Z"⟩
def ws_R_is : List Cond := Cond.code y_R_is c_R_is 5 (some .boolean) :: TB
theorem hd_R_is : (y_R_is).cls = R_R ∧ (y_R_is).cls ≠ "java/lang/invoke/MethodHandle" ∧ (y_R_is).cls ≠ "java/lang/invoke/VarHandle" ∧ (parseMethodDescriptor (y_R_is).desc).map (fun d => d.parameters.length) = some 2 := by decide +kernel
abbrev c_R_kindOf : ByteArray := prog_8_method_15_code
def y_R_kindOf : MethodName := ⟨R_R, "kindOf", "(I)I"⟩
def ws_R_kindOf : List Cond := Cond.code y_R_kindOf c_R_kindOf 5 (some .int) :: TB
theorem hd_R_kindOf : (y_R_kindOf).cls = R_R ∧ (y_R_kindOf).cls ≠ "java/lang/invoke/MethodHandle" ∧ (y_R_kindOf).cls ≠ "java/lang/invoke/VarHandle" ∧ (parseMethodDescriptor (y_R_kindOf).desc).map (fun d => d.parameters.length) = some 1 := by decide +kernel
abbrev c_R_goOn : ByteArray := prog_8_method_21_code
def y_R_goOn : MethodName := ⟨R_R, "goOn", "()V"⟩
def ws_R_goOn : List Cond := Cond.code y_R_goOn c_R_goOn 1 none :: TB
theorem hd_R_goOn : (y_R_goOn).cls = R_R ∧ (y_R_goOn).cls ≠ "java/lang/invoke/MethodHandle" ∧ (y_R_goOn).cls ≠ "java/lang/invoke/VarHandle" ∧ (parseMethodDescriptor (y_R_goOn).desc).map (fun d => d.parameters.length) = some 0 := by decide +kernel
abbrev c_R_operatorHere : ByteArray := prog_8_method_25_code
def y_R_operatorHere : MethodName := ⟨R_R, "operatorHere", "()I"⟩
def ws_R_operatorHere : List Cond := Cond.code y_R_operatorHere c_R_operatorHere 3 (some .int) :: TB
theorem hd_R_operatorHere : (y_R_operatorHere).cls = R_R ∧ (y_R_operatorHere).cls ≠ "java/lang/invoke/MethodHandle" ∧ (y_R_operatorHere).cls ≠ "java/lang/invoke/VarHandle" ∧ (parseMethodDescriptor (y_R_operatorHere).desc).map (fun d => d.parameters.length) = some 0 := by decide +kernel
abbrev c_R_isNeeded : ByteArray := prog_8_method_26_code
def y_R_isNeeded : MethodName := ⟨R_R, "isNeeded", "(IZ)Z"⟩
def ws_R_isNeeded : List Cond := Cond.code y_R_isNeeded c_R_isNeeded 5 (some .boolean) :: TB
theorem hd_R_isNeeded : (y_R_isNeeded).cls = R_R ∧ (y_R_isNeeded).cls ≠ "java/lang/invoke/MethodHandle" ∧ (y_R_isNeeded).cls ≠ "java/lang/invoke/VarHandle" ∧ (parseMethodDescriptor (y_R_isNeeded).desc).map (fun d => d.parameters.length) = some 2 := by decide +kernel
abbrev c_R_quotient : ByteArray := prog_8_method_30_code
def y_R_quotient : MethodName := ⟨R_R, "quotient", "(JJZ)J"⟩
def ws_R_quotient : List Cond := Cond.code y_R_quotient c_R_quotient 11 (some .long) :: TB
theorem hd_R_quotient : (y_R_quotient).cls ≠ "java/lang/invoke/MethodHandle" ∧ (y_R_quotient).cls ≠ "java/lang/invoke/VarHandle" ∧ (parseMethodDescriptor (y_R_quotient).desc).map (fun d => d.parameters.length) = some 3 := by decide +kernel
abbrev c_R_join : ByteArray := prog_8_method_29_code
def y_R_join : MethodName := ⟨R_R, "join", "(IJJZZ)J"⟩
def ws_R_join : List Cond := Cond.code y_R_join c_R_join 11 (some .long) :: TB
theorem hd_R_join : (y_R_join).cls = R_R ∧ (y_R_join).cls ≠ "java/lang/invoke/MethodHandle" ∧ (y_R_join).cls ≠ "java/lang/invoke/VarHandle" ∧ (parseMethodDescriptor (y_R_join).desc).map (fun d => d.parameters.length) = some 5 := by decide +kernel
abbrev c_R_settle : ByteArray := prog_8_method_27_code
def y_R_settle : MethodName := ⟨R_R, "settle", "(JIZ)J"⟩
def ws_R_settle : List Cond := Cond.code y_R_settle c_R_settle 5 (some .long) :: TB
theorem hd_R_settle : (y_R_settle).cls = R_R ∧ (y_R_settle).cls ≠ "java/lang/invoke/MethodHandle" ∧ (y_R_settle).cls ≠ "java/lang/invoke/VarHandle" ∧ (parseMethodDescriptor (y_R_settle).desc).map (fun d => d.parameters.length) = some 3 := by decide +kernel
abbrev c_R_digitOf : ByteArray := prog_8_method_32_code
def y_R_digitOf : MethodName := ⟨R_R, "digitOf", "(I)I"⟩
def ws_R_digitOf : List Cond := Cond.code y_R_digitOf c_R_digitOf 1 (some .int) :: TB
theorem hd_R_digitOf : (y_R_digitOf).cls ≠ "java/lang/invoke/MethodHandle" ∧ (y_R_digitOf).cls ≠ "java/lang/invoke/VarHandle" ∧ (parseMethodDescriptor (y_R_digitOf).desc).map (fun d => d.parameters.length) = some 1 := by decide +kernel
abbrev c_R_numberOf : ByteArray := prog_8_method_33_code
def y_R_numberOf : MethodName := ⟨R_R, "numberOf", "(I)J"⟩
def ws_R_numberOf : List Cond := Cond.code y_R_numberOf c_R_numberOf 15 (some .long) :: TB
theorem hd_R_numberOf : (y_R_numberOf).cls = R_R ∧ (y_R_numberOf).cls ≠ "java/lang/invoke/MethodHandle" ∧ (y_R_numberOf).cls ≠ "java/lang/invoke/VarHandle" ∧ (parseMethodDescriptor (y_R_numberOf).desc).map (fun d => d.parameters.length) = some 1 := by decide +kernel
abbrev c_R_characterOf : ByteArray := prog_8_method_34_code
def y_R_characterOf : MethodName := ⟨R_R, "characterOf", "(I)J"⟩
def ws_R_characterOf : List Cond := Cond.code y_R_characterOf c_R_characterOf 5 (some .long) :: TB
theorem hd_R_characterOf : (y_R_characterOf).cls = R_R ∧ (y_R_characterOf).cls ≠ "java/lang/invoke/MethodHandle" ∧ (y_R_characterOf).cls ≠ "java/lang/invoke/VarHandle" ∧ (parseMethodDescriptor (y_R_characterOf).desc).map (fun d => d.parameters.length) = some 1 := by decide +kernel
abbrev c_R_feed : ByteArray := prog_8_method_2_code
def y_R_feed : MethodName := ⟨R_R, "feed", "(JI)I"⟩
def ws_R_feed : List Cond := Cond.code y_R_feed c_R_feed 5 (some .int) :: TB
theorem hd_R_feed : (y_R_feed).cls = R_R ∧ (y_R_feed).cls ≠ "java/lang/invoke/MethodHandle" ∧ (y_R_feed).cls ≠ "java/lang/invoke/VarHandle" ∧ (parseMethodDescriptor (y_R_feed).desc).map (fun d => d.parameters.length) = some 2 := by decide +kernel
abbrev c_R_cut : ByteArray := prog_8_method_3_code
def y_R_cut : MethodName := ⟨R_R, "cut", "(I)I"⟩
def ws_R_cut : List Cond := Cond.code y_R_cut c_R_cut 3 (some .int) :: TB
theorem hd_R_cut : (y_R_cut).cls = R_R ∧ (y_R_cut).cls ≠ "java/lang/invoke/MethodHandle" ∧ (y_R_cut).cls ≠ "java/lang/invoke/VarHandle" ∧ (parseMethodDescriptor (y_R_cut).desc).map (fun d => d.parameters.length) = some 1 := by decide +kernel
abbrev c_R_tokens : ByteArray := prog_8_method_16_code
def y_R_tokens : MethodName := ⟨R_R, "tokens", "()I"⟩
def ws_R_tokens : List Cond := Cond.code y_R_tokens c_R_tokens 1 (some .int) :: TB
theorem hd_R_tokens : (y_R_tokens).cls = R_R ∧ (y_R_tokens).cls ≠ "java/lang/invoke/MethodHandle" ∧ (y_R_tokens).cls ≠ "java/lang/invoke/VarHandle" ∧ (parseMethodDescriptor (y_R_tokens).desc).map (fun d => d.parameters.length) = some 0 := by decide +kernel
abbrev c_R_token : ByteArray := prog_8_method_17_code
def y_R_token : MethodName := ⟨R_R, "token", "(II)I"⟩
def ws_R_token : List Cond := Cond.code y_R_token c_R_token 3 (some .int) :: TB
theorem hd_R_token : (y_R_token).cls = R_R ∧ (y_R_token).cls ≠ "java/lang/invoke/MethodHandle" ∧ (y_R_token).cls ≠ "java/lang/invoke/VarHandle" ∧ (parseMethodDescriptor (y_R_token).desc).map (fun d => d.parameters.length) = some 2 := by decide +kernel
abbrev c_R_value : ByteArray := prog_8_method_18_code
def y_R_value : MethodName := ⟨R_R, "value", "()J"⟩
def ws_R_value : List Cond := Cond.code y_R_value c_R_value 1 (some .long) :: TB
theorem hd_R_value : (y_R_value).cls = R_R ∧ (y_R_value).cls ≠ "java/lang/invoke/MethodHandle" ∧ (y_R_value).cls ≠ "java/lang/invoke/VarHandle" ∧ (parseMethodDescriptor (y_R_value).desc).map (fun d => d.parameters.length) = some 0 := by decide +kernel
abbrev c_R_isPlain : ByteArray := prog_8_method_19_code
def y_R_isPlain : MethodName := ⟨R_R, "isPlain", "()Z"⟩
def ws_R_isPlain : List Cond := Cond.code y_R_isPlain c_R_isPlain 1 (some .boolean) :: TB
theorem hd_R_isPlain : (y_R_isPlain).cls = R_R ∧ (y_R_isPlain).cls ≠ "java/lang/invoke/MethodHandle" ∧ (y_R_isPlain).cls ≠ "java/lang/invoke/VarHandle" ∧ (parseMethodDescriptor (y_R_isPlain).desc).map (fun d => d.parameters.length) = some 0 := by decide +kernel
theorem ux_0 : (.fieldLink R_JS 38 "java/lang/String" "COMPACT_STRINGS" "Z") ∈ TB := tb_i 246 (by decide +kernel) rfl
theorem ux_1 : (.fieldLink R_JS 15 "java/lang/String" "coder" "B") ∈ TB := tb_i 747 (by decide +kernel) rfl
theorem ux_2 : (.fieldLink R_JS 9 "java/lang/String" "value" "[B") ∈ TB := tb_i 748 (by decide +kernel) rfl
theorem ux_3 : (.methodLink R_JS 335 y_QJS_coder) ∈ TB := tb_i 252 (by decide +kernel) rfl
theorem ux_4 : (.code y_QJS_coder c_QJS_coder 1 (some .byte)) ∈ TB := tb_i 255 (by decide +kernel) rfl
theorem ux_5 : (.initialized R_JS) ∈ TB := tb_i 7 (by decide +kernel) rfl
theorem ux_6 : (.instanceMethod y_QJS_coder) ∈ TB := tb_i 253 (by decide +kernel) rfl
theorem ux_7 : (.selects R_JS y_QJS_coder y_QJS_coder) ∈ TB := tb_i 254 (by decide +kernel) rfl
theorem ux_8 : (.fieldLink R_JS 1053 "jdk/internal/util/Preconditions" "SIOOBE_FORMATTER" "Ljava/util/function/BiFunction;") ∈ TB := tb_i 289 (by decide +kernel) rfl
theorem ux_9 : (.methodLink R_JS 1059 y_QJP_checkIndex) ∈ TB := tb_i 567 (by decide +kernel) rfl
theorem ux_10 : (.code y_QJP_checkIndex c_QJP_checkIndex 3 (some .int)) ∈ TB := tb_i 569 (by decide +kernel) rfl
theorem ux_11 : (.initialized R_JP) ∈ TB := tb_i 11 (by decide +kernel) rfl
theorem ux_12 : (.static y_QJP_checkIndex) ∈ TB := tb_i 568 (by decide +kernel) rfl
theorem ux_13 : (.methodLink R_JL 9 y_QJS_checkIndex) ∈ TB := tb_i 564 (by decide +kernel) rfl
theorem ux_14 : (.code y_QJS_checkIndex c_QJS_checkIndex 2 none) ∈ TB := tb_i 566 (by decide +kernel) rfl
theorem ux_15 : (.static y_QJS_checkIndex) ∈ TB := tb_i 565 (by decide +kernel) rfl
theorem ux_16 : (.methodLink R_JS 492 y_QJS_isLatin1) ∈ TB := tb_i 242 (by decide +kernel) rfl
theorem ux_17 : (.code y_QJS_isLatin1 c_QJS_isLatin1 1 (some .boolean)) ∈ TB := tb_i 245 (by decide +kernel) rfl
theorem ux_18 : (.instanceMethod y_QJS_isLatin1) ∈ TB := tb_i 243 (by decide +kernel) rfl
theorem ux_19 : (.selects R_JS y_QJS_isLatin1 y_QJS_isLatin1) ∈ TB := tb_i 244 (by decide +kernel) rfl
theorem ux_20 : (.methodLink R_JS 495 y_QJL_charAt) ∈ TB := tb_i 561 (by decide +kernel) rfl
theorem ux_21 : (.code y_QJL_charAt c_QJL_charAt 2 (some .char)) ∈ TB := tb_i 563 (by decide +kernel) rfl
theorem ux_22 : (.initialized R_JL) ∈ TB := tb_i 8 (by decide +kernel) rfl
theorem ux_23 : (.static y_QJL_charAt) ∈ TB := tb_i 562 (by decide +kernel) rfl
theorem ux_24 : (.fieldLink R_JS 19 "java/lang/String" "hash" "I") ∈ TB := tb_i 749 (by decide +kernel) rfl
theorem ux_25 : (.fieldLink R_JS 23 "java/lang/String" "hashIsZero" "Z") ∈ TB := tb_i 750 (by decide +kernel) rfl
theorem ux_26 : (.classLink R_JS 10 R_JS) ∈ TB := tb_i 725 (by decide +kernel) rfl
theorem ux_27 : (.methodLink R_JS 541 y_QJL_equals) ∈ TB := tb_i 726 (by decide +kernel) rfl
theorem ux_28 : (.code y_QJL_equals c_QJL_equals 3 (some .boolean)) ∈ TB := tb_i 728 (by decide +kernel) rfl
theorem ux_29 : (.static y_QJL_equals) ∈ TB := tb_i 727 (by decide +kernel) rfl
theorem ux_30 : (.methodLink R_R 35 y_QJS_length) ∈ TB := tb_i 556 (by decide +kernel) rfl
theorem ux_31 : (.code y_QJS_length c_QJS_length 1 (some .int)) ∈ TB := tb_i 251 (by decide +kernel) rfl
theorem ux_32 : (.instanceMethod y_QJS_length) ∈ TB := tb_i 249 (by decide +kernel) rfl
theorem ux_33 : (.selects R_JS y_QJS_length y_QJS_length) ∈ TB := tb_i 250 (by decide +kernel) rfl
theorem ux_34 : (.methodLink R_R 41 y_QJS_charAt) ∈ TB := tb_i 557 (by decide +kernel) rfl
theorem ux_35 : (.code y_QJS_charAt c_QJS_charAt 2 (some .char)) ∈ TB := tb_i 560 (by decide +kernel) rfl
theorem ux_36 : (.instanceMethod y_QJS_charAt) ∈ TB := tb_i 558 (by decide +kernel) rfl
theorem ux_37 : (.selects R_JS y_QJS_charAt y_QJS_charAt) ∈ TB := tb_i 559 (by decide +kernel) rfl
theorem ux_38 : (.methodLink R_R 137 y_QJS_hashCode) ∈ TB := tb_i 683 (by decide +kernel) rfl
theorem ux_39 : (.code y_QJS_hashCode c_QJS_hashCode 2 (some .int)) ∈ TB := tb_i 686 (by decide +kernel) rfl
theorem ux_40 : (.instanceMethod y_QJS_hashCode) ∈ TB := tb_i 684 (by decide +kernel) rfl
theorem ux_41 : (.selects R_JS y_QJS_hashCode y_QJS_hashCode) ∈ TB := tb_i 685 (by decide +kernel) rfl
theorem ux_42 : (.methodLink R_R 142 y_QJS_equals) ∈ TB := tb_i 721 (by decide +kernel) rfl
theorem ux_43 : (.code y_QJS_equals c_QJS_equals 3 (some .boolean)) ∈ TB := tb_i 724 (by decide +kernel) rfl
theorem ux_44 : (.instanceMethod y_QJS_equals) ∈ TB := tb_i 722 (by decide +kernel) rfl
theorem ux_45 : (.selects R_JS y_QJS_equals y_QJS_equals) ∈ TB := tb_i 723 (by decide +kernel) rfl
theorem ux_46 : (.fieldLink R_R 9 "ConditionMillModel" "store" "[B") ∈ TB := tb_i 468 (by decide +kernel) rfl
theorem ux_47 : (.methodLink R_R 45 y_R_byteAt) ∈ TB := tb_i 539 (by decide +kernel) rfl
theorem ux_48 : (.code y_R_byteAt c_R_byteAt 3 (some .int)) ∈ TB := tb_i 541 (by decide +kernel) rfl
theorem ux_49 : (.initialized R_R) ∈ TB := tb_i 6 (by decide +kernel) rfl
theorem ux_50 : (.static y_R_byteAt) ∈ TB := tb_i 540 (by decide +kernel) rfl
theorem ux_51 : (.methodLink R_R 51 y_R_isOneOf) ∈ TB := tb_i 553 (by decide +kernel) rfl
theorem ux_52 : (.code y_R_isOneOf c_R_isOneOf 4 (some .boolean)) ∈ TB := tb_i 555 (by decide +kernel) rfl
theorem ux_53 : (.static y_R_isOneOf) ∈ TB := tb_i 554 (by decide +kernel) rfl
theorem ux_54 : (.methodLink R_R 57 y_R_quotedEnd) ∈ TB := tb_i 542 (by decide +kernel) rfl
theorem ux_55 : (.code y_R_quotedEnd c_R_quotedEnd 5 (some .int)) ∈ TB := tb_i 545 (by decide +kernel) rfl
theorem ux_56 : (.instanceMethod y_R_quotedEnd) ∈ TB := tb_i 544 (by decide +kernel) rfl
theorem ux_57 : (.selects R_R y_R_quotedEnd y_R_quotedEnd) ∈ TB := tb_s (by decide +kernel)
theorem ux_58 : (.methodLink R_R 61 y_R_isLetter) ∈ TB := tb_i 546 (by decide +kernel) rfl
theorem ux_59 : (.code y_R_isLetter c_R_isLetter 1 (some .boolean)) ∈ TB := tb_i 548 (by decide +kernel) rfl
theorem ux_60 : (.static y_R_isLetter) ∈ TB := tb_i 547 (by decide +kernel) rfl
theorem ux_61 : (.methodLink R_R 65 y_R_isDigit) ∈ TB := tb_i 549 (by decide +kernel) rfl
theorem ux_62 : (.code y_R_isDigit c_R_isDigit 1 (some .boolean)) ∈ TB := tb_i 551 (by decide +kernel) rfl
theorem ux_63 : (.static y_R_isDigit) ∈ TB := tb_i 550 (by decide +kernel) rfl
theorem ux_64 : (.methodLink R_R 70 y_R_signSize) ∈ TB := tb_i 577 (by decide +kernel) rfl
theorem ux_65 : (.code y_R_signSize c_R_signSize 8 (some .int)) ∈ TB := tb_i 580 (by decide +kernel) rfl
theorem ux_66 : (.instanceMethod y_R_signSize) ∈ TB := tb_i 579 (by decide +kernel) rfl
theorem ux_67 : (.selects R_R y_R_signSize y_R_signSize) ∈ TB := tb_s (by decide +kernel)
theorem ux_68 : (.fieldLink R_R 73 "ConditionMillModel" "count" "I") ∈ TB := tb_i 471 (by decide +kernel) rfl
theorem ux_69 : (.fieldLink R_R 31 "ConditionMillModel" "size" "I") ∈ TB := tb_i 467 (by decide +kernel) rfl
theorem ux_70 : (.methodLink R_R 76 y_R_isBlank) ∈ TB := tb_i 532 (by decide +kernel) rfl
theorem ux_71 : (.code y_R_isBlank c_R_isBlank 1 (some .boolean)) ∈ TB := tb_i 534 (by decide +kernel) rfl
theorem ux_72 : (.static y_R_isBlank) ∈ TB := tb_i 533 (by decide +kernel) rfl
theorem ux_73 : (.fieldLink R_R 13 "ConditionMillModel" "tokenAt" "[I") ∈ TB := tb_i 472 (by decide +kernel) rfl
theorem ux_74 : (.fieldLink R_R 17 "ConditionMillModel" "tokenSize" "[I") ∈ TB := tb_i 473 (by decide +kernel) rfl
theorem ux_75 : (.methodLink R_R 79 y_R_tokenSizeAt) ∈ TB := tb_i 535 (by decide +kernel) rfl
theorem ux_76 : (.code y_R_tokenSizeAt c_R_tokenSizeAt 9 (some .int)) ∈ TB := tb_i 538 (by decide +kernel) rfl
theorem ux_77 : (.instanceMethod y_R_tokenSizeAt) ∈ TB := tb_i 537 (by decide +kernel) rfl
theorem ux_78 : (.selects R_R y_R_tokenSizeAt y_R_tokenSizeAt) ∈ TB := tb_s (by decide +kernel)
theorem ux_79 : (.methodLink R_R 82 y_R_byteOf) ∈ TB := tb_i 591 (by decide +kernel) rfl
theorem ux_80 : (.code y_R_byteOf c_R_byteOf 3 (some .int)) ∈ TB := tb_i 594 (by decide +kernel) rfl
theorem ux_81 : (.instanceMethod y_R_byteOf) ∈ TB := tb_i 593 (by decide +kernel) rfl
theorem ux_82 : (.selects R_R y_R_byteOf y_R_byteOf) ∈ TB := tb_s (by decide +kernel)
theorem ux_83 : (.fieldLink R_R 102 "ConditionMillModel" "look" "I") ∈ TB := tb_i 474 (by decide +kernel) rfl
theorem ux_84 : (.methodLink R_R 180 y_R_signOf) ∈ TB := tb_i 661 (by decide +kernel) rfl
theorem ux_85 : (.code y_R_signOf c_R_signOf 1 (some (.object "java/lang/String"))) ∈ TB := tb_i 663 (by decide +kernel) rfl
theorem ux_86 : (.static y_R_signOf) ∈ TB := tb_i 662 (by decide +kernel) rfl
theorem ux_87 : (.methodLink R_R 129 y_R_is) ∈ TB := tb_i 648 (by decide +kernel) rfl
theorem ux_88 : (.code y_R_is c_R_is 5 (some .boolean)) ∈ TB := tb_i 651 (by decide +kernel) rfl
theorem ux_89 : (.instanceMethod y_R_is) ∈ TB := tb_i 650 (by decide +kernel) rfl
theorem ux_90 : (.selects R_R y_R_is y_R_is) ∈ TB := tb_s (by decide +kernel)
theorem ux_91 : (.fieldLink R_R 114 "ConditionMillModel" "held" "I") ∈ TB := tb_i 479 (by decide +kernel) rfl
theorem ux_92 : (.fieldLink R_R 20 "ConditionMillModel" "heldSign" "[I") ∈ TB := tb_i 480 (by decide +kernel) rfl
theorem ux_93 : (.fieldLink R_R 23 "ConditionMillModel" "heldValue" "[J") ∈ TB := tb_i 481 (by decide +kernel) rfl
theorem ux_94 : (.constantLong R_R 208 (-9223372036854775808)) ∈ TB := tb_i 635 (by decide +kernel) rfl
theorem ux_95 : (.fieldLink R_R 121 "ConditionMillModel" "plain" "Z") ∈ TB := tb_i 478 (by decide +kernel) rfl
theorem ux_96 : (.constantLong R_R 210 63) ∈ TB := tb_i 741 (by decide +kernel) rfl
theorem ux_97 : (.fieldLink R_R 108 "ConditionMillModel" "byZero" "Z") ∈ TB := tb_i 476 (by decide +kernel) rfl
theorem ux_98 : (.methodLink R_R 212 y_R_quotient) ∈ TB := tb_i 632 (by decide +kernel) rfl
theorem ux_99 : (.code y_R_quotient c_R_quotient 11 (some .long)) ∈ TB := tb_i 634 (by decide +kernel) rfl
theorem ux_100 : (.static y_R_quotient) ∈ TB := tb_i 633 (by decide +kernel) rfl
theorem ux_101 : (.fieldLink R_R 27 "ConditionMillModel" "heldPlain" "[Z") ∈ TB := tb_i 482 (by decide +kernel) rfl
theorem ux_102 : (.methodLink R_R 184 y_R_isNeeded) ∈ TB := tb_i 733 (by decide +kernel) rfl
theorem ux_103 : (.code y_R_isNeeded c_R_isNeeded 5 (some .boolean)) ∈ TB := tb_i 736 (by decide +kernel) rfl
theorem ux_104 : (.instanceMethod y_R_isNeeded) ∈ TB := tb_i 735 (by decide +kernel) rfl
theorem ux_105 : (.selects R_R y_R_isNeeded y_R_isNeeded) ∈ TB := tb_s (by decide +kernel)
theorem ux_106 : (.methodLink R_R 188 y_R_join) ∈ TB := tb_i 737 (by decide +kernel) rfl
theorem ux_107 : (.code y_R_join c_R_join 11 (some .long)) ∈ TB := tb_i 740 (by decide +kernel) rfl
theorem ux_108 : (.instanceMethod y_R_join) ∈ TB := tb_i 739 (by decide +kernel) rfl
theorem ux_109 : (.selects R_R y_R_join y_R_join) ∈ TB := tb_s (by decide +kernel)
theorem ux_110 : (.fieldLink R_R 105 "ConditionMillModel" "bad" "Z") ∈ TB := tb_i 475 (by decide +kernel) rfl
theorem ux_111 : (.methodLink R_R 233 y_R_digitOf) ∈ TB := tb_i 628 (by decide +kernel) rfl
theorem ux_112 : (.code y_R_digitOf c_R_digitOf 1 (some .int)) ∈ TB := tb_i 630 (by decide +kernel) rfl
theorem ux_113 : (.static y_R_digitOf) ∈ TB := tb_i 629 (by decide +kernel) rfl
theorem ux_114 : (.constantLong R_R 231 (-1)) ∈ TB := tb_i 631 (by decide +kernel) rfl
theorem ux_115 : (.constantLong R_R 242 7) ∈ TB := tb_i 643 (by decide +kernel) rfl
theorem ux_116 : (.constantLong R_R 244 8) ∈ TB := tb_i 644 (by decide +kernel) rfl
theorem ux_117 : (.constantLong R_R 246 12) ∈ TB := tb_i 645 (by decide +kernel) rfl
theorem ux_118 : (.constantLong R_R 236 10) ∈ TB := tb_i 640 (by decide +kernel) rfl
theorem ux_119 : (.constantLong R_R 240 13) ∈ TB := tb_i 642 (by decide +kernel) rfl
theorem ux_120 : (.constantLong R_R 238 9) ∈ TB := tb_i 641 (by decide +kernel) rfl
theorem ux_121 : (.constantLong R_R 248 11) ∈ TB := tb_i 646 (by decide +kernel) rfl
theorem ux_122 : (.methodLink R_R 87 y_R_cutAll) ∈ TB := tb_i 528 (by decide +kernel) rfl
theorem ux_123 : (.code y_R_cutAll c_R_cutAll 2 none) ∈ TB := tb_i 531 (by decide +kernel) rfl
theorem ux_124 : (.instanceMethod y_R_cutAll) ∈ TB := tb_i 530 (by decide +kernel) rfl
theorem ux_125 : (.selects R_R y_R_cutAll y_R_cutAll) ∈ TB := tb_s (by decide +kernel)
theorem ux_126 : (.methodLink R_R 90 y_R_kindOf) ∈ TB := tb_i 587 (by decide +kernel) rfl
theorem ux_127 : (.code y_R_kindOf c_R_kindOf 5 (some .int)) ∈ TB := tb_i 590 (by decide +kernel) rfl
theorem ux_128 : (.instanceMethod y_R_kindOf) ∈ TB := tb_i 589 (by decide +kernel) rfl
theorem ux_129 : (.selects R_R y_R_kindOf y_R_kindOf) ∈ TB := tb_s (by decide +kernel)
theorem ux_130 : (.fieldLink R_R 94 "ConditionMillModel" "value" "J") ∈ TB := tb_i 469 (by decide +kernel) rfl
theorem ux_131 : (.fieldLink R_R 98 "ConditionMillModel" "isPlain" "Z") ∈ TB := tb_i 470 (by decide +kernel) rfl
