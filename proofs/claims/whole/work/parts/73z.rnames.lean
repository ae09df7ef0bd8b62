abbrev c_R_choice : ByteArray := prog_8_method_22_code
def y_R_choice : MethodName := ⟨R_R, "choice", "(Z)J"⟩
def ws_R_choice : List Cond := Cond.code y_R_choice c_R_choice 9 (some .long) :: TB
theorem hd_R_choice : (y_R_choice).cls = R_R ∧ (y_R_choice).cls ≠ "java/lang/invoke/MethodHandle" ∧ (y_R_choice).cls ≠ "java/lang/invoke/VarHandle" ∧ (parseMethodDescriptor (y_R_choice).desc).map (fun d => d.parameters.length) = some 1 := by decide +kernel
abbrev c_R_either : ByteArray := prog_8_method_28_code
def y_R_either : MethodName := ⟨R_R, "either", "(Z)J"⟩
def ws_R_either : List Cond := Cond.code y_R_either c_R_either 6 (some .long) :: TB
theorem hd_R_either : (y_R_either).cls = R_R ∧ (y_R_either).cls ≠ "java/lang/invoke/MethodHandle" ∧ (y_R_either).cls ≠ "java/lang/invoke/VarHandle" ∧ (parseMethodDescriptor (y_R_either).desc).map (fun d => d.parameters.length) = some 1 := by decide +kernel
abbrev c_R_front : ByteArray := prog_8_method_31_code
def y_R_front : MethodName := ⟨R_R, "front", "(Z)J"⟩
def ws_R_front : List Cond := Cond.code y_R_front c_R_front 7 (some .long) :: TB
theorem hd_R_front : (y_R_front).cls = R_R ∧ (y_R_front).cls ≠ "java/lang/invoke/MethodHandle" ∧ (y_R_front).cls ≠ "java/lang/invoke/VarHandle" ∧ (parseMethodDescriptor (y_R_front).desc).map (fun d => d.parameters.length) = some 1 := by decide +kernel
abbrev c_R_reckon : ByteArray := prog_8_method_20_code
def y_R_reckon : MethodName := ⟨R_R, "reckon", "()I"⟩
def ws_R_reckon : List Cond := Cond.code y_R_reckon c_R_reckon 4 (some .int) :: TB
theorem hd_R_reckon : (y_R_reckon).cls = R_R ∧ (y_R_reckon).cls ≠ "java/lang/invoke/MethodHandle" ∧ (y_R_reckon).cls ≠ "java/lang/invoke/VarHandle" ∧ (parseMethodDescriptor (y_R_reckon).desc).map (fun d => d.parameters.length) = some 0 := by decide +kernel
theorem ux_132 : (.methodLink R_R 124 y_R_either) ∈ TB := tb_i 612 (by decide +kernel) rfl
theorem ux_133 : (.code y_R_either c_R_either 6 (some .long)) ∈ TB := tb_i 615 (by decide +kernel) rfl
theorem ux_134 : (.instanceMethod y_R_either) ∈ TB := tb_i 614 (by decide +kernel) rfl
theorem ux_135 : (.selects R_R y_R_either y_R_either) ∈ TB := tb_s (by decide +kernel)
theorem ux_136 : (.methodLink R_R 132 y_R_goOn) ∈ TB := tb_i 620 (by decide +kernel) rfl
theorem ux_137 : (.code y_R_goOn c_R_goOn 1 none) ∈ TB := tb_i 623 (by decide +kernel) rfl
theorem ux_138 : (.instanceMethod y_R_goOn) ∈ TB := tb_i 622 (by decide +kernel) rfl
theorem ux_139 : (.selects R_R y_R_goOn y_R_goOn) ∈ TB := tb_s (by decide +kernel)
theorem ux_140 : (.fieldLink R_R 111 "ConditionMillModel" "inner" "I") ∈ TB := tb_i 477 (by decide +kernel) rfl
theorem ux_141 : (.methodLink R_R 117 y_R_choice) ∈ TB := tb_i 608 (by decide +kernel) rfl
theorem ux_142 : (.code y_R_choice c_R_choice 9 (some .long)) ∈ TB := tb_i 611 (by decide +kernel) rfl
theorem ux_143 : (.instanceMethod y_R_choice) ∈ TB := tb_i 610 (by decide +kernel) rfl
theorem ux_144 : (.selects R_R y_R_choice y_R_choice) ∈ TB := tb_s (by decide +kernel)
theorem ux_145 : (.methodLink R_R 192 y_R_front) ∈ TB := tb_i 616 (by decide +kernel) rfl
theorem ux_146 : (.code y_R_front c_R_front 7 (some .long)) ∈ TB := tb_i 619 (by decide +kernel) rfl
theorem ux_147 : (.instanceMethod y_R_front) ∈ TB := tb_i 618 (by decide +kernel) rfl
theorem ux_148 : (.selects R_R y_R_front y_R_front) ∈ TB := tb_s (by decide +kernel)
theorem ux_149 : (.methodLink R_R 195 y_R_operatorHere) ∈ TB := tb_i 657 (by decide +kernel) rfl
theorem ux_150 : (.code y_R_operatorHere c_R_operatorHere 3 (some .int)) ∈ TB := tb_i 660 (by decide +kernel) rfl
theorem ux_151 : (.instanceMethod y_R_operatorHere) ∈ TB := tb_i 659 (by decide +kernel) rfl
theorem ux_152 : (.selects R_R y_R_operatorHere y_R_operatorHere) ∈ TB := tb_s (by decide +kernel)
theorem ux_153 : (.methodLink R_R 202 y_R_settle) ∈ TB := tb_i 729 (by decide +kernel) rfl
theorem ux_154 : (.code y_R_settle c_R_settle 5 (some .long)) ∈ TB := tb_i 732 (by decide +kernel) rfl
theorem ux_155 : (.instanceMethod y_R_settle) ∈ TB := tb_i 731 (by decide +kernel) rfl
theorem ux_156 : (.selects R_R y_R_settle y_R_settle) ∈ TB := tb_s (by decide +kernel)
theorem ux_157 : (.methodLink R_R 198 y_R_strengthOf) ∈ TB := tb_i 680 (by decide +kernel) rfl
theorem ux_158 : (.code y_R_strengthOf c_R_strengthOf 3 (some .int)) ∈ TB := tb_i 682 (by decide +kernel) rfl
theorem ux_159 : (.static y_R_strengthOf) ∈ TB := tb_i 681 (by decide +kernel) rfl
theorem ux_160 : (.methodLink R_R 220 y_R_characterOf) ∈ TB := tb_i 636 (by decide +kernel) rfl
theorem ux_161 : (.code y_R_characterOf c_R_characterOf 5 (some .long)) ∈ TB := tb_i 639 (by decide +kernel) rfl
theorem ux_162 : (.instanceMethod y_R_characterOf) ∈ TB := tb_i 638 (by decide +kernel) rfl
theorem ux_163 : (.selects R_R y_R_characterOf y_R_characterOf) ∈ TB := tb_s (by decide +kernel)
theorem ux_164 : (.methodLink R_R 216 y_R_numberOf) ∈ TB := tb_i 624 (by decide +kernel) rfl
theorem ux_165 : (.code y_R_numberOf c_R_numberOf 15 (some .long)) ∈ TB := tb_i 627 (by decide +kernel) rfl
theorem ux_166 : (.instanceMethod y_R_numberOf) ∈ TB := tb_i 626 (by decide +kernel) rfl
theorem ux_167 : (.selects R_R y_R_numberOf y_R_numberOf) ∈ TB := tb_s (by decide +kernel)
theorem d_R_choice_0 : decode c_R_choice 0 = .ok (.aload_n 0, 1) := by decide +kernel
theorem d_R_choice_1 : decode c_R_choice 1 = .ok (.iload_n 1, 1) := by decide +kernel
theorem d_R_choice_2 : decode c_R_choice 2 = .ok (.invokevirtual 124, 3) := by decide +kernel
theorem d_R_choice_5 : decode c_R_choice 5 = .ok (.lstore_n 2, 1) := by decide +kernel
theorem d_R_choice_6 : decode c_R_choice 6 = .ok (.aload_n 0, 1) := by decide +kernel
theorem d_R_choice_7 : decode c_R_choice 7 = .ok (.getfield 105, 3) := by decide +kernel
theorem d_R_choice_10 : decode c_R_choice 10 = .ok (.ifCond .ne 16, 3) := by decide +kernel
theorem d_R_choice_13 : decode c_R_choice 13 = .ok (.aload_n 0, 1) := by decide +kernel
theorem d_R_choice_14 : decode c_R_choice 14 = .ok (.aload_n 0, 1) := by decide +kernel
theorem d_R_choice_15 : decode c_R_choice 15 = .ok (.getfield 102, 3) := by decide +kernel
theorem d_R_choice_18 : decode c_R_choice 18 = .ok (.ldc 127, 2) := by decide +kernel
theorem d_R_choice_20 : decode c_R_choice 20 = .ok (.invokevirtual 129, 3) := by decide +kernel
theorem d_R_choice_23 : decode c_R_choice 23 = .ok (.ifCond .ne 5, 3) := by decide +kernel
theorem d_R_choice_26 : decode c_R_choice 26 = .ok (.lload_n 2, 1) := by decide +kernel
theorem d_R_choice_27 : decode c_R_choice 27 = .ok (.lreturn, 1) := by decide +kernel
theorem d_R_choice_28 : decode c_R_choice 28 = .ok (.aload_n 0, 1) := by decide +kernel
theorem d_R_choice_29 : decode c_R_choice 29 = .ok (.invokevirtual 132, 3) := by decide +kernel
theorem d_R_choice_32 : decode c_R_choice 32 = .ok (.aload_n 0, 1) := by decide +kernel
theorem d_R_choice_33 : decode c_R_choice 33 = .ok (.dup, 1) := by decide +kernel
theorem d_R_choice_34 : decode c_R_choice 34 = .ok (.getfield 111, 3) := by decide +kernel
theorem d_R_choice_37 : decode c_R_choice 37 = .ok (.iconst 1, 1) := by decide +kernel
theorem d_R_choice_38 : decode c_R_choice 38 = .ok (.iadd, 1) := by decide +kernel
theorem d_R_choice_39 : decode c_R_choice 39 = .ok (.putfield 111, 3) := by decide +kernel
theorem d_R_choice_42 : decode c_R_choice 42 = .ok (.aload_n 0, 1) := by decide +kernel
theorem d_R_choice_43 : decode c_R_choice 43 = .ok (.aload_n 0, 1) := by decide +kernel
theorem d_R_choice_44 : decode c_R_choice 44 = .ok (.getfield 111, 3) := by decide +kernel
theorem d_R_choice_47 : decode c_R_choice 47 = .ok (.bipush 60, 2) := by decide +kernel
theorem d_R_choice_49 : decode c_R_choice 49 = .ok (.if_icmp .le 7, 3) := by decide +kernel
theorem d_R_choice_52 : decode c_R_choice 52 = .ok (.iconst 1, 1) := by decide +kernel
theorem d_R_choice_53 : decode c_R_choice 53 = .ok (.goto 4, 3) := by decide +kernel
theorem d_R_choice_56 : decode c_R_choice 56 = .ok (.iconst 0, 1) := by decide +kernel
theorem d_R_choice_57 : decode c_R_choice 57 = .ok (.putfield 105, 3) := by decide +kernel
theorem d_R_choice_60 : decode c_R_choice 60 = .ok (.aload_n 0, 1) := by decide +kernel
theorem d_R_choice_61 : decode c_R_choice 61 = .ok (.getfield 105, 3) := by decide +kernel
theorem d_R_choice_64 : decode c_R_choice 64 = .ok (.ifCond .eq 7, 3) := by decide +kernel
theorem d_R_choice_67 : decode c_R_choice 67 = .ok (.lconst 0, 1) := by decide +kernel
theorem d_R_choice_68 : decode c_R_choice 68 = .ok (.goto 22, 3) := by decide +kernel
theorem d_R_choice_71 : decode c_R_choice 71 = .ok (.aload_n 0, 1) := by decide +kernel
theorem d_R_choice_72 : decode c_R_choice 72 = .ok (.iload_n 1, 1) := by decide +kernel
theorem d_R_choice_73 : decode c_R_choice 73 = .ok (.ifCond .eq 13, 3) := by decide +kernel
theorem d_R_choice_76 : decode c_R_choice 76 = .ok (.lload_n 2, 1) := by decide +kernel
theorem d_R_choice_77 : decode c_R_choice 77 = .ok (.lconst 0, 1) := by decide +kernel
theorem d_R_choice_78 : decode c_R_choice 78 = .ok (.lcmp, 1) := by decide +kernel
theorem d_R_choice_79 : decode c_R_choice 79 = .ok (.ifCond .eq 7, 3) := by decide +kernel
theorem d_R_choice_82 : decode c_R_choice 82 = .ok (.iconst 1, 1) := by decide +kernel
theorem d_R_choice_83 : decode c_R_choice 83 = .ok (.goto 4, 3) := by decide +kernel
theorem d_R_choice_86 : decode c_R_choice 86 = .ok (.iconst 0, 1) := by decide +kernel
theorem d_R_choice_87 : decode c_R_choice 87 = .ok (.invokevirtual 117, 3) := by decide +kernel
theorem d_R_choice_90 : decode c_R_choice 90 = .ok (.lstore 4, 2) := by decide +kernel
theorem d_R_choice_92 : decode c_R_choice 92 = .ok (.aload_n 0, 1) := by decide +kernel
theorem d_R_choice_93 : decode c_R_choice 93 = .ok (.getfield 121, 3) := by decide +kernel
theorem d_R_choice_96 : decode c_R_choice 96 = .ok (.istore 6, 2) := by decide +kernel
theorem d_R_choice_98 : decode c_R_choice 98 = .ok (.aload_n 0, 1) := by decide +kernel
theorem d_R_choice_99 : decode c_R_choice 99 = .ok (.aload_n 0, 1) := by decide +kernel
theorem d_R_choice_100 : decode c_R_choice 100 = .ok (.getfield 105, 3) := by decide +kernel
theorem d_R_choice_103 : decode c_R_choice 103 = .ok (.ifCond .ne 16, 3) := by decide +kernel
theorem d_R_choice_106 : decode c_R_choice 106 = .ok (.aload_n 0, 1) := by decide +kernel
theorem d_R_choice_107 : decode c_R_choice 107 = .ok (.aload_n 0, 1) := by decide +kernel
theorem d_R_choice_108 : decode c_R_choice 108 = .ok (.getfield 102, 3) := by decide +kernel
theorem d_R_choice_111 : decode c_R_choice 111 = .ok (.ldc 135, 2) := by decide +kernel
theorem d_R_choice_113 : decode c_R_choice 113 = .ok (.invokevirtual 129, 3) := by decide +kernel
theorem d_R_choice_116 : decode c_R_choice 116 = .ok (.ifCond .ne 7, 3) := by decide +kernel
theorem d_R_choice_119 : decode c_R_choice 119 = .ok (.iconst 1, 1) := by decide +kernel
theorem d_R_choice_120 : decode c_R_choice 120 = .ok (.goto 4, 3) := by decide +kernel
theorem d_R_choice_123 : decode c_R_choice 123 = .ok (.iconst 0, 1) := by decide +kernel
theorem d_R_choice_124 : decode c_R_choice 124 = .ok (.putfield 105, 3) := by decide +kernel
theorem d_R_choice_127 : decode c_R_choice 127 = .ok (.aload_n 0, 1) := by decide +kernel
theorem d_R_choice_128 : decode c_R_choice 128 = .ok (.invokevirtual 132, 3) := by decide +kernel
theorem d_R_choice_131 : decode c_R_choice 131 = .ok (.aload_n 0, 1) := by decide +kernel
theorem d_R_choice_132 : decode c_R_choice 132 = .ok (.getfield 105, 3) := by decide +kernel
theorem d_R_choice_135 : decode c_R_choice 135 = .ok (.ifCond .eq 7, 3) := by decide +kernel
theorem d_R_choice_138 : decode c_R_choice 138 = .ok (.lconst 0, 1) := by decide +kernel
theorem d_R_choice_139 : decode c_R_choice 139 = .ok (.goto 22, 3) := by decide +kernel
theorem d_R_choice_142 : decode c_R_choice 142 = .ok (.aload_n 0, 1) := by decide +kernel
theorem d_R_choice_143 : decode c_R_choice 143 = .ok (.iload_n 1, 1) := by decide +kernel
theorem d_R_choice_144 : decode c_R_choice 144 = .ok (.ifCond .eq 13, 3) := by decide +kernel
theorem d_R_choice_147 : decode c_R_choice 147 = .ok (.lload_n 2, 1) := by decide +kernel
theorem d_R_choice_148 : decode c_R_choice 148 = .ok (.lconst 0, 1) := by decide +kernel
theorem d_R_choice_149 : decode c_R_choice 149 = .ok (.lcmp, 1) := by decide +kernel
theorem d_R_choice_150 : decode c_R_choice 150 = .ok (.ifCond .ne 7, 3) := by decide +kernel
theorem d_R_choice_153 : decode c_R_choice 153 = .ok (.iconst 1, 1) := by decide +kernel
theorem d_R_choice_154 : decode c_R_choice 154 = .ok (.goto 4, 3) := by decide +kernel
theorem d_R_choice_157 : decode c_R_choice 157 = .ok (.iconst 0, 1) := by decide +kernel
theorem d_R_choice_158 : decode c_R_choice 158 = .ok (.invokevirtual 117, 3) := by decide +kernel
theorem d_R_choice_161 : decode c_R_choice 161 = .ok (.lstore 7, 2) := by decide +kernel
theorem d_R_choice_163 : decode c_R_choice 163 = .ok (.aload_n 0, 1) := by decide +kernel
theorem d_R_choice_164 : decode c_R_choice 164 = .ok (.dup, 1) := by decide +kernel
theorem d_R_choice_165 : decode c_R_choice 165 = .ok (.getfield 111, 3) := by decide +kernel
theorem d_R_choice_168 : decode c_R_choice 168 = .ok (.iconst 1, 1) := by decide +kernel
theorem d_R_choice_169 : decode c_R_choice 169 = .ok (.isub, 1) := by decide +kernel
theorem d_R_choice_170 : decode c_R_choice 170 = .ok (.putfield 111, 3) := by decide +kernel
theorem d_R_choice_173 : decode c_R_choice 173 = .ok (.aload_n 0, 1) := by decide +kernel
theorem d_R_choice_174 : decode c_R_choice 174 = .ok (.iload 6, 2) := by decide +kernel
theorem d_R_choice_176 : decode c_R_choice 176 = .ok (.ifCond .ne 10, 3) := by decide +kernel
theorem d_R_choice_179 : decode c_R_choice 179 = .ok (.aload_n 0, 1) := by decide +kernel
theorem d_R_choice_180 : decode c_R_choice 180 = .ok (.getfield 121, 3) := by decide +kernel
theorem d_R_choice_183 : decode c_R_choice 183 = .ok (.ifCond .eq 7, 3) := by decide +kernel
theorem d_R_choice_186 : decode c_R_choice 186 = .ok (.iconst 1, 1) := by decide +kernel
theorem d_R_choice_187 : decode c_R_choice 187 = .ok (.goto 4, 3) := by decide +kernel
theorem d_R_choice_190 : decode c_R_choice 190 = .ok (.iconst 0, 1) := by decide +kernel
theorem d_R_choice_191 : decode c_R_choice 191 = .ok (.putfield 121, 3) := by decide +kernel
theorem d_R_choice_194 : decode c_R_choice 194 = .ok (.lload_n 2, 1) := by decide +kernel
theorem d_R_choice_195 : decode c_R_choice 195 = .ok (.lconst 0, 1) := by decide +kernel
theorem d_R_choice_196 : decode c_R_choice 196 = .ok (.lcmp, 1) := by decide +kernel
theorem d_R_choice_197 : decode c_R_choice 197 = .ok (.ifCond .eq 8, 3) := by decide +kernel
theorem d_R_choice_200 : decode c_R_choice 200 = .ok (.lload 4, 2) := by decide +kernel
theorem d_R_choice_202 : decode c_R_choice 202 = .ok (.goto 5, 3) := by decide +kernel
theorem d_R_choice_205 : decode c_R_choice 205 = .ok (.lload 7, 2) := by decide +kernel
theorem d_R_choice_207 : decode c_R_choice 207 = .ok (.lreturn, 1) := by decide +kernel
theorem d_R_either_0 : decode c_R_either 0 = .ok (.aload_n 0, 1) := by decide +kernel
theorem d_R_either_1 : decode c_R_either 1 = .ok (.getfield 114, 3) := by decide +kernel
theorem d_R_either_4 : decode c_R_either 4 = .ok (.istore_n 2, 1) := by decide +kernel
theorem d_R_either_5 : decode c_R_either 5 = .ok (.aload_n 0, 1) := by decide +kernel
theorem d_R_either_6 : decode c_R_either 6 = .ok (.iload_n 1, 1) := by decide +kernel
theorem d_R_either_7 : decode c_R_either 7 = .ok (.invokevirtual 192, 3) := by decide +kernel
theorem d_R_either_10 : decode c_R_either 10 = .ok (.lstore_n 3, 1) := by decide +kernel
theorem d_R_either_11 : decode c_R_either 11 = .ok (.aload_n 0, 1) := by decide +kernel
theorem d_R_either_12 : decode c_R_either 12 = .ok (.invokevirtual 195, 3) := by decide +kernel
theorem d_R_either_15 : decode c_R_either 15 = .ok (.istore 5, 2) := by decide +kernel
theorem d_R_either_17 : decode c_R_either 17 = .ok (.aload_n 0, 1) := by decide +kernel
theorem d_R_either_18 : decode c_R_either 18 = .ok (.getfield 105, 3) := by decide +kernel
theorem d_R_either_21 : decode c_R_either 21 = .ok (.ifCond .ne 123, 3) := by decide +kernel
theorem d_R_either_24 : decode c_R_either 24 = .ok (.iload 5, 2) := by decide +kernel
theorem d_R_either_26 : decode c_R_either 26 = .ok (.ifCond .lt 118, 3) := by decide +kernel
theorem d_R_either_29 : decode c_R_either 29 = .ok (.aload_n 0, 1) := by decide +kernel
theorem d_R_either_30 : decode c_R_either 30 = .ok (.getfield 114, 3) := by decide +kernel
theorem d_R_either_33 : decode c_R_either 33 = .ok (.iload_n 2, 1) := by decide +kernel
theorem d_R_either_34 : decode c_R_either 34 = .ok (.if_icmp .le 42, 3) := by decide +kernel
theorem d_R_either_37 : decode c_R_either 37 = .ok (.aload_n 0, 1) := by decide +kernel
theorem d_R_either_38 : decode c_R_either 38 = .ok (.getfield 20, 3) := by decide +kernel
theorem d_R_either_41 : decode c_R_either 41 = .ok (.aload_n 0, 1) := by decide +kernel
theorem d_R_either_42 : decode c_R_either 42 = .ok (.getfield 114, 3) := by decide +kernel
theorem d_R_either_45 : decode c_R_either 45 = .ok (.iconst 1, 1) := by decide +kernel
theorem d_R_either_46 : decode c_R_either 46 = .ok (.isub, 1) := by decide +kernel
theorem d_R_either_47 : decode c_R_either 47 = .ok (.iaload, 1) := by decide +kernel
theorem d_R_either_48 : decode c_R_either 48 = .ok (.invokestatic 180, 3) := by decide +kernel
theorem d_R_either_51 : decode c_R_either 51 = .ok (.invokestatic 198, 3) := by decide +kernel
theorem d_R_either_54 : decode c_R_either 54 = .ok (.iload 5, 2) := by decide +kernel
theorem d_R_either_56 : decode c_R_either 56 = .ok (.invokestatic 180, 3) := by decide +kernel
theorem d_R_either_59 : decode c_R_either 59 = .ok (.invokestatic 198, 3) := by decide +kernel
theorem d_R_either_62 : decode c_R_either 62 = .ok (.if_icmp .lt 14, 3) := by decide +kernel
theorem d_R_either_65 : decode c_R_either 65 = .ok (.aload_n 0, 1) := by decide +kernel
theorem d_R_either_66 : decode c_R_either 66 = .ok (.lload_n 3, 1) := by decide +kernel
theorem d_R_either_67 : decode c_R_either 67 = .ok (.iload_n 2, 1) := by decide +kernel
theorem d_R_either_68 : decode c_R_either 68 = .ok (.iload_n 1, 1) := by decide +kernel
theorem d_R_either_69 : decode c_R_either 69 = .ok (.invokevirtual 202, 3) := by decide +kernel
theorem d_R_either_72 : decode c_R_either 72 = .ok (.lstore_n 3, 1) := by decide +kernel
theorem d_R_either_73 : decode c_R_either 73 = .ok (.goto (-44), 3) := by decide +kernel
theorem d_R_either_76 : decode c_R_either 76 = .ok (.aload_n 0, 1) := by decide +kernel
theorem d_R_either_77 : decode c_R_either 77 = .ok (.getfield 20, 3) := by decide +kernel
theorem d_R_either_80 : decode c_R_either 80 = .ok (.aload_n 0, 1) := by decide +kernel
theorem d_R_either_81 : decode c_R_either 81 = .ok (.getfield 114, 3) := by decide +kernel
theorem d_R_either_84 : decode c_R_either 84 = .ok (.iload 5, 2) := by decide +kernel
theorem d_R_either_86 : decode c_R_either 86 = .ok (.iastore, 1) := by decide +kernel
theorem d_R_either_87 : decode c_R_either 87 = .ok (.aload_n 0, 1) := by decide +kernel
theorem d_R_either_88 : decode c_R_either 88 = .ok (.getfield 23, 3) := by decide +kernel
theorem d_R_either_91 : decode c_R_either 91 = .ok (.aload_n 0, 1) := by decide +kernel
theorem d_R_either_92 : decode c_R_either 92 = .ok (.getfield 114, 3) := by decide +kernel
theorem d_R_either_95 : decode c_R_either 95 = .ok (.lload_n 3, 1) := by decide +kernel
theorem d_R_either_96 : decode c_R_either 96 = .ok (.lastore, 1) := by decide +kernel
theorem d_R_either_97 : decode c_R_either 97 = .ok (.aload_n 0, 1) := by decide +kernel
theorem d_R_either_98 : decode c_R_either 98 = .ok (.getfield 27, 3) := by decide +kernel
theorem d_R_either_101 : decode c_R_either 101 = .ok (.aload_n 0, 1) := by decide +kernel
theorem d_R_either_102 : decode c_R_either 102 = .ok (.getfield 114, 3) := by decide +kernel
theorem d_R_either_105 : decode c_R_either 105 = .ok (.aload_n 0, 1) := by decide +kernel
theorem d_R_either_106 : decode c_R_either 106 = .ok (.getfield 121, 3) := by decide +kernel
theorem d_R_either_109 : decode c_R_either 109 = .ok (.bastore, 1) := by decide +kernel
theorem d_R_either_110 : decode c_R_either 110 = .ok (.aload_n 0, 1) := by decide +kernel
theorem d_R_either_111 : decode c_R_either 111 = .ok (.dup, 1) := by decide +kernel
theorem d_R_either_112 : decode c_R_either 112 = .ok (.getfield 114, 3) := by decide +kernel
theorem d_R_either_115 : decode c_R_either 115 = .ok (.iconst 1, 1) := by decide +kernel
theorem d_R_either_116 : decode c_R_either 116 = .ok (.iadd, 1) := by decide +kernel
theorem d_R_either_117 : decode c_R_either 117 = .ok (.putfield 114, 3) := by decide +kernel
theorem d_R_either_120 : decode c_R_either 120 = .ok (.aload_n 0, 1) := by decide +kernel
theorem d_R_either_121 : decode c_R_either 121 = .ok (.invokevirtual 132, 3) := by decide +kernel
theorem d_R_either_124 : decode c_R_either 124 = .ok (.aload_n 0, 1) := by decide +kernel
theorem d_R_either_125 : decode c_R_either 125 = .ok (.aload_n 0, 1) := by decide +kernel
theorem d_R_either_126 : decode c_R_either 126 = .ok (.iload_n 2, 1) := by decide +kernel
theorem d_R_either_127 : decode c_R_either 127 = .ok (.iload_n 1, 1) := by decide +kernel
theorem d_R_either_128 : decode c_R_either 128 = .ok (.invokevirtual 184, 3) := by decide +kernel
theorem d_R_either_131 : decode c_R_either 131 = .ok (.invokevirtual 192, 3) := by decide +kernel
theorem d_R_either_134 : decode c_R_either 134 = .ok (.lstore_n 3, 1) := by decide +kernel
theorem d_R_either_135 : decode c_R_either 135 = .ok (.aload_n 0, 1) := by decide +kernel
theorem d_R_either_136 : decode c_R_either 136 = .ok (.invokevirtual 195, 3) := by decide +kernel
theorem d_R_either_139 : decode c_R_either 139 = .ok (.istore 5, 2) := by decide +kernel
theorem d_R_either_141 : decode c_R_either 141 = .ok (.goto (-124), 3) := by decide +kernel
theorem d_R_either_144 : decode c_R_either 144 = .ok (.aload_n 0, 1) := by decide +kernel
theorem d_R_either_145 : decode c_R_either 145 = .ok (.getfield 114, 3) := by decide +kernel
theorem d_R_either_148 : decode c_R_either 148 = .ok (.iload_n 2, 1) := by decide +kernel
theorem d_R_either_149 : decode c_R_either 149 = .ok (.if_icmp .le 44, 3) := by decide +kernel
theorem d_R_either_152 : decode c_R_either 152 = .ok (.aload_n 0, 1) := by decide +kernel
theorem d_R_either_153 : decode c_R_either 153 = .ok (.getfield 105, 3) := by decide +kernel
theorem d_R_either_156 : decode c_R_either 156 = .ok (.ifCond .eq 7, 3) := by decide +kernel
theorem d_R_either_159 : decode c_R_either 159 = .ok (.lconst 0, 1) := by decide +kernel
theorem d_R_either_160 : decode c_R_either 160 = .ok (.goto 10, 3) := by decide +kernel
theorem d_R_either_163 : decode c_R_either 163 = .ok (.aload_n 0, 1) := by decide +kernel
theorem d_R_either_164 : decode c_R_either 164 = .ok (.lload_n 3, 1) := by decide +kernel
theorem d_R_either_165 : decode c_R_either 165 = .ok (.iload_n 2, 1) := by decide +kernel
theorem d_R_either_166 : decode c_R_either 166 = .ok (.iload_n 1, 1) := by decide +kernel
theorem d_R_either_167 : decode c_R_either 167 = .ok (.invokevirtual 202, 3) := by decide +kernel
theorem d_R_either_170 : decode c_R_either 170 = .ok (.lstore_n 3, 1) := by decide +kernel
theorem d_R_either_171 : decode c_R_either 171 = .ok (.aload_n 0, 1) := by decide +kernel
theorem d_R_either_172 : decode c_R_either 172 = .ok (.aload_n 0, 1) := by decide +kernel
theorem d_R_either_173 : decode c_R_either 173 = .ok (.getfield 105, 3) := by decide +kernel
theorem d_R_either_176 : decode c_R_either 176 = .ok (.ifCond .eq 7, 3) := by decide +kernel
theorem d_R_either_179 : decode c_R_either 179 = .ok (.iload_n 2, 1) := by decide +kernel
theorem d_R_either_180 : decode c_R_either 180 = .ok (.goto 7, 3) := by decide +kernel
theorem d_R_either_183 : decode c_R_either 183 = .ok (.aload_n 0, 1) := by decide +kernel
theorem d_R_either_184 : decode c_R_either 184 = .ok (.getfield 114, 3) := by decide +kernel
theorem d_R_either_187 : decode c_R_either 187 = .ok (.putfield 114, 3) := by decide +kernel
theorem d_R_either_190 : decode c_R_either 190 = .ok (.goto (-46), 3) := by decide +kernel
theorem d_R_either_193 : decode c_R_either 193 = .ok (.lload_n 3, 1) := by decide +kernel
theorem d_R_either_194 : decode c_R_either 194 = .ok (.lreturn, 1) := by decide +kernel
theorem d_R_front_0 : decode c_R_front 0 = .ok (.aload_n 0, 1) := by decide +kernel
theorem d_R_front_1 : decode c_R_front 1 = .ok (.iconst 0, 1) := by decide +kernel
theorem d_R_front_2 : decode c_R_front 2 = .ok (.putfield 121, 3) := by decide +kernel
theorem d_R_front_5 : decode c_R_front 5 = .ok (.aload_n 0, 1) := by decide +kernel
theorem d_R_front_6 : decode c_R_front 6 = .ok (.getfield 102, 3) := by decide +kernel
theorem d_R_front_9 : decode c_R_front 9 = .ok (.istore_n 2, 1) := by decide +kernel
theorem d_R_front_10 : decode c_R_front 10 = .ok (.aload_n 0, 1) := by decide +kernel
theorem d_R_front_11 : decode c_R_front 11 = .ok (.getfield 105, 3) := by decide +kernel
theorem d_R_front_14 : decode c_R_front 14 = .ok (.ifCond .ne 7, 3) := by decide +kernel
theorem d_R_front_17 : decode c_R_front 17 = .ok (.iload_n 2, 1) := by decide +kernel
theorem d_R_front_18 : decode c_R_front 18 = .ok (.ifCond .ge 10, 3) := by decide +kernel
theorem d_R_front_21 : decode c_R_front 21 = .ok (.aload_n 0, 1) := by decide +kernel
theorem d_R_front_22 : decode c_R_front 22 = .ok (.iconst 1, 1) := by decide +kernel
theorem d_R_front_23 : decode c_R_front 23 = .ok (.putfield 105, 3) := by decide +kernel
theorem d_R_front_26 : decode c_R_front 26 = .ok (.lconst 0, 1) := by decide +kernel
theorem d_R_front_27 : decode c_R_front 27 = .ok (.lreturn, 1) := by decide +kernel
theorem d_R_front_28 : decode c_R_front 28 = .ok (.aload_n 0, 1) := by decide +kernel
theorem d_R_front_29 : decode c_R_front 29 = .ok (.iload_n 2, 1) := by decide +kernel
theorem d_R_front_30 : decode c_R_front 30 = .ok (.invokevirtual 90, 3) := by decide +kernel
theorem d_R_front_33 : decode c_R_front 33 = .ok (.istore_n 3, 1) := by decide +kernel
theorem d_R_front_34 : decode c_R_front 34 = .ok (.iload_n 3, 1) := by decide +kernel
theorem d_R_front_35 : decode c_R_front 35 = .ok (.iconst 1, 1) := by decide +kernel
theorem d_R_front_36 : decode c_R_front 36 = .ok (.if_icmp .ne 9, 3) := by decide +kernel
theorem d_R_front_39 : decode c_R_front 39 = .ok (.aload_n 0, 1) := by decide +kernel
theorem d_R_front_40 : decode c_R_front 40 = .ok (.invokevirtual 132, 3) := by decide +kernel
theorem d_R_front_43 : decode c_R_front 43 = .ok (.lconst 0, 1) := by decide +kernel
theorem d_R_front_44 : decode c_R_front 44 = .ok (.lreturn, 1) := by decide +kernel
theorem d_R_front_45 : decode c_R_front 45 = .ok (.iload_n 3, 1) := by decide +kernel
theorem d_R_front_46 : decode c_R_front 46 = .ok (.iconst 2, 1) := by decide +kernel
theorem d_R_front_47 : decode c_R_front 47 = .ok (.if_icmp .ne 13, 3) := by decide +kernel
theorem d_R_front_50 : decode c_R_front 50 = .ok (.aload_n 0, 1) := by decide +kernel
theorem d_R_front_51 : decode c_R_front 51 = .ok (.invokevirtual 132, 3) := by decide +kernel
theorem d_R_front_54 : decode c_R_front 54 = .ok (.aload_n 0, 1) := by decide +kernel
theorem d_R_front_55 : decode c_R_front 55 = .ok (.iload_n 2, 1) := by decide +kernel
theorem d_R_front_56 : decode c_R_front 56 = .ok (.invokevirtual 216, 3) := by decide +kernel
theorem d_R_front_59 : decode c_R_front 59 = .ok (.lreturn, 1) := by decide +kernel
theorem d_R_front_60 : decode c_R_front 60 = .ok (.iload_n 3, 1) := by decide +kernel
theorem d_R_front_61 : decode c_R_front 61 = .ok (.iconst 4, 1) := by decide +kernel
theorem d_R_front_62 : decode c_R_front 62 = .ok (.if_icmp .ne 13, 3) := by decide +kernel
theorem d_R_front_65 : decode c_R_front 65 = .ok (.aload_n 0, 1) := by decide +kernel
theorem d_R_front_66 : decode c_R_front 66 = .ok (.invokevirtual 132, 3) := by decide +kernel
theorem d_R_front_69 : decode c_R_front 69 = .ok (.aload_n 0, 1) := by decide +kernel
theorem d_R_front_70 : decode c_R_front 70 = .ok (.iload_n 2, 1) := by decide +kernel
theorem d_R_front_71 : decode c_R_front 71 = .ok (.invokevirtual 220, 3) := by decide +kernel
theorem d_R_front_74 : decode c_R_front 74 = .ok (.lreturn, 1) := by decide +kernel
theorem d_R_front_75 : decode c_R_front 75 = .ok (.aload_n 0, 1) := by decide +kernel
theorem d_R_front_76 : decode c_R_front 76 = .ok (.iload_n 2, 1) := by decide +kernel
theorem d_R_front_77 : decode c_R_front 77 = .ok (.ldc 223, 2) := by decide +kernel
theorem d_R_front_79 : decode c_R_front 79 = .ok (.invokevirtual 129, 3) := by decide +kernel
theorem d_R_front_82 : decode c_R_front 82 = .ok (.istore 4, 2) := by decide +kernel
theorem d_R_front_84 : decode c_R_front 84 = .ok (.iload 4, 2) := by decide +kernel
theorem d_R_front_86 : decode c_R_front 86 = .ok (.ifCond .ne 50, 3) := by decide +kernel
theorem d_R_front_89 : decode c_R_front 89 = .ok (.aload_n 0, 1) := by decide +kernel
theorem d_R_front_90 : decode c_R_front 90 = .ok (.iload_n 2, 1) := by decide +kernel
theorem d_R_front_91 : decode c_R_front 91 = .ok (.ldc 170, 2) := by decide +kernel
theorem d_R_front_93 : decode c_R_front 93 = .ok (.invokevirtual 129, 3) := by decide +kernel
theorem d_R_front_96 : decode c_R_front 96 = .ok (.ifCond .ne 40, 3) := by decide +kernel
theorem d_R_front_99 : decode c_R_front 99 = .ok (.aload_n 0, 1) := by decide +kernel
theorem d_R_front_100 : decode c_R_front 100 = .ok (.iload_n 2, 1) := by decide +kernel
theorem d_R_front_101 : decode c_R_front 101 = .ok (.ldc 172, 2) := by decide +kernel
theorem d_R_front_103 : decode c_R_front 103 = .ok (.invokevirtual 129, 3) := by decide +kernel
theorem d_R_front_106 : decode c_R_front 106 = .ok (.ifCond .ne 30, 3) := by decide +kernel
theorem d_R_front_109 : decode c_R_front 109 = .ok (.aload_n 0, 1) := by decide +kernel
theorem d_R_front_110 : decode c_R_front 110 = .ok (.iload_n 2, 1) := by decide +kernel
theorem d_R_front_111 : decode c_R_front 111 = .ok (.ldc 225, 2) := by decide +kernel
theorem d_R_front_113 : decode c_R_front 113 = .ok (.invokevirtual 129, 3) := by decide +kernel
theorem d_R_front_116 : decode c_R_front 116 = .ok (.ifCond .ne 20, 3) := by decide +kernel
theorem d_R_front_119 : decode c_R_front 119 = .ok (.aload_n 0, 1) := by decide +kernel
theorem d_R_front_120 : decode c_R_front 120 = .ok (.iload_n 2, 1) := by decide +kernel
theorem d_R_front_121 : decode c_R_front 121 = .ok (.ldc 227, 2) := by decide +kernel
theorem d_R_front_123 : decode c_R_front 123 = .ok (.invokevirtual 129, 3) := by decide +kernel
theorem d_R_front_126 : decode c_R_front 126 = .ok (.ifCond .ne 10, 3) := by decide +kernel
theorem d_R_front_129 : decode c_R_front 129 = .ok (.aload_n 0, 1) := by decide +kernel
theorem d_R_front_130 : decode c_R_front 130 = .ok (.iconst 1, 1) := by decide +kernel
theorem d_R_front_131 : decode c_R_front 131 = .ok (.putfield 105, 3) := by decide +kernel
theorem d_R_front_134 : decode c_R_front 134 = .ok (.lconst 0, 1) := by decide +kernel
theorem d_R_front_135 : decode c_R_front 135 = .ok (.lreturn, 1) := by decide +kernel
theorem d_R_front_136 : decode c_R_front 136 = .ok (.aload_n 0, 1) := by decide +kernel
theorem d_R_front_137 : decode c_R_front 137 = .ok (.invokevirtual 132, 3) := by decide +kernel
theorem d_R_front_140 : decode c_R_front 140 = .ok (.aload_n 0, 1) := by decide +kernel
theorem d_R_front_141 : decode c_R_front 141 = .ok (.dup, 1) := by decide +kernel
theorem d_R_front_142 : decode c_R_front 142 = .ok (.getfield 111, 3) := by decide +kernel
theorem d_R_front_145 : decode c_R_front 145 = .ok (.iconst 1, 1) := by decide +kernel
theorem d_R_front_146 : decode c_R_front 146 = .ok (.iadd, 1) := by decide +kernel
theorem d_R_front_147 : decode c_R_front 147 = .ok (.putfield 111, 3) := by decide +kernel
theorem d_R_front_150 : decode c_R_front 150 = .ok (.aload_n 0, 1) := by decide +kernel
theorem d_R_front_151 : decode c_R_front 151 = .ok (.aload_n 0, 1) := by decide +kernel
theorem d_R_front_152 : decode c_R_front 152 = .ok (.getfield 111, 3) := by decide +kernel
theorem d_R_front_155 : decode c_R_front 155 = .ok (.bipush 60, 2) := by decide +kernel
theorem d_R_front_157 : decode c_R_front 157 = .ok (.if_icmp .le 7, 3) := by decide +kernel
theorem d_R_front_160 : decode c_R_front 160 = .ok (.iconst 1, 1) := by decide +kernel
theorem d_R_front_161 : decode c_R_front 161 = .ok (.goto 4, 3) := by decide +kernel
theorem d_R_front_164 : decode c_R_front 164 = .ok (.iconst 0, 1) := by decide +kernel
theorem d_R_front_165 : decode c_R_front 165 = .ok (.putfield 105, 3) := by decide +kernel
theorem d_R_front_168 : decode c_R_front 168 = .ok (.aload_n 0, 1) := by decide +kernel
theorem d_R_front_169 : decode c_R_front 169 = .ok (.getfield 105, 3) := by decide +kernel
theorem d_R_front_172 : decode c_R_front 172 = .ok (.ifCond .eq 7, 3) := by decide +kernel
theorem d_R_front_175 : decode c_R_front 175 = .ok (.lconst 0, 1) := by decide +kernel
theorem d_R_front_176 : decode c_R_front 176 = .ok (.goto 21, 3) := by decide +kernel
theorem d_R_front_179 : decode c_R_front 179 = .ok (.iload 4, 2) := by decide +kernel
theorem d_R_front_181 : decode c_R_front 181 = .ok (.ifCond .eq 11, 3) := by decide +kernel
theorem d_R_front_184 : decode c_R_front 184 = .ok (.aload_n 0, 1) := by decide +kernel
theorem d_R_front_185 : decode c_R_front 185 = .ok (.iload_n 1, 1) := by decide +kernel
theorem d_R_front_186 : decode c_R_front 186 = .ok (.invokevirtual 117, 3) := by decide +kernel
theorem d_R_front_189 : decode c_R_front 189 = .ok (.goto 8, 3) := by decide +kernel
theorem d_R_front_192 : decode c_R_front 192 = .ok (.aload_n 0, 1) := by decide +kernel
theorem d_R_front_193 : decode c_R_front 193 = .ok (.iload_n 1, 1) := by decide +kernel
theorem d_R_front_194 : decode c_R_front 194 = .ok (.invokevirtual 192, 3) := by decide +kernel
theorem d_R_front_197 : decode c_R_front 197 = .ok (.lstore 5, 2) := by decide +kernel
theorem d_R_front_199 : decode c_R_front 199 = .ok (.aload_n 0, 1) := by decide +kernel
theorem d_R_front_200 : decode c_R_front 200 = .ok (.dup, 1) := by decide +kernel
theorem d_R_front_201 : decode c_R_front 201 = .ok (.getfield 111, 3) := by decide +kernel
theorem d_R_front_204 : decode c_R_front 204 = .ok (.iconst 1, 1) := by decide +kernel
theorem d_R_front_205 : decode c_R_front 205 = .ok (.isub, 1) := by decide +kernel
theorem d_R_front_206 : decode c_R_front 206 = .ok (.putfield 111, 3) := by decide +kernel
theorem d_R_front_209 : decode c_R_front 209 = .ok (.iload 4, 2) := by decide +kernel
theorem d_R_front_211 : decode c_R_front 211 = .ok (.ifCond .eq 39, 3) := by decide +kernel
theorem d_R_front_214 : decode c_R_front 214 = .ok (.aload_n 0, 1) := by decide +kernel
theorem d_R_front_215 : decode c_R_front 215 = .ok (.aload_n 0, 1) := by decide +kernel
theorem d_R_front_216 : decode c_R_front 216 = .ok (.getfield 105, 3) := by decide +kernel
theorem d_R_front_219 : decode c_R_front 219 = .ok (.ifCond .ne 16, 3) := by decide +kernel
theorem d_R_front_222 : decode c_R_front 222 = .ok (.aload_n 0, 1) := by decide +kernel
theorem d_R_front_223 : decode c_R_front 223 = .ok (.aload_n 0, 1) := by decide +kernel
theorem d_R_front_224 : decode c_R_front 224 = .ok (.getfield 102, 3) := by decide +kernel
theorem d_R_front_227 : decode c_R_front 227 = .ok (.ldc 229, 2) := by decide +kernel
theorem d_R_front_229 : decode c_R_front 229 = .ok (.invokevirtual 129, 3) := by decide +kernel
theorem d_R_front_232 : decode c_R_front 232 = .ok (.ifCond .ne 7, 3) := by decide +kernel
theorem d_R_front_235 : decode c_R_front 235 = .ok (.iconst 1, 1) := by decide +kernel
theorem d_R_front_236 : decode c_R_front 236 = .ok (.goto 4, 3) := by decide +kernel
theorem d_R_front_239 : decode c_R_front 239 = .ok (.iconst 0, 1) := by decide +kernel
theorem d_R_front_240 : decode c_R_front 240 = .ok (.putfield 105, 3) := by decide +kernel
theorem d_R_front_243 : decode c_R_front 243 = .ok (.aload_n 0, 1) := by decide +kernel
theorem d_R_front_244 : decode c_R_front 244 = .ok (.invokevirtual 132, 3) := by decide +kernel
theorem d_R_front_247 : decode c_R_front 247 = .ok (.lload 5, 2) := by decide +kernel
theorem d_R_front_249 : decode c_R_front 249 = .ok (.lreturn, 1) := by decide +kernel
theorem d_R_front_250 : decode c_R_front 250 = .ok (.aload_n 0, 1) := by decide +kernel
theorem d_R_front_251 : decode c_R_front 251 = .ok (.iload_n 2, 1) := by decide +kernel
theorem d_R_front_252 : decode c_R_front 252 = .ok (.ldc 227, 2) := by decide +kernel
theorem d_R_front_254 : decode c_R_front 254 = .ok (.invokevirtual 129, 3) := by decide +kernel
theorem d_R_front_257 : decode c_R_front 257 = .ok (.ifCond .eq 21, 3) := by decide +kernel
theorem d_R_front_260 : decode c_R_front 260 = .ok (.aload_n 0, 1) := by decide +kernel
theorem d_R_front_261 : decode c_R_front 261 = .ok (.iconst 0, 1) := by decide +kernel
theorem d_R_front_262 : decode c_R_front 262 = .ok (.putfield 121, 3) := by decide +kernel
theorem d_R_front_265 : decode c_R_front 265 = .ok (.lload 5, 2) := by decide +kernel
theorem d_R_front_267 : decode c_R_front 267 = .ok (.lconst 0, 1) := by decide +kernel
theorem d_R_front_268 : decode c_R_front 268 = .ok (.lcmp, 1) := by decide +kernel
theorem d_R_front_269 : decode c_R_front 269 = .ok (.ifCond .ne 7, 3) := by decide +kernel
theorem d_R_front_272 : decode c_R_front 272 = .ok (.lconst 1, 1) := by decide +kernel
theorem d_R_front_273 : decode c_R_front 273 = .ok (.goto 4, 3) := by decide +kernel
theorem d_R_front_276 : decode c_R_front 276 = .ok (.lconst 0, 1) := by decide +kernel
theorem d_R_front_277 : decode c_R_front 277 = .ok (.lreturn, 1) := by decide +kernel
theorem d_R_front_278 : decode c_R_front 278 = .ok (.aload_n 0, 1) := by decide +kernel
theorem d_R_front_279 : decode c_R_front 279 = .ok (.iload_n 2, 1) := by decide +kernel
theorem d_R_front_280 : decode c_R_front 280 = .ok (.ldc 172, 2) := by decide +kernel
theorem d_R_front_282 : decode c_R_front 282 = .ok (.invokevirtual 129, 3) := by decide +kernel
theorem d_R_front_285 : decode c_R_front 285 = .ok (.ifCond .eq 9, 3) := by decide +kernel
theorem d_R_front_288 : decode c_R_front 288 = .ok (.lload 5, 2) := by decide +kernel
theorem d_R_front_290 : decode c_R_front 290 = .ok (.lneg, 1) := by decide +kernel
theorem d_R_front_291 : decode c_R_front 291 = .ok (.goto 24, 3) := by decide +kernel
theorem d_R_front_294 : decode c_R_front 294 = .ok (.aload_n 0, 1) := by decide +kernel
theorem d_R_front_295 : decode c_R_front 295 = .ok (.iload_n 2, 1) := by decide +kernel
theorem d_R_front_296 : decode c_R_front 296 = .ok (.ldc 225, 2) := by decide +kernel
theorem d_R_front_298 : decode c_R_front 298 = .ok (.invokevirtual 129, 3) := by decide +kernel
theorem d_R_front_301 : decode c_R_front 301 = .ok (.ifCond .eq 12, 3) := by decide +kernel
theorem d_R_front_304 : decode c_R_front 304 = .ok (.lload 5, 2) := by decide +kernel
theorem d_R_front_306 : decode c_R_front 306 = .ok (.ldc2_w 231, 3) := by decide +kernel
theorem d_R_front_309 : decode c_R_front 309 = .ok (.lxor, 1) := by decide +kernel
theorem d_R_front_310 : decode c_R_front 310 = .ok (.goto 5, 3) := by decide +kernel
theorem d_R_front_313 : decode c_R_front 313 = .ok (.lload 5, 2) := by decide +kernel
theorem d_R_front_315 : decode c_R_front 315 = .ok (.lreturn, 1) := by decide +kernel
theorem d_R_reckon_0 : decode c_R_reckon 0 = .ok (.aload_n 0, 1) := by decide +kernel
theorem d_R_reckon_1 : decode c_R_reckon 1 = .ok (.invokevirtual 87, 3) := by decide +kernel
theorem d_R_reckon_4 : decode c_R_reckon 4 = .ok (.aload_n 0, 1) := by decide +kernel
theorem d_R_reckon_5 : decode c_R_reckon 5 = .ok (.aload_n 0, 1) := by decide +kernel
theorem d_R_reckon_6 : decode c_R_reckon 6 = .ok (.getfield 73, 3) := by decide +kernel
theorem d_R_reckon_9 : decode c_R_reckon 9 = .ok (.ifCond .le 7, 3) := by decide +kernel
theorem d_R_reckon_12 : decode c_R_reckon 12 = .ok (.iconst 0, 1) := by decide +kernel
theorem d_R_reckon_13 : decode c_R_reckon 13 = .ok (.goto 4, 3) := by decide +kernel
theorem d_R_reckon_16 : decode c_R_reckon 16 = .ok (.iconst (-1), 1) := by decide +kernel
theorem d_R_reckon_17 : decode c_R_reckon 17 = .ok (.putfield 102, 3) := by decide +kernel
theorem d_R_reckon_20 : decode c_R_reckon 20 = .ok (.aload_n 0, 1) := by decide +kernel
theorem d_R_reckon_21 : decode c_R_reckon 21 = .ok (.iconst 0, 1) := by decide +kernel
theorem d_R_reckon_22 : decode c_R_reckon 22 = .ok (.putfield 105, 3) := by decide +kernel
theorem d_R_reckon_25 : decode c_R_reckon 25 = .ok (.aload_n 0, 1) := by decide +kernel
theorem d_R_reckon_26 : decode c_R_reckon 26 = .ok (.iconst 0, 1) := by decide +kernel
theorem d_R_reckon_27 : decode c_R_reckon 27 = .ok (.putfield 108, 3) := by decide +kernel
theorem d_R_reckon_30 : decode c_R_reckon 30 = .ok (.aload_n 0, 1) := by decide +kernel
theorem d_R_reckon_31 : decode c_R_reckon 31 = .ok (.iconst 0, 1) := by decide +kernel
theorem d_R_reckon_32 : decode c_R_reckon 32 = .ok (.putfield 111, 3) := by decide +kernel
theorem d_R_reckon_35 : decode c_R_reckon 35 = .ok (.aload_n 0, 1) := by decide +kernel
theorem d_R_reckon_36 : decode c_R_reckon 36 = .ok (.iconst 0, 1) := by decide +kernel
theorem d_R_reckon_37 : decode c_R_reckon 37 = .ok (.putfield 114, 3) := by decide +kernel
theorem d_R_reckon_40 : decode c_R_reckon 40 = .ok (.aload_n 0, 1) := by decide +kernel
theorem d_R_reckon_41 : decode c_R_reckon 41 = .ok (.iconst 1, 1) := by decide +kernel
theorem d_R_reckon_42 : decode c_R_reckon 42 = .ok (.invokevirtual 117, 3) := by decide +kernel
theorem d_R_reckon_45 : decode c_R_reckon 45 = .ok (.lstore_n 1, 1) := by decide +kernel
theorem d_R_reckon_46 : decode c_R_reckon 46 = .ok (.aload_n 0, 1) := by decide +kernel
theorem d_R_reckon_47 : decode c_R_reckon 47 = .ok (.getfield 105, 3) := by decide +kernel
theorem d_R_reckon_50 : decode c_R_reckon 50 = .ok (.ifCond .ne 10, 3) := by decide +kernel
theorem d_R_reckon_53 : decode c_R_reckon 53 = .ok (.aload_n 0, 1) := by decide +kernel
theorem d_R_reckon_54 : decode c_R_reckon 54 = .ok (.getfield 102, 3) := by decide +kernel
theorem d_R_reckon_57 : decode c_R_reckon 57 = .ok (.ifCond .lt 8, 3) := by decide +kernel
theorem d_R_reckon_60 : decode c_R_reckon 60 = .ok (.bipush 11, 2) := by decide +kernel
theorem d_R_reckon_62 : decode c_R_reckon 62 = .ok (.goto 16, 3) := by decide +kernel
theorem d_R_reckon_65 : decode c_R_reckon 65 = .ok (.aload_n 0, 1) := by decide +kernel
theorem d_R_reckon_66 : decode c_R_reckon 66 = .ok (.getfield 108, 3) := by decide +kernel
theorem d_R_reckon_69 : decode c_R_reckon 69 = .ok (.ifCond .eq 8, 3) := by decide +kernel
theorem d_R_reckon_72 : decode c_R_reckon 72 = .ok (.bipush 12, 2) := by decide +kernel
theorem d_R_reckon_74 : decode c_R_reckon 74 = .ok (.goto 4, 3) := by decide +kernel
theorem d_R_reckon_77 : decode c_R_reckon 77 = .ok (.iconst 0, 1) := by decide +kernel
theorem d_R_reckon_78 : decode c_R_reckon 78 = .ok (.istore_n 3, 1) := by decide +kernel
theorem d_R_reckon_79 : decode c_R_reckon 79 = .ok (.aload_n 0, 1) := by decide +kernel
theorem d_R_reckon_80 : decode c_R_reckon 80 = .ok (.iload_n 3, 1) := by decide +kernel
theorem d_R_reckon_81 : decode c_R_reckon 81 = .ok (.ifCond .ne 7, 3) := by decide +kernel
theorem d_R_reckon_84 : decode c_R_reckon 84 = .ok (.lload_n 1, 1) := by decide +kernel
theorem d_R_reckon_85 : decode c_R_reckon 85 = .ok (.goto 4, 3) := by decide +kernel
theorem d_R_reckon_88 : decode c_R_reckon 88 = .ok (.lconst 0, 1) := by decide +kernel
theorem d_R_reckon_89 : decode c_R_reckon 89 = .ok (.putfield 94, 3) := by decide +kernel
theorem d_R_reckon_92 : decode c_R_reckon 92 = .ok (.aload_n 0, 1) := by decide +kernel
theorem d_R_reckon_93 : decode c_R_reckon 93 = .ok (.iload_n 3, 1) := by decide +kernel
theorem d_R_reckon_94 : decode c_R_reckon 94 = .ok (.ifCond .ne 14, 3) := by decide +kernel
theorem d_R_reckon_97 : decode c_R_reckon 97 = .ok (.aload_n 0, 1) := by decide +kernel
theorem d_R_reckon_98 : decode c_R_reckon 98 = .ok (.getfield 121, 3) := by decide +kernel
theorem d_R_reckon_101 : decode c_R_reckon 101 = .ok (.ifCond .eq 7, 3) := by decide +kernel
theorem d_R_reckon_104 : decode c_R_reckon 104 = .ok (.iconst 1, 1) := by decide +kernel
theorem d_R_reckon_105 : decode c_R_reckon 105 = .ok (.goto 4, 3) := by decide +kernel
theorem d_R_reckon_108 : decode c_R_reckon 108 = .ok (.iconst 0, 1) := by decide +kernel
theorem d_R_reckon_109 : decode c_R_reckon 109 = .ok (.putfield 98, 3) := by decide +kernel
theorem d_R_reckon_112 : decode c_R_reckon 112 = .ok (.iload_n 3, 1) := by decide +kernel
theorem d_R_reckon_113 : decode c_R_reckon 113 = .ok (.ireturn, 1) := by decide +kernel
