/-! THE CLAIM OUT OF ONE WALK OF THE LAW'S BODY. Your part is whole_start (and what it stands on); all else here is the same for every law, but numbers. -/
def R_law : String := "ConditionMillLaw"
def lw_P (b : Addr) (xs : List Int32) (args : Array Value) (s : State) : Prop := args = #[.ref b] ∧ s.IntsAt b xs ∧ xs.length ≤ 2048 ∧ (Jvm.Cond.and given_1 narrow_1).before args s = true
def lw_Q (_ : Array Value) (s : State) (o : Outcome) (t : State) : Prop := o = .returned (some (.int 1)) ∧ Framed s o t [] 600000 7302250
def lw_Z (below : List Frame) (a : Array Value) (s : State) : State → Prop := fun t => ∃ o, t.status = .running ∧ Ended t below o ∧ lw_Q a s o t
/-- the law's own end, with 1 on the stack, nothing written that was there before, its room as the claim has it -/
theorem lw_ret {p : Program} {l : Launch} {e : Env} {s : State} {m : MethodId} {below : List Frame} {meth : Method} {c : Code} {b : Nat} (hx : p.tables.exec = Jvm.exec) (hb : c.code = code) (hr : meth.sig.returnType = ret) (hlocks : meth.locks = false) {pc : Nat} {H : Heap} {ls : Array Slot} (hdg : decode code pc = .ok (.ireturn, 1)) : W p l e room_1 s m #[Value.ref b] below meth c H [] 600000 7302250 (lw_Z below #[Value.ref b] s) (F0 m pc ls [.int 1]) := by
  intro T hT X
  obtain ⟨fs, hret, hrun, hended, hW, hframe⟩ := X.leave (v := some (.int 1)) (hlocks := hlocks) (fun h => by rw [hr] at h; cases h)
  have hmeth' : T.vm.method? m = some meth := X.method'
  refine ⟨T.setFrames fs, ?_, .returned (some (.int 1)), hrun, hended, rfl, ⟨_, rfl⟩, hW, hframe⟩
  jvm_step X.here [X.here.top, hx, hb, hdg, hmeth', hr, ret, narrow_b1]
  (try refine ⟨rfl, ?_⟩); (try refine ⟨rfl, ?_⟩)
  first | (intro acts; rw [hret _ acts rfl rfl rfl]) | rw [hret _ _ rfl rfl rfl]
  exact Steps.refl _
/-- what holds at the law's entry: the machine, the code, the tables' words (any of lw_tbl by 'hts w (by decide +kernel)'), the script of L ints xs at the cell b, what the Statement gives of the start (any of its parts by flat_of_before) -/
def lw_At (p : Program) (s : State) (m : MethodId) (meth : Method) (c : Code) (b L : Nat) (xs : Nat → Int32) : Prop :=
  p.tables.exec = Jvm.exec ∧ c.code = code ∧ meth.sig.returnType = ret ∧ c.maxLocals = 4 ∧ s.vm.findClass R_law = some m.cls ∧ (∀ w ∈ lw_tbl, w.before #[Value.ref b] s = true) ∧ va_X b L xs s s.heap ∧ b < s.heap.size ∧ meth.locks = false ∧ (Jvm.Cond.and given_1 narrow_1).before #[Value.ref b] s = true

abbrev c_Lw_law : ByteArray := code
theorem lx_0 : (.constantLong R_Lw 13 4294967295) ∈ TB := tb_i 744 (by decide +kernel) rfl
theorem lx_1 : (.methodLink R_Lw 15 y_M_feed) ∈ TB := tb_i 155 (by decide +kernel) rfl
theorem lx_2 : (.code y_M_feed c_M_feed 4 (some .int)) ∈ TB := tb_i 158 (by decide +kernel) rfl
theorem lx_3 : (.initialized R_M) ∈ TB := tb_i 1 (by decide +kernel) rfl
theorem lx_4 : (.instanceMethod y_M_feed) ∈ TB := tb_i 156 (by decide +kernel) rfl
theorem lx_5 : (.selects R_M y_M_feed y_M_feed) ∈ TB := tb_i 157 (by decide +kernel) rfl
theorem lx_6 : (.methodLink R_Lw 19 y_R_feed) ∈ TB := tb_i 516 (by decide +kernel) rfl
theorem lx_7 : (.code y_R_feed c_R_feed 5 (some .int)) ∈ TB := tb_i 519 (by decide +kernel) rfl
theorem lx_8 : (.initialized R_R) ∈ TB := tb_i 6 (by decide +kernel) rfl
theorem lx_9 : (.instanceMethod y_R_feed) ∈ TB := tb_i 517 (by decide +kernel) rfl
theorem lx_10 : (.selects R_R y_R_feed y_R_feed) ∈ TB := tb_i 518 (by decide +kernel) rfl
theorem lx_11 : (.methodLink R_Lw 20 y_M_cut) ∈ TB := tb_i 163 (by decide +kernel) rfl
theorem lx_12 : (.code y_M_cut c_M_cut 3 (some .int)) ∈ TB := tb_i 166 (by decide +kernel) rfl
theorem lx_13 : (.instanceMethod y_M_cut) ∈ TB := tb_i 164 (by decide +kernel) rfl
theorem lx_14 : (.selects R_M y_M_cut y_M_cut) ∈ TB := tb_i 165 (by decide +kernel) rfl
theorem lx_15 : (.methodLink R_Lw 24 y_R_cut) ∈ TB := tb_i 520 (by decide +kernel) rfl
theorem lx_16 : (.code y_R_cut c_R_cut 3 (some .int)) ∈ TB := tb_i 523 (by decide +kernel) rfl
theorem lx_17 : (.instanceMethod y_R_cut) ∈ TB := tb_i 521 (by decide +kernel) rfl
theorem lx_18 : (.selects R_R y_R_cut y_R_cut) ∈ TB := tb_i 522 (by decide +kernel) rfl
theorem lx_19 : (.methodLink R_Lw 25 y_M_reckon) ∈ TB := tb_i 167 (by decide +kernel) rfl
theorem lx_20 : (.code y_M_reckon c_M_reckon 3 (some .int)) ∈ TB := tb_i 170 (by decide +kernel) rfl
theorem lx_21 : (.instanceMethod y_M_reckon) ∈ TB := tb_i 168 (by decide +kernel) rfl
theorem lx_22 : (.selects R_M y_M_reckon y_M_reckon) ∈ TB := tb_i 169 (by decide +kernel) rfl
theorem lx_23 : (.methodLink R_Lw 29 y_R_reckon) ∈ TB := tb_i 604 (by decide +kernel) rfl
theorem lx_24 : (.code y_R_reckon c_R_reckon 4 (some .int)) ∈ TB := tb_i 607 (by decide +kernel) rfl
theorem lx_25 : (.instanceMethod y_R_reckon) ∈ TB := tb_i 605 (by decide +kernel) rfl
theorem lx_26 : (.selects R_R y_R_reckon y_R_reckon) ∈ TB := tb_i 606 (by decide +kernel) rfl
theorem lx_27 : (.methodLink R_Lw 30 y_M_value) ∈ TB := tb_i 443 (by decide +kernel) rfl
theorem lx_28 : (.code y_M_value c_M_value 1 (some .long)) ∈ TB := tb_i 446 (by decide +kernel) rfl
theorem lx_29 : (.instanceMethod y_M_value) ∈ TB := tb_i 444 (by decide +kernel) rfl
theorem lx_30 : (.selects R_M y_M_value y_M_value) ∈ TB := tb_i 445 (by decide +kernel) rfl
theorem lx_31 : (.methodLink R_Lw 34 y_R_value) ∈ TB := tb_i 596 (by decide +kernel) rfl
theorem lx_32 : (.code y_R_value c_R_value 1 (some .long)) ∈ TB := tb_i 599 (by decide +kernel) rfl
theorem lx_33 : (.instanceMethod y_R_value) ∈ TB := tb_i 597 (by decide +kernel) rfl
theorem lx_34 : (.selects R_R y_R_value y_R_value) ∈ TB := tb_i 598 (by decide +kernel) rfl
theorem lx_35 : (.methodLink R_Lw 35 y_M_isPlain) ∈ TB := tb_i 447 (by decide +kernel) rfl
theorem lx_36 : (.code y_M_isPlain c_M_isPlain 1 (some .boolean)) ∈ TB := tb_i 450 (by decide +kernel) rfl
theorem lx_37 : (.instanceMethod y_M_isPlain) ∈ TB := tb_i 448 (by decide +kernel) rfl
theorem lx_38 : (.selects R_M y_M_isPlain y_M_isPlain) ∈ TB := tb_i 449 (by decide +kernel) rfl
theorem lx_39 : (.methodLink R_Lw 39 y_R_isPlain) ∈ TB := tb_i 600 (by decide +kernel) rfl
theorem lx_40 : (.code y_R_isPlain c_R_isPlain 1 (some .boolean)) ∈ TB := tb_i 603 (by decide +kernel) rfl
theorem lx_41 : (.instanceMethod y_R_isPlain) ∈ TB := tb_i 601 (by decide +kernel) rfl
theorem lx_42 : (.selects R_R y_R_isPlain y_R_isPlain) ∈ TB := tb_i 602 (by decide +kernel) rfl
theorem lx_43 : (.methodLink R_Lw 40 y_M_tokens) ∈ TB := tb_i 451 (by decide +kernel) rfl
theorem lx_44 : (.code y_M_tokens c_M_tokens 2 (some .int)) ∈ TB := tb_i 454 (by decide +kernel) rfl
theorem lx_45 : (.instanceMethod y_M_tokens) ∈ TB := tb_i 452 (by decide +kernel) rfl
theorem lx_46 : (.selects R_M y_M_tokens y_M_tokens) ∈ TB := tb_i 453 (by decide +kernel) rfl
theorem lx_47 : (.methodLink R_Lw 43 y_R_tokens) ∈ TB := tb_i 524 (by decide +kernel) rfl
theorem lx_48 : (.code y_R_tokens c_R_tokens 1 (some .int)) ∈ TB := tb_i 527 (by decide +kernel) rfl
theorem lx_49 : (.instanceMethod y_R_tokens) ∈ TB := tb_i 525 (by decide +kernel) rfl
theorem lx_50 : (.selects R_R y_R_tokens y_R_tokens) ∈ TB := tb_i 526 (by decide +kernel) rfl
theorem lx_51 : (.methodLink R_Lw 44 y_M_token) ∈ TB := tb_i 457 (by decide +kernel) rfl
theorem lx_52 : (.code y_M_token c_M_token 4 (some .int)) ∈ TB := tb_i 460 (by decide +kernel) rfl
theorem lx_53 : (.instanceMethod y_M_token) ∈ TB := tb_i 458 (by decide +kernel) rfl
theorem lx_54 : (.selects R_M y_M_token y_M_token) ∈ TB := tb_i 459 (by decide +kernel) rfl
theorem lx_55 : (.methodLink R_Lw 48 y_R_token) ∈ TB := tb_i 583 (by decide +kernel) rfl
theorem lx_56 : (.code y_R_token c_R_token 3 (some .int)) ∈ TB := tb_i 586 (by decide +kernel) rfl
theorem lx_57 : (.instanceMethod y_R_token) ∈ TB := tb_i 584 (by decide +kernel) rfl
theorem lx_58 : (.selects R_R y_R_token y_R_token) ∈ TB := tb_i 585 (by decide +kernel) rfl

theorem d_Lw_law_0 : decode c_Lw_law 0 = .ok (.new 7, 3) := by decide +kernel
theorem d_Lw_law_3 : decode c_Lw_law 3 = .ok (.dup, 1) := by decide +kernel
theorem d_Lw_law_4 : decode c_Lw_law 4 = .ok (.invokespecial 9, 3) := by decide +kernel
theorem d_Lw_law_7 : decode c_Lw_law 7 = .ok (.astore_n 1, 1) := by decide +kernel
theorem d_Lw_law_8 : decode c_Lw_law 8 = .ok (.new 10, 3) := by decide +kernel
theorem d_Lw_law_11 : decode c_Lw_law 11 = .ok (.dup, 1) := by decide +kernel
theorem d_Lw_law_12 : decode c_Lw_law 12 = .ok (.invokespecial 12, 3) := by decide +kernel
theorem d_Lw_law_15 : decode c_Lw_law 15 = .ok (.astore_n 2, 1) := by decide +kernel
theorem d_Lw_law_16 : decode c_Lw_law 16 = .ok (.iconst 0, 1) := by decide +kernel
theorem d_Lw_law_17 : decode c_Lw_law 17 = .ok (.istore_n 3, 1) := by decide +kernel
theorem d_Lw_law_18 : decode c_Lw_law 18 = .ok (.iload_n 3, 1) := by decide +kernel
theorem d_Lw_law_19 : decode c_Lw_law 19 = .ok (.aload_n 0, 1) := by decide +kernel
theorem d_Lw_law_20 : decode c_Lw_law 20 = .ok (.arraylength, 1) := by decide +kernel
theorem d_Lw_law_21 : decode c_Lw_law 21 = .ok (.iconst 4, 1) := by decide +kernel
theorem d_Lw_law_22 : decode c_Lw_law 22 = .ok (.isub, 1) := by decide +kernel
theorem d_Lw_law_23 : decode c_Lw_law 23 = .ok (.if_icmp .gt 231, 3) := by decide +kernel
theorem d_Lw_law_26 : decode c_Lw_law 26 = .ok (.aload_n 0, 1) := by decide +kernel
theorem d_Lw_law_27 : decode c_Lw_law 27 = .ok (.iload_n 3, 1) := by decide +kernel
theorem d_Lw_law_28 : decode c_Lw_law 28 = .ok (.iaload, 1) := by decide +kernel
theorem d_Lw_law_29 : decode c_Lw_law 29 = .ok (.bipush 7, 2) := by decide +kernel
theorem d_Lw_law_31 : decode c_Lw_law 31 = .ok (.iand, 1) := by decide +kernel
theorem d_Lw_law_32 : decode c_Lw_law 32 = .ok (.tableswitch 216 0 6 #[44, 107, 130, 143, 157, 170, 183], 44) := by decide +kernel
theorem d_Lw_law_76 : decode c_Lw_law 76 = .ok (.aload_n 1, 1) := by decide +kernel
theorem d_Lw_law_77 : decode c_Lw_law 77 = .ok (.aload_n 0, 1) := by decide +kernel
theorem d_Lw_law_78 : decode c_Lw_law 78 = .ok (.iload_n 3, 1) := by decide +kernel
theorem d_Lw_law_79 : decode c_Lw_law 79 = .ok (.iconst 1, 1) := by decide +kernel
theorem d_Lw_law_80 : decode c_Lw_law 80 = .ok (.iadd, 1) := by decide +kernel
theorem d_Lw_law_81 : decode c_Lw_law 81 = .ok (.iaload, 1) := by decide +kernel
theorem d_Lw_law_82 : decode c_Lw_law 82 = .ok (.i2l, 1) := by decide +kernel
theorem d_Lw_law_83 : decode c_Lw_law 83 = .ok (.bipush 32, 2) := by decide +kernel
theorem d_Lw_law_85 : decode c_Lw_law 85 = .ok (.lshl, 1) := by decide +kernel
theorem d_Lw_law_86 : decode c_Lw_law 86 = .ok (.aload_n 0, 1) := by decide +kernel
theorem d_Lw_law_87 : decode c_Lw_law 87 = .ok (.iload_n 3, 1) := by decide +kernel
theorem d_Lw_law_88 : decode c_Lw_law 88 = .ok (.iconst 2, 1) := by decide +kernel
theorem d_Lw_law_89 : decode c_Lw_law 89 = .ok (.iadd, 1) := by decide +kernel
theorem d_Lw_law_90 : decode c_Lw_law 90 = .ok (.iaload, 1) := by decide +kernel
theorem d_Lw_law_91 : decode c_Lw_law 91 = .ok (.i2l, 1) := by decide +kernel
theorem d_Lw_law_92 : decode c_Lw_law 92 = .ok (.ldc2_w 13, 3) := by decide +kernel
theorem d_Lw_law_95 : decode c_Lw_law 95 = .ok (.land, 1) := by decide +kernel
theorem d_Lw_law_96 : decode c_Lw_law 96 = .ok (.lor, 1) := by decide +kernel
theorem d_Lw_law_97 : decode c_Lw_law 97 = .ok (.aload_n 0, 1) := by decide +kernel
theorem d_Lw_law_98 : decode c_Lw_law 98 = .ok (.iload_n 3, 1) := by decide +kernel
theorem d_Lw_law_99 : decode c_Lw_law 99 = .ok (.iconst 3, 1) := by decide +kernel
theorem d_Lw_law_100 : decode c_Lw_law 100 = .ok (.iadd, 1) := by decide +kernel
theorem d_Lw_law_101 : decode c_Lw_law 101 = .ok (.iaload, 1) := by decide +kernel
theorem d_Lw_law_102 : decode c_Lw_law 102 = .ok (.invokevirtual 15, 3) := by decide +kernel
theorem d_Lw_law_105 : decode c_Lw_law 105 = .ok (.aload_n 2, 1) := by decide +kernel
theorem d_Lw_law_106 : decode c_Lw_law 106 = .ok (.aload_n 0, 1) := by decide +kernel
theorem d_Lw_law_107 : decode c_Lw_law 107 = .ok (.iload_n 3, 1) := by decide +kernel
theorem d_Lw_law_108 : decode c_Lw_law 108 = .ok (.iconst 1, 1) := by decide +kernel
theorem d_Lw_law_109 : decode c_Lw_law 109 = .ok (.iadd, 1) := by decide +kernel
theorem d_Lw_law_110 : decode c_Lw_law 110 = .ok (.iaload, 1) := by decide +kernel
theorem d_Lw_law_111 : decode c_Lw_law 111 = .ok (.i2l, 1) := by decide +kernel
theorem d_Lw_law_112 : decode c_Lw_law 112 = .ok (.bipush 32, 2) := by decide +kernel
theorem d_Lw_law_114 : decode c_Lw_law 114 = .ok (.lshl, 1) := by decide +kernel
theorem d_Lw_law_115 : decode c_Lw_law 115 = .ok (.aload_n 0, 1) := by decide +kernel
theorem d_Lw_law_116 : decode c_Lw_law 116 = .ok (.iload_n 3, 1) := by decide +kernel
theorem d_Lw_law_117 : decode c_Lw_law 117 = .ok (.iconst 2, 1) := by decide +kernel
theorem d_Lw_law_118 : decode c_Lw_law 118 = .ok (.iadd, 1) := by decide +kernel
theorem d_Lw_law_119 : decode c_Lw_law 119 = .ok (.iaload, 1) := by decide +kernel
theorem d_Lw_law_120 : decode c_Lw_law 120 = .ok (.i2l, 1) := by decide +kernel
theorem d_Lw_law_121 : decode c_Lw_law 121 = .ok (.ldc2_w 13, 3) := by decide +kernel
theorem d_Lw_law_124 : decode c_Lw_law 124 = .ok (.land, 1) := by decide +kernel
theorem d_Lw_law_125 : decode c_Lw_law 125 = .ok (.lor, 1) := by decide +kernel
theorem d_Lw_law_126 : decode c_Lw_law 126 = .ok (.aload_n 0, 1) := by decide +kernel
theorem d_Lw_law_127 : decode c_Lw_law 127 = .ok (.iload_n 3, 1) := by decide +kernel
theorem d_Lw_law_128 : decode c_Lw_law 128 = .ok (.iconst 3, 1) := by decide +kernel
theorem d_Lw_law_129 : decode c_Lw_law 129 = .ok (.iadd, 1) := by decide +kernel
theorem d_Lw_law_130 : decode c_Lw_law 130 = .ok (.iaload, 1) := by decide +kernel
theorem d_Lw_law_131 : decode c_Lw_law 131 = .ok (.invokevirtual 19, 3) := by decide +kernel
theorem d_Lw_law_134 : decode c_Lw_law 134 = .ok (.if_icmp .eq 114, 3) := by decide +kernel
theorem d_Lw_law_137 : decode c_Lw_law 137 = .ok (.iconst 0, 1) := by decide +kernel
theorem d_Lw_law_138 : decode c_Lw_law 138 = .ok (.ireturn, 1) := by decide +kernel
theorem d_Lw_law_139 : decode c_Lw_law 139 = .ok (.aload_n 1, 1) := by decide +kernel
theorem d_Lw_law_140 : decode c_Lw_law 140 = .ok (.aload_n 0, 1) := by decide +kernel
theorem d_Lw_law_141 : decode c_Lw_law 141 = .ok (.iload_n 3, 1) := by decide +kernel
theorem d_Lw_law_142 : decode c_Lw_law 142 = .ok (.iconst 1, 1) := by decide +kernel
theorem d_Lw_law_143 : decode c_Lw_law 143 = .ok (.iadd, 1) := by decide +kernel
theorem d_Lw_law_144 : decode c_Lw_law 144 = .ok (.iaload, 1) := by decide +kernel
theorem d_Lw_law_145 : decode c_Lw_law 145 = .ok (.invokevirtual 20, 3) := by decide +kernel
theorem d_Lw_law_148 : decode c_Lw_law 148 = .ok (.aload_n 2, 1) := by decide +kernel
theorem d_Lw_law_149 : decode c_Lw_law 149 = .ok (.aload_n 0, 1) := by decide +kernel
theorem d_Lw_law_150 : decode c_Lw_law 150 = .ok (.iload_n 3, 1) := by decide +kernel
theorem d_Lw_law_151 : decode c_Lw_law 151 = .ok (.iconst 1, 1) := by decide +kernel
theorem d_Lw_law_152 : decode c_Lw_law 152 = .ok (.iadd, 1) := by decide +kernel
theorem d_Lw_law_153 : decode c_Lw_law 153 = .ok (.iaload, 1) := by decide +kernel
theorem d_Lw_law_154 : decode c_Lw_law 154 = .ok (.invokevirtual 24, 3) := by decide +kernel
theorem d_Lw_law_157 : decode c_Lw_law 157 = .ok (.if_icmp .eq 91, 3) := by decide +kernel
theorem d_Lw_law_160 : decode c_Lw_law 160 = .ok (.iconst 0, 1) := by decide +kernel
theorem d_Lw_law_161 : decode c_Lw_law 161 = .ok (.ireturn, 1) := by decide +kernel
theorem d_Lw_law_162 : decode c_Lw_law 162 = .ok (.aload_n 1, 1) := by decide +kernel
theorem d_Lw_law_163 : decode c_Lw_law 163 = .ok (.invokevirtual 25, 3) := by decide +kernel
theorem d_Lw_law_166 : decode c_Lw_law 166 = .ok (.aload_n 2, 1) := by decide +kernel
theorem d_Lw_law_167 : decode c_Lw_law 167 = .ok (.invokevirtual 29, 3) := by decide +kernel
theorem d_Lw_law_170 : decode c_Lw_law 170 = .ok (.if_icmp .eq 78, 3) := by decide +kernel
theorem d_Lw_law_173 : decode c_Lw_law 173 = .ok (.iconst 0, 1) := by decide +kernel
theorem d_Lw_law_174 : decode c_Lw_law 174 = .ok (.ireturn, 1) := by decide +kernel
theorem d_Lw_law_175 : decode c_Lw_law 175 = .ok (.aload_n 1, 1) := by decide +kernel
theorem d_Lw_law_176 : decode c_Lw_law 176 = .ok (.invokevirtual 30, 3) := by decide +kernel
theorem d_Lw_law_179 : decode c_Lw_law 179 = .ok (.aload_n 2, 1) := by decide +kernel
theorem d_Lw_law_180 : decode c_Lw_law 180 = .ok (.invokevirtual 34, 3) := by decide +kernel
theorem d_Lw_law_183 : decode c_Lw_law 183 = .ok (.lcmp, 1) := by decide +kernel
theorem d_Lw_law_184 : decode c_Lw_law 184 = .ok (.ifCond .eq 64, 3) := by decide +kernel
theorem d_Lw_law_187 : decode c_Lw_law 187 = .ok (.iconst 0, 1) := by decide +kernel
theorem d_Lw_law_188 : decode c_Lw_law 188 = .ok (.ireturn, 1) := by decide +kernel
theorem d_Lw_law_189 : decode c_Lw_law 189 = .ok (.aload_n 1, 1) := by decide +kernel
theorem d_Lw_law_190 : decode c_Lw_law 190 = .ok (.invokevirtual 35, 3) := by decide +kernel
theorem d_Lw_law_193 : decode c_Lw_law 193 = .ok (.aload_n 2, 1) := by decide +kernel
theorem d_Lw_law_194 : decode c_Lw_law 194 = .ok (.invokevirtual 39, 3) := by decide +kernel
theorem d_Lw_law_197 : decode c_Lw_law 197 = .ok (.if_icmp .eq 51, 3) := by decide +kernel
theorem d_Lw_law_200 : decode c_Lw_law 200 = .ok (.iconst 0, 1) := by decide +kernel
theorem d_Lw_law_201 : decode c_Lw_law 201 = .ok (.ireturn, 1) := by decide +kernel
theorem d_Lw_law_202 : decode c_Lw_law 202 = .ok (.aload_n 1, 1) := by decide +kernel
theorem d_Lw_law_203 : decode c_Lw_law 203 = .ok (.invokevirtual 40, 3) := by decide +kernel
theorem d_Lw_law_206 : decode c_Lw_law 206 = .ok (.aload_n 2, 1) := by decide +kernel
theorem d_Lw_law_207 : decode c_Lw_law 207 = .ok (.invokevirtual 43, 3) := by decide +kernel
theorem d_Lw_law_210 : decode c_Lw_law 210 = .ok (.if_icmp .eq 38, 3) := by decide +kernel
theorem d_Lw_law_213 : decode c_Lw_law 213 = .ok (.iconst 0, 1) := by decide +kernel
theorem d_Lw_law_214 : decode c_Lw_law 214 = .ok (.ireturn, 1) := by decide +kernel
theorem d_Lw_law_215 : decode c_Lw_law 215 = .ok (.aload_n 1, 1) := by decide +kernel
theorem d_Lw_law_216 : decode c_Lw_law 216 = .ok (.aload_n 0, 1) := by decide +kernel
theorem d_Lw_law_217 : decode c_Lw_law 217 = .ok (.iload_n 3, 1) := by decide +kernel
theorem d_Lw_law_218 : decode c_Lw_law 218 = .ok (.iconst 1, 1) := by decide +kernel
theorem d_Lw_law_219 : decode c_Lw_law 219 = .ok (.iadd, 1) := by decide +kernel
theorem d_Lw_law_220 : decode c_Lw_law 220 = .ok (.iaload, 1) := by decide +kernel
theorem d_Lw_law_221 : decode c_Lw_law 221 = .ok (.aload_n 0, 1) := by decide +kernel
theorem d_Lw_law_222 : decode c_Lw_law 222 = .ok (.iload_n 3, 1) := by decide +kernel
theorem d_Lw_law_223 : decode c_Lw_law 223 = .ok (.iconst 2, 1) := by decide +kernel
theorem d_Lw_law_224 : decode c_Lw_law 224 = .ok (.iadd, 1) := by decide +kernel
theorem d_Lw_law_225 : decode c_Lw_law 225 = .ok (.iaload, 1) := by decide +kernel
theorem d_Lw_law_226 : decode c_Lw_law 226 = .ok (.invokevirtual 44, 3) := by decide +kernel
theorem d_Lw_law_229 : decode c_Lw_law 229 = .ok (.aload_n 2, 1) := by decide +kernel
theorem d_Lw_law_230 : decode c_Lw_law 230 = .ok (.aload_n 0, 1) := by decide +kernel
theorem d_Lw_law_231 : decode c_Lw_law 231 = .ok (.iload_n 3, 1) := by decide +kernel
theorem d_Lw_law_232 : decode c_Lw_law 232 = .ok (.iconst 1, 1) := by decide +kernel
theorem d_Lw_law_233 : decode c_Lw_law 233 = .ok (.iadd, 1) := by decide +kernel
theorem d_Lw_law_234 : decode c_Lw_law 234 = .ok (.iaload, 1) := by decide +kernel
theorem d_Lw_law_235 : decode c_Lw_law 235 = .ok (.aload_n 0, 1) := by decide +kernel
theorem d_Lw_law_236 : decode c_Lw_law 236 = .ok (.iload_n 3, 1) := by decide +kernel
theorem d_Lw_law_237 : decode c_Lw_law 237 = .ok (.iconst 2, 1) := by decide +kernel
theorem d_Lw_law_238 : decode c_Lw_law 238 = .ok (.iadd, 1) := by decide +kernel
theorem d_Lw_law_239 : decode c_Lw_law 239 = .ok (.iaload, 1) := by decide +kernel
theorem d_Lw_law_240 : decode c_Lw_law 240 = .ok (.invokevirtual 48, 3) := by decide +kernel
theorem d_Lw_law_243 : decode c_Lw_law 243 = .ok (.if_icmp .eq 5, 3) := by decide +kernel
theorem d_Lw_law_246 : decode c_Lw_law 246 = .ok (.iconst 0, 1) := by decide +kernel
theorem d_Lw_law_247 : decode c_Lw_law 247 = .ok (.ireturn, 1) := by decide +kernel
theorem d_Lw_law_248 : decode c_Lw_law 248 = .ok (.iinc 3 4, 3) := by decide +kernel
theorem d_Lw_law_251 : decode c_Lw_law 251 = .ok (.goto (-233), 3) := by decide +kernel
theorem d_Lw_law_254 : decode c_Lw_law 254 = .ok (.iconst 1, 1) := by decide +kernel
theorem d_Lw_law_255 : decode c_Lw_law 255 = .ok (.ireturn, 1) := by decide +kernel

abbrev wd_Lw_law (ad : Nat → Nat) (ck : Nat → ClassId) (lAmt : Int64) (lPl : Int32) (size : Int32) (row : Nat → Int32) (start : Int32) (fin : Int32) (kind : Int32) (oT : Int32) (oC : Int32) (amt : Int64) (pln : Int32) (wait : Int32) (held : Int32) (nest : Int32) (skp : Int32) (fmd : Int32) (dvd : Int32) (signs : Nat → Int32) (strs : Nat → Int32) (skips : Nat → Int32) (amts : Nat → Int64) (plns : Nat → Int32) (rsize : Int32) (rval : Int64) (risP : Int32) (cnt : Int32) (look : Int32) (bad : Int32) (byZ : Int32) (inr : Int32) (rpl : Int32) (hld : Int32) (store : Nat → Int32) (tAt : Nat → Int32) (tSz : Nat → Int32) (hSg : Nat → Int32) (hVl : Nat → Int64) (hPl : Nat → Int32) : va_W := [(ad 0, .inr (4, [.ref (ad 1), .ref (ad 3), .ref (ad 5), .long lAmt, .int lPl])), (ad 1, .inr (2, [.ref (ad 2), .int size])), (ad 2, .inl (ck 0, 4096, .inl row)), (ad 3, .inr (3, [.ref (ad 1), .int start, .int fin, .int kind, .int oT, .int oC])), (ad 4, .inr (0, [.ref (ad 1), .long amt, .int pln])), (ad 5, .inr (1, [.ref (ad 3), .ref (ad 4), .ref (ad 6), .ref (ad 7), .ref (ad 8), .ref (ad 9), .ref (ad 10), .int wait, .int held, .int nest, .int skp, .int fmd, .int dvd])), (ad 6, .inl (ck 1, 670, .inl signs)), (ad 7, .inl (ck 2, 670, .inl strs)), (ad 8, .inl (ck 3, 670, .inl skips)), (ad 9, .inl (ck 4, 671, .inr (.inl amts))), (ad 10, .inl (ck 5, 671, .inl plns)), (ad 11, .inr (5, [.int rsize, .ref (ad 12), .long rval, .int risP, .int cnt, .ref (ad 13), .ref (ad 14), .int look, .int bad, .int byZ, .int inr, .int rpl, .int hld, .ref (ad 15), .ref (ad 16), .ref (ad 17)])), (ad 12, .inl (ck 6, 4096, .inl store)), (ad 13, .inl (ck 7, 4096, .inl tAt)), (ad 14, .inl (ck 8, 4096, .inl tSz)), (ad 15, .inl (ck 9, 800, .inl hSg)), (ad 16, .inl (ck 10, 800, .inr (.inl hVl))), (ad 17, .inl (ck 11, 800, .inl hPl))]
def w_Lw_law_18 (xs : Nat → Int32) (L : Nat) (post : Unit)  : Nat → Int32 → Int64 → Int32 → Int32 → (Nat → Int32) → Int32 → Int32 → Int32 → Int32 → Int32 → Int64 → Int32 → Int32 → Int32 → Int32 → Int32 → Int32 → Int32 → (Nat → Int32) → (Nat → Int32) → (Nat → Int32) → (Nat → Int64) → (Nat → Int32) → Int32 → Int64 → Int32 → Int32 → Int32 → Int32 → Int32 → Int32 → Int32 → Int32 → (Nat → Int32) → (Nat → Int32) → (Nat → Int32) → (Nat → Int32) → (Nat → Int64) → (Nat → Int32) → Prop
  | 0 => fun _ _ _ _ _ _ _ _ _ _ _ _ _ _ _ _ _ _ _ _ _ _ _ _ _ _ _ _ _ _ _ _ _ _ _ _ _ _ _ => False
  | n + 1 => fun x3 lAmt lPl size row start fin kind oT oC amt pln wait held nest skp fmd dvd signs strs skips amts plns rsize rval risP cnt look bad byZ inr rpl hld store tAt tSz hSg hVl hPl => (((Int32.ofNat L) - 4) < x3 → (True)) ∧ (¬ ((Int32.ofNat L) - 4) < x3 → (vp_in x3 L ∧ ((((xs x3.toNatClampNeg) &&& 7) = 0 → (vp_in (x3 + 1) L ∧ (vp_in (x3 + 2) L ∧ (vp_in (x3 + 3) L ∧ (wp_M_feed (fun (r_7 : Int32) (size_8 : Int32) (row_9 : Nat → Int32) => vp_in (x3 + 1) L ∧ (vp_in (x3 + 2) L ∧ (vp_in (x3 + 3) L ∧ (wp_R_feed (fun (r_13 : Int32) (rsize_14 : Int32) (store_15 : Nat → Int32) => (r_7 = r_13 → (∀ x3_17 : Int32, x3_17 = x3 + 4 → (w_Lw_law_18 xs L post  n x3_17 lAmt lPl size_8 row_9 start fin kind oT oC amt pln wait held nest skp fmd dvd signs strs skips amts plns rsize_14 rval risP cnt look bad byZ inr rpl hld store_15 tAt tSz hSg hVl hPl))) ∧ (¬ r_7 = r_13 → (False))) rsize rval risP cnt look bad byZ inr rpl hld store ((((xs (x3 + 1).toNatClampNeg).toInt64) <<< ((32 : Int32).toInt64 &&& 63)) ||| (((xs (x3 + 2).toNatClampNeg).toInt64) &&& 4294967295)) (xs (x3 + 3).toNatClampNeg))))) lAmt lPl size row ((((xs (x3 + 1).toNatClampNeg).toInt64) <<< ((32 : Int32).toInt64 &&& 63)) ||| (((xs (x3 + 2).toNatClampNeg).toInt64) &&& 4294967295)) (xs (x3 + 3).toNatClampNeg)))))) ∧ (¬ ((xs x3.toNatClampNeg) &&& 7) = 0 → ((((xs x3.toNatClampNeg) &&& 7) = 1 → (vp_in (x3 + 1) L ∧ (wp_M_cut (fun (r_20 : Int32) (size_21 : Int32) => vp_in (x3 + 1) L ∧ (wp_R_cut (fun (r_23 : Int32) (rsize_24 : Int32) => (r_20 = r_23 → (∀ x3_26 : Int32, x3_26 = x3 + 4 → (w_Lw_law_18 xs L post  n x3_26 lAmt lPl size_21 row start fin kind oT oC amt pln wait held nest skp fmd dvd signs strs skips amts plns rsize_24 rval risP cnt look bad byZ inr rpl hld store tAt tSz hSg hVl hPl))) ∧ (¬ r_20 = r_23 → (False))) rsize rval risP cnt look bad byZ inr rpl hld (xs (x3 + 1).toNatClampNeg))) lAmt lPl size (xs (x3 + 1).toNatClampNeg)))) ∧ (¬ ((xs x3.toNatClampNeg) &&& 7) = 1 → ((((xs x3.toNatClampNeg) &&& 7) = 2 → (wp_M_reckon (fun (r_28 : Int32) (lAmt_29 : Int64) (lPl_30 : Int32) (start_31 : Int32) (fin_32 : Int32) (kind_33 : Int32) (oT_34 : Int32) (oC_35 : Int32) (amt_36 : Int64) (pln_37 : Int32) (wait_38 : Int32) (held_39 : Int32) (nest_40 : Int32) (skp_41 : Int32) (fmd_42 : Int32) (dvd_43 : Int32) (signs_44 : Nat → Int32) (strs_45 : Nat → Int32) (skips_46 : Nat → Int32) (amts_47 : Nat → Int64) (plns_48 : Nat → Int32) => wp_R_reckon (fun (r_49 : Int32) (rval_50 : Int64) (risP_51 : Int32) (cnt_52 : Int32) (look_53 : Int32) (bad_54 : Int32) (byZ_55 : Int32) (inr_56 : Int32) (rpl_57 : Int32) (hld_58 : Int32) (tAt_59 : Nat → Int32) (tSz_60 : Nat → Int32) (hSg_61 : Nat → Int32) (hVl_62 : Nat → Int64) (hPl_63 : Nat → Int32) => (r_28 = r_49 → (∀ x3_65 : Int32, x3_65 = x3 + 4 → (w_Lw_law_18 xs L post  n x3_65 lAmt_29 lPl_30 size row start_31 fin_32 kind_33 oT_34 oC_35 amt_36 pln_37 wait_38 held_39 nest_40 skp_41 fmd_42 dvd_43 signs_44 strs_45 skips_46 amts_47 plns_48 rsize rval_50 risP_51 cnt_52 look_53 bad_54 byZ_55 inr_56 rpl_57 hld_58 store tAt_59 tSz_60 hSg_61 hVl_62 hPl_63))) ∧ (¬ r_28 = r_49 → (False))) rsize rval risP cnt look bad byZ inr rpl hld store tAt tSz hSg hVl hPl) lAmt lPl size row start fin kind oT oC amt pln wait held nest skp fmd dvd signs strs skips amts plns)) ∧ (¬ ((xs x3.toNatClampNeg) &&& 7) = 2 → ((((xs x3.toNatClampNeg) &&& 7) = 3 → (wp_M_value (fun (r_67 : Int64) => wp_R_value (fun (r_68 : Int64) => ((lg_cmp r_67 r_68) = 0 → (∀ x3_70 : Int32, x3_70 = x3 + 4 → (w_Lw_law_18 xs L post  n x3_70 lAmt lPl size row start fin kind oT oC amt pln wait held nest skp fmd dvd signs strs skips amts plns rsize rval risP cnt look bad byZ inr rpl hld store tAt tSz hSg hVl hPl))) ∧ (¬ (lg_cmp r_67 r_68) = 0 → (False))) rsize rval risP cnt look bad byZ inr rpl hld) lAmt lPl)) ∧ (¬ ((xs x3.toNatClampNeg) &&& 7) = 3 → ((((xs x3.toNatClampNeg) &&& 7) = 4 → (wp_M_isPlain (fun (r_72 : Int32) => wp_R_isPlain (fun (r_73 : Int32) => (r_72 = r_73 → (∀ x3_75 : Int32, x3_75 = x3 + 4 → (w_Lw_law_18 xs L post  n x3_75 lAmt lPl size row start fin kind oT oC amt pln wait held nest skp fmd dvd signs strs skips amts plns rsize rval risP cnt look bad byZ inr rpl hld store tAt tSz hSg hVl hPl))) ∧ (¬ r_72 = r_73 → (False))) rsize rval risP cnt look bad byZ inr rpl hld) lAmt lPl)) ∧ (¬ ((xs x3.toNatClampNeg) &&& 7) = 4 → ((((xs x3.toNatClampNeg) &&& 7) = 5 → (wp_M_tokens (fun (r_77 : Int32) (start_78 : Int32) (fin_79 : Int32) (kind_80 : Int32) (oT_81 : Int32) (oC_82 : Int32) => wp_R_tokens (fun (r_83 : Int32) (cnt_84 : Int32) (tAt_85 : Nat → Int32) (tSz_86 : Nat → Int32) => (r_77 = r_83 → (∀ x3_88 : Int32, x3_88 = x3 + 4 → (w_Lw_law_18 xs L post  n x3_88 lAmt lPl size row start_78 fin_79 kind_80 oT_81 oC_82 amt pln wait held nest skp fmd dvd signs strs skips amts plns rsize rval risP cnt_84 look bad byZ inr rpl hld store tAt_85 tSz_86 hSg hVl hPl))) ∧ (¬ r_77 = r_83 → (False))) rsize rval risP cnt look bad byZ inr rpl hld store tAt tSz) lAmt lPl size row start fin kind oT oC)) ∧ (¬ ((xs x3.toNatClampNeg) &&& 7) = 5 → ((((xs x3.toNatClampNeg) &&& 7) = 6 → (vp_in (x3 + 1) L ∧ (vp_in (x3 + 2) L ∧ (wp_M_token (fun (r_92 : Int32) (start_93 : Int32) (fin_94 : Int32) (kind_95 : Int32) (oT_96 : Int32) (oC_97 : Int32) => vp_in (x3 + 1) L ∧ (vp_in (x3 + 2) L ∧ (wp_R_token (fun (r_100 : Int32) (cnt_101 : Int32) (tAt_102 : Nat → Int32) (tSz_103 : Nat → Int32) => (r_92 = r_100 → (∀ x3_105 : Int32, x3_105 = x3 + 4 → (w_Lw_law_18 xs L post  n x3_105 lAmt lPl size row start_93 fin_94 kind_95 oT_96 oC_97 amt pln wait held nest skp fmd dvd signs strs skips amts plns rsize rval risP cnt_101 look bad byZ inr rpl hld store tAt_102 tSz_103 hSg hVl hPl))) ∧ (¬ r_92 = r_100 → (False))) rsize rval risP cnt look bad byZ inr rpl hld store tAt tSz (xs (x3 + 1).toNatClampNeg) (xs (x3 + 2).toNatClampNeg)))) lAmt lPl size row start fin kind oT oC (xs (x3 + 1).toNatClampNeg) (xs (x3 + 2).toNatClampNeg))))) ∧ (¬ ((xs x3.toNatClampNeg) &&& 7) = 6 → (∀ x3_106 : Int32, x3_106 = x3 + 4 → (w_Lw_law_18 xs L post  n x3_106 lAmt lPl size row start fin kind oT oC amt pln wait held nest skp fmd dvd signs strs skips amts plns rsize rval risP cnt look bad byZ inr rpl hld store tAt tSz hSg hVl hPl))))))))))))))))))
set_option maxHeartbeats 4000000 in
set_option maxRecDepth 100000 in
theorem kl_loop {p : Program} {e : Env} {s : State} {m : MethodId} {below : List Frame} {meth : Method} {c : Code} (l : Launch) {b L : Nat} {xs : Nat → Int32} {dC : Nat → ClassId} {dI : Nat → Nat → Nat} {ad : Nat → Nat} {ck : Nat → ClassId} {sk sa sv : Nat → Nat} {sf : Option Nat} {A : Nat → Prop} (post : Unit) (C0 : lw_At p s m meth c b L xs) (hA : ∀ q, s.heap.size ≤ q → A q) (hA2 : ∀ q, A q → s.heap.size ≤ q) (hbA : ¬ A b) (hKm : va_K (dC, dI) vwCl (TYm ck) s) (hKr : va_K (dC, dI) vwCl (TYr ck) s) (hXm : XM sk A s s.heap) (hXr : XR sa sv sf A s s.heap) : ∀  (n : Nat) (x3 : Int32) (lAmt : Int64) (lPl : Int32) (size : Int32) (row : Nat → Int32) (start : Int32) (fin : Int32) (kind : Int32) (oT : Int32) (oC : Int32) (amt : Int64) (pln : Int32) (wait : Int32) (held : Int32) (nest : Int32) (skp : Int32) (fmd : Int32) (dvd : Int32) (signs : Nat → Int32) (strs : Nat → Int32) (skips : Nat → Int32) (amts : Nat → Int64) (plns : Nat → Int32) (rsize : Int32) (rval : Int64) (risP : Int32) (cnt : Int32) (look : Int32) (bad : Int32) (byZ : Int32) (inr : Int32) (rpl : Int32) (hld : Int32) (store : Nat → Int32) (tAt : Nat → Int32) (tSz : Nat → Int32) (hSg : Nat → Int32) (hVl : Nat → Int64) (hPl : Nat → Int32) (H : Heap) (locs : List Loc) (ls : Array Slot), w_Lw_law_18 xs L post  n x3 lAmt lPl size row start fin kind oT oC amt pln wait held nest skp fmd dvd signs strs skips amts plns rsize rval risP cnt look bad byZ inr rpl hld store tAt tSz hSg hVl hPl → va_P (dC, dI) vwCl (wd_Lw_law ad ck lAmt lPl size row start fin kind oT oC amt pln wait held nest skp fmd dvd signs strs skips amts plns rsize rval risP cnt look bad byZ inr rpl hld store tAt tSz hSg hVl hPl) H → va_D A (wd_Lw_law ad ck lAmt lPl size row start fin kind oT oC amt pln wait held nest skp fmd dvd signs strs skips amts plns rsize rval risP cnt look bad byZ inr rpl hld store tAt tSz hSg hVl hPl) → va_S A s.heap H locs → lv_has ls 4 [(0, .ref b), (1, .ref (ad 0)), (2, .ref (ad 11)), (3, .int x3)] → W p l e room_1 s m #[Value.ref b] below meth c H locs 18 22181 (lw_Z below #[Value.ref b] s) (F0 m 18 ls []) := by
  obtain ⟨hx, hb, hr, hml, hown, hts, hX0, hbl, hlocks, hgv⟩ := id C0
  have hts : ∀ w ∈ TB, w.before #[Value.ref b] s = true := fun w h => hts w (List.mem_filter.mp h).1
  have hown : s.vm.findClass R_Lw = some m.cls := hown
  intro  n
  induction n with
  | zero =>
    intro x3 lAmt lPl size row start fin kind oT oC amt pln wait held nest skp fmd dvd signs strs skips amts plns rsize rval risP cnt look bad byZ inr rpl hld store tAt tSz hSg hVl hPl H locs ls hw
    exact False.elim hw
  | succ n ih =>
    intro x3 lAmt lPl size row start fin kind oT oC amt pln wait held nest skp fmd dvd signs strs skips amts plns rsize rval risP cnt look bad byZ inr rpl hld store tAt tSz hSg hVl hPl H locs ls hw hP hD hS hl
    refine lv_iload_n hx hb d_Lw_law_18 rfl (lv_at hl 3 rfl) ?_
    refine lv_aload_n hx hb d_Lw_law_19 rfl (lv_at hl 0 rfl) ?_
    refine va_slen hx hb hX0 hbl hbA hS d_Lw_law_20 ?_
    refine lv_iconst (v := 4) hx hb d_Lw_law_21 (by decide) ?_
    refine lv_isub hx hb d_Lw_law_22 ?_
    obtain ⟨hwt, hwf⟩ := hw
    refine lv_icmp_gt (tgt := 254) hx hb d_Lw_law_23 (by decide) (fun c_1 => ?_) (fun c_1 => ?_)
    · have hw := hwt c_1
      refine lv_iconst (v := 1) hx hb d_Lw_law_254 (by decide) ?_
      refine va_forget (fun q hq => hA2 _ (hS.2.2 q hq)) ?_
      refine W.widen (k := 600000) (n := 7302250) (by decide) (by decide) ?_
      exact lw_ret hx hb hr hlocks d_Lw_law_255
    · have hw := hwf c_1
      refine lv_aload_n hx hb d_Lw_law_26 rfl (lv_at hl 0 rfl) ?_
      refine lv_iload_n hx hb d_Lw_law_27 rfl (lv_at hl 3 rfl) ?_
      obtain ⟨hi_2, hw⟩ := hw
      refine va_sld hx hb hX0 hbl hbA hS hi_2 d_Lw_law_28 ?_
      refine lv_bipush (v := 7) hx hb d_Lw_law_29 (by decide) ?_
      refine lv_iand hx hb d_Lw_law_31 ?_
      obtain ⟨hwt, hwf⟩ := hw
      by_cases c_3 : ((xs x3.toNatClampNeg) &&& 7) = 0
      · have hw := hwt c_3
        refine lv_tableIn (off := 44) (tgt := 76) hx hb d_Lw_law_32 (by rw [c_3]; decide) (by rw [c_3]; decide) (by rw [c_3]; decide) (by decide) ?_
        refine lv_aload_n hx hb d_Lw_law_76 rfl (lv_at hl 1 rfl) ?_
        refine lv_aload_n hx hb d_Lw_law_77 rfl (lv_at hl 0 rfl) ?_
        refine lv_iload_n hx hb d_Lw_law_78 rfl (lv_at hl 3 rfl) ?_
        refine lv_iconst (v := 1) hx hb d_Lw_law_79 (by decide) ?_
        refine lv_iadd hx hb d_Lw_law_80 ?_
        obtain ⟨hi_4, hw⟩ := hw
        refine va_sld hx hb hX0 hbl hbA hS hi_4 d_Lw_law_81 ?_
        refine lv_i2l (v := (xs (x3 + 1).toNatClampNeg).toInt64) hx hb d_Lw_law_82 rfl ?_
        refine lv_bipush (v := 32) hx hb d_Lw_law_83 (by decide) ?_
        refine lv_lshl (v := (((xs (x3 + 1).toNatClampNeg).toInt64) <<< ((32 : Int32).toInt64 &&& 63))) hx hb d_Lw_law_85 rfl ?_
        refine lv_aload_n hx hb d_Lw_law_86 rfl (lv_at hl 0 rfl) ?_
        refine lv_iload_n hx hb d_Lw_law_87 rfl (lv_at hl 3 rfl) ?_
        refine lv_iconst (v := 2) hx hb d_Lw_law_88 (by decide) ?_
        refine lv_iadd hx hb d_Lw_law_89 ?_
        obtain ⟨hi_5, hw⟩ := hw
        refine va_sld hx hb hX0 hbl hbA hS hi_5 d_Lw_law_90 ?_
        refine lv_i2l (v := (xs (x3 + 2).toNatClampNeg).toInt64) hx hb d_Lw_law_91 rfl ?_
        refine lv_ldc2 (v := 4294967295) hx hb hown (hts _ lx_0) d_Lw_law_92 ?_
        refine lv_land hx hb d_Lw_law_95 ?_
        refine lv_lor hx hb d_Lw_law_96 ?_
        refine lv_aload_n hx hb d_Lw_law_97 rfl (lv_at hl 0 rfl) ?_
        refine lv_iload_n hx hb d_Lw_law_98 rfl (lv_at hl 3 rfl) ?_
        refine lv_iconst (v := 3) hx hb d_Lw_law_99 (by decide) ?_
        refine lv_iadd hx hb d_Lw_law_100 ?_
        obtain ⟨hi_6, hw⟩ := hw
        refine va_sld hx hb hX0 hbl hbA hS hi_6 d_Lw_law_101 ?_
        refine k_callVi (As := [.long ((((xs (x3 + 1).toNatClampNeg).toInt64) <<< ((32 : Int32).toInt64 &&& 63)) ||| (((xs (x3 + 2).toNatClampNeg).toInt64) &&& 4294967295)), .int (xs (x3 + 3).toNatClampNeg)]) (rest := []) (fun (u : Int32 × (Nat → Int32)) => wd_Lw_law ad ck lAmt lPl u.1 u.2 start fin kind oT oC amt pln wait held nest skp fmd dvd signs strs skips amts plns rsize rval risP cnt look bad byZ inr rpl hld store tAt tSz hSg hVl hPl) ⟨hx, hb, hml, hown, hts⟩ (kc_M_feed l dC dI ad ck sk lAmt lPl size row ((((xs (x3 + 1).toNatClampNeg).toInt64) <<< ((32 : Int32).toInt64 &&& 63)) ||| (((xs (x3 + 2).toNatClampNeg).toInt64) &&& 4294967295)) (xs (x3 + 3).toNatClampNeg) (hw := hw)) (cwV 2 hts (gV lx_1 lx_4 lx_5 lx_3 lx_2) rfl rfl rfl hd_M_feed ⟨Nat.le_of_ble_eq_true rfl, Nat.le_of_ble_eq_true rfl⟩) hKm hP hD hS hA (XM_c sk) hXm [0, 1, 2] [3, 4, 5, 6, 7, 8, 9, 10, 11, 12, 13, 14, 15, 16, 17] [15, 16, 17, 0, 1, 2, 3, 4, 5, 6, 7, 8, 9, 10, 11, 12, 13, 14] rfl rfl (by decide) (by decide) (fun _ => rfl) (va_recv hKm hP (ci := 4) (q0 := 0) rfl rfl) rfl hl.1 rfl (lv_room (Nat.le_of_ble_eq_true rfl)) d_Lw_law_102 ⟨Nat.le_of_ble_eq_true rfl, Nat.le_of_ble_eq_true rfl⟩ ?_
        intro r_7 u H locs hw hP hD hS
        obtain ⟨size_8, row_9⟩ := u
        have hP : va_P (dC, dI) vwCl (wd_Lw_law ad ck lAmt lPl size_8 row_9 start fin kind oT oC amt pln wait held nest skp fmd dvd signs strs skips amts plns rsize rval risP cnt look bad byZ inr rpl hld store tAt tSz hSg hVl hPl) H := hP
        have hD : va_D A (wd_Lw_law ad ck lAmt lPl size_8 row_9 start fin kind oT oC amt pln wait held nest skp fmd dvd signs strs skips amts plns rsize rval risP cnt look bad byZ inr rpl hld store tAt tSz hSg hVl hPl) := hD
        try dsimp only at hw
        refine lv_aload_n hx hb d_Lw_law_105 rfl (lv_at hl 2 rfl) ?_
        refine lv_aload_n hx hb d_Lw_law_106 rfl (lv_at hl 0 rfl) ?_
        refine lv_iload_n hx hb d_Lw_law_107 rfl (lv_at hl 3 rfl) ?_
        refine lv_iconst (v := 1) hx hb d_Lw_law_108 (by decide) ?_
        refine lv_iadd hx hb d_Lw_law_109 ?_
        obtain ⟨hi_10, hw⟩ := hw
        refine va_sld hx hb hX0 hbl hbA hS hi_10 d_Lw_law_110 ?_
        refine lv_i2l (v := (xs (x3 + 1).toNatClampNeg).toInt64) hx hb d_Lw_law_111 rfl ?_
        refine lv_bipush (v := 32) hx hb d_Lw_law_112 (by decide) ?_
        refine lv_lshl (v := (((xs (x3 + 1).toNatClampNeg).toInt64) <<< ((32 : Int32).toInt64 &&& 63))) hx hb d_Lw_law_114 rfl ?_
        refine lv_aload_n hx hb d_Lw_law_115 rfl (lv_at hl 0 rfl) ?_
        refine lv_iload_n hx hb d_Lw_law_116 rfl (lv_at hl 3 rfl) ?_
        refine lv_iconst (v := 2) hx hb d_Lw_law_117 (by decide) ?_
        refine lv_iadd hx hb d_Lw_law_118 ?_
        obtain ⟨hi_11, hw⟩ := hw
        refine va_sld hx hb hX0 hbl hbA hS hi_11 d_Lw_law_119 ?_
        refine lv_i2l (v := (xs (x3 + 2).toNatClampNeg).toInt64) hx hb d_Lw_law_120 rfl ?_
        refine lv_ldc2 (v := 4294967295) hx hb hown (hts _ lx_0) d_Lw_law_121 ?_
        refine lv_land hx hb d_Lw_law_124 ?_
        refine lv_lor hx hb d_Lw_law_125 ?_
        refine lv_aload_n hx hb d_Lw_law_126 rfl (lv_at hl 0 rfl) ?_
        refine lv_iload_n hx hb d_Lw_law_127 rfl (lv_at hl 3 rfl) ?_
        refine lv_iconst (v := 3) hx hb d_Lw_law_128 (by decide) ?_
        refine lv_iadd hx hb d_Lw_law_129 ?_
        obtain ⟨hi_12, hw⟩ := hw
        refine va_sld hx hb hX0 hbl hbA hS hi_12 d_Lw_law_130 ?_
        refine k_callVi (As := [.long ((((xs (x3 + 1).toNatClampNeg).toInt64) <<< ((32 : Int32).toInt64 &&& 63)) ||| (((xs (x3 + 2).toNatClampNeg).toInt64) &&& 4294967295)), .int (xs (x3 + 3).toNatClampNeg)]) (rest := [.int r_7]) (fun (u : Int32 × (Nat → Int32)) => wd_Lw_law ad ck lAmt lPl size_8 row_9 start fin kind oT oC amt pln wait held nest skp fmd dvd signs strs skips amts plns u.1 rval risP cnt look bad byZ inr rpl hld u.2 tAt tSz hSg hVl hPl) ⟨hx, hb, hml, hown, hts⟩ (kc_R_feed l dC dI ad ck rsize rval risP cnt look bad byZ inr rpl hld store ((((xs (x3 + 1).toNatClampNeg).toInt64) <<< ((32 : Int32).toInt64 &&& 63)) ||| (((xs (x3 + 2).toNatClampNeg).toInt64) &&& 4294967295)) (xs (x3 + 3).toNatClampNeg) (hw := hw)) (cwV 2 hts (gV lx_6 lx_9 lx_10 lx_8 lx_7) rfl rfl rfl hd_R_feed ⟨Nat.le_of_ble_eq_true rfl, Nat.le_of_ble_eq_true rfl⟩) hKr hP hD hS hA k_x0c trivial [11, 12] [0, 1, 2, 3, 4, 5, 6, 7, 8, 9, 10, 13, 14, 15, 16, 17] [0, 1, 2, 3, 4, 5, 6, 7, 8, 9, 10, 16, 17, 11, 12, 13, 14, 15] rfl rfl (by decide) (by decide) (fun _ => rfl) (va_recv hKr hP (ci := 5) (q0 := 11) rfl rfl) rfl hl.1 rfl (lv_room (Nat.le_of_ble_eq_true rfl)) d_Lw_law_131 ⟨Nat.le_of_ble_eq_true rfl, Nat.le_of_ble_eq_true rfl⟩ ?_
        intro r_13 u H locs hw hP hD hS
        obtain ⟨rsize_14, store_15⟩ := u
        have hP : va_P (dC, dI) vwCl (wd_Lw_law ad ck lAmt lPl size_8 row_9 start fin kind oT oC amt pln wait held nest skp fmd dvd signs strs skips amts plns rsize_14 rval risP cnt look bad byZ inr rpl hld store_15 tAt tSz hSg hVl hPl) H := hP
        have hD : va_D A (wd_Lw_law ad ck lAmt lPl size_8 row_9 start fin kind oT oC amt pln wait held nest skp fmd dvd signs strs skips amts plns rsize_14 rval risP cnt look bad byZ inr rpl hld store_15 tAt tSz hSg hVl hPl) := hD
        try dsimp only at hw
        obtain ⟨hwt, hwf⟩ := hw
        refine lv_icmp_eq (tgt := 248) hx hb d_Lw_law_134 (by decide) (fun c_16 => ?_) (fun c_16 => ?_)
        · have hw := hwt c_16
          obtain ⟨x3_17, ex3_17⟩ : ∃ y : Int32, y = x3 + 4 := ⟨_, rfl⟩
          have hw := hw x3_17 ex3_17
          refine lv_iinc (v := x3_17) (lv' := [(3, .int x3_17), (0, .ref b), (1, .ref (ad 0)), (2, .ref (ad 11))]) hx hb d_Lw_law_248 hl (k := 3) rfl (by rw [ex3_17]; rfl) (by decide) rfl (fun ls hl => ?_)
          refine lv_goto (tgt := 18) hx hb d_Lw_law_251 (by decide) ?_
          exact ih x3_17 lAmt lPl size_8 row_9 start fin kind oT oC amt pln wait held nest skp fmd dvd signs strs skips amts plns rsize_14 rval risP cnt look bad byZ inr rpl hld store_15 tAt tSz hSg hVl hPl _ _ _ hw hP hD hS (lv_sub hl [1, 2, 3, 0] rfl)
        · have hw := hwf c_16
          refine lv_iconst (v := 0) hx hb d_Lw_law_137 (by decide) ?_
          exact False.elim hw
      · have hw := hwf c_3
        obtain ⟨hwt, hwf⟩ := hw
        by_cases c_18 : ((xs x3.toNatClampNeg) &&& 7) = 1
        · have hw := hwt c_18
          refine lv_tableIn (off := 107) (tgt := 139) hx hb d_Lw_law_32 (by rw [c_18]; decide) (by rw [c_18]; decide) (by rw [c_18]; decide) (by decide) ?_
          refine lv_aload_n hx hb d_Lw_law_139 rfl (lv_at hl 1 rfl) ?_
          refine lv_aload_n hx hb d_Lw_law_140 rfl (lv_at hl 0 rfl) ?_
          refine lv_iload_n hx hb d_Lw_law_141 rfl (lv_at hl 3 rfl) ?_
          refine lv_iconst (v := 1) hx hb d_Lw_law_142 (by decide) ?_
          refine lv_iadd hx hb d_Lw_law_143 ?_
          obtain ⟨hi_19, hw⟩ := hw
          refine va_sld hx hb hX0 hbl hbA hS hi_19 d_Lw_law_144 ?_
          refine k_callVi (As := [.int (xs (x3 + 1).toNatClampNeg)]) (rest := []) (fun (u : Int32) => wd_Lw_law ad ck lAmt lPl u row start fin kind oT oC amt pln wait held nest skp fmd dvd signs strs skips amts plns rsize rval risP cnt look bad byZ inr rpl hld store tAt tSz hSg hVl hPl) ⟨hx, hb, hml, hown, hts⟩ (kc_M_cut l dC dI ad ck sk lAmt lPl size (xs (x3 + 1).toNatClampNeg) (hw := hw)) (cwV 1 hts (gV lx_11 lx_13 lx_14 lx_3 lx_12) rfl rfl rfl hd_M_cut ⟨Nat.le_of_ble_eq_true rfl, Nat.le_of_ble_eq_true rfl⟩) hKm hP hD hS hA (XM_c sk) hXm [0, 1] [2, 3, 4, 5, 6, 7, 8, 9, 10, 11, 12, 13, 14, 15, 16, 17] [16, 17, 0, 1, 2, 3, 4, 5, 6, 7, 8, 9, 10, 11, 12, 13, 14, 15] rfl rfl (by decide) (by decide) (fun _ => rfl) (va_recv hKm hP (ci := 4) (q0 := 0) rfl rfl) rfl hl.1 rfl (lv_room (Nat.le_of_ble_eq_true rfl)) d_Lw_law_145 ⟨Nat.le_of_ble_eq_true rfl, Nat.le_of_ble_eq_true rfl⟩ ?_
          intro r_20 u H locs hw hP hD hS
          obtain ⟨size_21, rfl⟩ : ∃ z, z = u := ⟨_, rfl⟩
          have hP : va_P (dC, dI) vwCl (wd_Lw_law ad ck lAmt lPl size_21 row start fin kind oT oC amt pln wait held nest skp fmd dvd signs strs skips amts plns rsize rval risP cnt look bad byZ inr rpl hld store tAt tSz hSg hVl hPl) H := hP
          have hD : va_D A (wd_Lw_law ad ck lAmt lPl size_21 row start fin kind oT oC amt pln wait held nest skp fmd dvd signs strs skips amts plns rsize rval risP cnt look bad byZ inr rpl hld store tAt tSz hSg hVl hPl) := hD
          try dsimp only at hw
          refine lv_aload_n hx hb d_Lw_law_148 rfl (lv_at hl 2 rfl) ?_
          refine lv_aload_n hx hb d_Lw_law_149 rfl (lv_at hl 0 rfl) ?_
          refine lv_iload_n hx hb d_Lw_law_150 rfl (lv_at hl 3 rfl) ?_
          refine lv_iconst (v := 1) hx hb d_Lw_law_151 (by decide) ?_
          refine lv_iadd hx hb d_Lw_law_152 ?_
          obtain ⟨hi_22, hw⟩ := hw
          refine va_sld hx hb hX0 hbl hbA hS hi_22 d_Lw_law_153 ?_
          refine k_callVi (As := [.int (xs (x3 + 1).toNatClampNeg)]) (rest := [.int r_20]) (fun (u : Int32) => wd_Lw_law ad ck lAmt lPl size_21 row start fin kind oT oC amt pln wait held nest skp fmd dvd signs strs skips amts plns u rval risP cnt look bad byZ inr rpl hld store tAt tSz hSg hVl hPl) ⟨hx, hb, hml, hown, hts⟩ (kc_R_cut l dC dI ad ck rsize rval risP cnt look bad byZ inr rpl hld (xs (x3 + 1).toNatClampNeg) (hw := hw)) (cwV 1 hts (gV lx_15 lx_17 lx_18 lx_8 lx_16) rfl rfl rfl hd_R_cut ⟨Nat.le_of_ble_eq_true rfl, Nat.le_of_ble_eq_true rfl⟩) hKr hP hD hS hA k_x0c trivial [11] [0, 1, 2, 3, 4, 5, 6, 7, 8, 9, 10, 12, 13, 14, 15, 16, 17] [0, 1, 2, 3, 4, 5, 6, 7, 8, 9, 10, 17, 11, 12, 13, 14, 15, 16] rfl rfl (by decide) (by decide) (fun _ => rfl) (va_recv hKr hP (ci := 5) (q0 := 11) rfl rfl) rfl hl.1 rfl (lv_room (Nat.le_of_ble_eq_true rfl)) d_Lw_law_154 ⟨Nat.le_of_ble_eq_true rfl, Nat.le_of_ble_eq_true rfl⟩ ?_
          intro r_23 u H locs hw hP hD hS
          obtain ⟨rsize_24, rfl⟩ : ∃ z, z = u := ⟨_, rfl⟩
          have hP : va_P (dC, dI) vwCl (wd_Lw_law ad ck lAmt lPl size_21 row start fin kind oT oC amt pln wait held nest skp fmd dvd signs strs skips amts plns rsize_24 rval risP cnt look bad byZ inr rpl hld store tAt tSz hSg hVl hPl) H := hP
          have hD : va_D A (wd_Lw_law ad ck lAmt lPl size_21 row start fin kind oT oC amt pln wait held nest skp fmd dvd signs strs skips amts plns rsize_24 rval risP cnt look bad byZ inr rpl hld store tAt tSz hSg hVl hPl) := hD
          try dsimp only at hw
          obtain ⟨hwt, hwf⟩ := hw
          refine lv_icmp_eq (tgt := 248) hx hb d_Lw_law_157 (by decide) (fun c_25 => ?_) (fun c_25 => ?_)
          · have hw := hwt c_25
            obtain ⟨x3_26, ex3_26⟩ : ∃ y : Int32, y = x3 + 4 := ⟨_, rfl⟩
            have hw := hw x3_26 ex3_26
            refine lv_iinc (v := x3_26) (lv' := [(3, .int x3_26), (0, .ref b), (1, .ref (ad 0)), (2, .ref (ad 11))]) hx hb d_Lw_law_248 hl (k := 3) rfl (by rw [ex3_26]; rfl) (by decide) rfl (fun ls hl => ?_)
            refine lv_goto (tgt := 18) hx hb d_Lw_law_251 (by decide) ?_
            exact ih x3_26 lAmt lPl size_21 row start fin kind oT oC amt pln wait held nest skp fmd dvd signs strs skips amts plns rsize_24 rval risP cnt look bad byZ inr rpl hld store tAt tSz hSg hVl hPl _ _ _ hw hP hD hS (lv_sub hl [1, 2, 3, 0] rfl)
          · have hw := hwf c_25
            refine lv_iconst (v := 0) hx hb d_Lw_law_160 (by decide) ?_
            exact False.elim hw
        · have hw := hwf c_18
          obtain ⟨hwt, hwf⟩ := hw
          by_cases c_27 : ((xs x3.toNatClampNeg) &&& 7) = 2
          · have hw := hwt c_27
            refine lv_tableIn (off := 130) (tgt := 162) hx hb d_Lw_law_32 (by rw [c_27]; decide) (by rw [c_27]; decide) (by rw [c_27]; decide) (by decide) ?_
            refine lv_aload_n hx hb d_Lw_law_162 rfl (lv_at hl 1 rfl) ?_
            refine k_callVi (As := []) (rest := []) (fun (u : Int64 × Int32 × Int32 × Int32 × Int32 × Int32 × Int32 × Int64 × Int32 × Int32 × Int32 × Int32 × Int32 × Int32 × Int32 × (Nat → Int32) × (Nat → Int32) × (Nat → Int32) × (Nat → Int64) × (Nat → Int32)) => wd_Lw_law ad ck u.1 u.2.1 size row u.2.2.1 u.2.2.2.1 u.2.2.2.2.1 u.2.2.2.2.2.1 u.2.2.2.2.2.2.1 u.2.2.2.2.2.2.2.1 u.2.2.2.2.2.2.2.2.1 u.2.2.2.2.2.2.2.2.2.1 u.2.2.2.2.2.2.2.2.2.2.1 u.2.2.2.2.2.2.2.2.2.2.2.1 u.2.2.2.2.2.2.2.2.2.2.2.2.1 u.2.2.2.2.2.2.2.2.2.2.2.2.2.1 u.2.2.2.2.2.2.2.2.2.2.2.2.2.2.1 u.2.2.2.2.2.2.2.2.2.2.2.2.2.2.2.1 u.2.2.2.2.2.2.2.2.2.2.2.2.2.2.2.2.1 u.2.2.2.2.2.2.2.2.2.2.2.2.2.2.2.2.2.1 u.2.2.2.2.2.2.2.2.2.2.2.2.2.2.2.2.2.2.1 u.2.2.2.2.2.2.2.2.2.2.2.2.2.2.2.2.2.2.2 rsize rval risP cnt look bad byZ inr rpl hld store tAt tSz hSg hVl hPl) ⟨hx, hb, hml, hown, hts⟩ (kc_M_reckon l dC dI ad ck sk lAmt lPl size row start fin kind oT oC amt pln wait held nest skp fmd dvd signs strs skips amts plns (hw := hw)) (cwV 0 hts (gV lx_19 lx_21 lx_22 lx_3 lx_20) rfl rfl rfl hd_M_reckon ⟨Nat.le_of_ble_eq_true rfl, Nat.le_of_ble_eq_true rfl⟩) hKm hP hD hS hA (XM_c sk) hXm [0, 1, 2, 3, 4, 5, 6, 7, 8, 9, 10] [11, 12, 13, 14, 15, 16, 17] [7, 8, 9, 10, 11, 12, 13, 14, 15, 16, 17, 0, 1, 2, 3, 4, 5, 6] rfl rfl (by decide) (by decide) (fun _ => rfl) (va_recv hKm hP (ci := 4) (q0 := 0) rfl rfl) rfl hl.1 rfl (lv_room (Nat.le_of_ble_eq_true rfl)) d_Lw_law_163 ⟨Nat.le_of_ble_eq_true rfl, Nat.le_of_ble_eq_true rfl⟩ ?_
            intro r_28 u H locs hw hP hD hS
            obtain ⟨lAmt_29, lPl_30, start_31, fin_32, kind_33, oT_34, oC_35, amt_36, pln_37, wait_38, held_39, nest_40, skp_41, fmd_42, dvd_43, signs_44, strs_45, skips_46, amts_47, plns_48⟩ := u
            have hP : va_P (dC, dI) vwCl (wd_Lw_law ad ck lAmt_29 lPl_30 size row start_31 fin_32 kind_33 oT_34 oC_35 amt_36 pln_37 wait_38 held_39 nest_40 skp_41 fmd_42 dvd_43 signs_44 strs_45 skips_46 amts_47 plns_48 rsize rval risP cnt look bad byZ inr rpl hld store tAt tSz hSg hVl hPl) H := hP
            have hD : va_D A (wd_Lw_law ad ck lAmt_29 lPl_30 size row start_31 fin_32 kind_33 oT_34 oC_35 amt_36 pln_37 wait_38 held_39 nest_40 skp_41 fmd_42 dvd_43 signs_44 strs_45 skips_46 amts_47 plns_48 rsize rval risP cnt look bad byZ inr rpl hld store tAt tSz hSg hVl hPl) := hD
            try dsimp only at hw
            refine lv_aload_n hx hb d_Lw_law_166 rfl (lv_at hl 2 rfl) ?_
            refine k_callVi (As := []) (rest := [.int r_28]) (fun (u : Int64 × Int32 × Int32 × Int32 × Int32 × Int32 × Int32 × Int32 × Int32 × (Nat → Int32) × (Nat → Int32) × (Nat → Int32) × (Nat → Int64) × (Nat → Int32)) => wd_Lw_law ad ck lAmt_29 lPl_30 size row start_31 fin_32 kind_33 oT_34 oC_35 amt_36 pln_37 wait_38 held_39 nest_40 skp_41 fmd_42 dvd_43 signs_44 strs_45 skips_46 amts_47 plns_48 rsize u.1 u.2.1 u.2.2.1 u.2.2.2.1 u.2.2.2.2.1 u.2.2.2.2.2.1 u.2.2.2.2.2.2.1 u.2.2.2.2.2.2.2.1 u.2.2.2.2.2.2.2.2.1 store u.2.2.2.2.2.2.2.2.2.1 u.2.2.2.2.2.2.2.2.2.2.1 u.2.2.2.2.2.2.2.2.2.2.2.1 u.2.2.2.2.2.2.2.2.2.2.2.2.1 u.2.2.2.2.2.2.2.2.2.2.2.2.2) ⟨hx, hb, hml, hown, hts⟩ (kc_R_reckon l dC dI ad ck sa sv sf rsize rval risP cnt look bad byZ inr rpl hld store tAt tSz hSg hVl hPl (hw := hw)) (cwV 0 hts (gV lx_23 lx_25 lx_26 lx_8 lx_24) rfl rfl rfl hd_R_reckon ⟨Nat.le_of_ble_eq_true rfl, Nat.le_of_ble_eq_true rfl⟩) hKr hP hD hS hA (XR_c sa sv sf) hXr [11, 12, 13, 14, 15, 16, 17] [0, 1, 2, 3, 4, 5, 6, 7, 8, 9, 10] [0, 1, 2, 3, 4, 5, 6, 7, 8, 9, 10, 11, 12, 13, 14, 15, 16, 17] rfl rfl (by decide) (by decide) (fun _ => rfl) (va_recv hKr hP (ci := 5) (q0 := 11) rfl rfl) rfl hl.1 rfl (lv_room (Nat.le_of_ble_eq_true rfl)) d_Lw_law_167 ⟨Nat.le_of_ble_eq_true rfl, Nat.le_of_ble_eq_true rfl⟩ ?_
            intro r_49 u H locs hw hP hD hS
            obtain ⟨rval_50, risP_51, cnt_52, look_53, bad_54, byZ_55, inr_56, rpl_57, hld_58, tAt_59, tSz_60, hSg_61, hVl_62, hPl_63⟩ := u
            have hP : va_P (dC, dI) vwCl (wd_Lw_law ad ck lAmt_29 lPl_30 size row start_31 fin_32 kind_33 oT_34 oC_35 amt_36 pln_37 wait_38 held_39 nest_40 skp_41 fmd_42 dvd_43 signs_44 strs_45 skips_46 amts_47 plns_48 rsize rval_50 risP_51 cnt_52 look_53 bad_54 byZ_55 inr_56 rpl_57 hld_58 store tAt_59 tSz_60 hSg_61 hVl_62 hPl_63) H := hP
            have hD : va_D A (wd_Lw_law ad ck lAmt_29 lPl_30 size row start_31 fin_32 kind_33 oT_34 oC_35 amt_36 pln_37 wait_38 held_39 nest_40 skp_41 fmd_42 dvd_43 signs_44 strs_45 skips_46 amts_47 plns_48 rsize rval_50 risP_51 cnt_52 look_53 bad_54 byZ_55 inr_56 rpl_57 hld_58 store tAt_59 tSz_60 hSg_61 hVl_62 hPl_63) := hD
            try dsimp only at hw
            obtain ⟨hwt, hwf⟩ := hw
            refine lv_icmp_eq (tgt := 248) hx hb d_Lw_law_170 (by decide) (fun c_64 => ?_) (fun c_64 => ?_)
            · have hw := hwt c_64
              obtain ⟨x3_65, ex3_65⟩ : ∃ y : Int32, y = x3 + 4 := ⟨_, rfl⟩
              have hw := hw x3_65 ex3_65
              refine lv_iinc (v := x3_65) (lv' := [(3, .int x3_65), (0, .ref b), (1, .ref (ad 0)), (2, .ref (ad 11))]) hx hb d_Lw_law_248 hl (k := 3) rfl (by rw [ex3_65]; rfl) (by decide) rfl (fun ls hl => ?_)
              refine lv_goto (tgt := 18) hx hb d_Lw_law_251 (by decide) ?_
              exact ih x3_65 lAmt_29 lPl_30 size row start_31 fin_32 kind_33 oT_34 oC_35 amt_36 pln_37 wait_38 held_39 nest_40 skp_41 fmd_42 dvd_43 signs_44 strs_45 skips_46 amts_47 plns_48 rsize rval_50 risP_51 cnt_52 look_53 bad_54 byZ_55 inr_56 rpl_57 hld_58 store tAt_59 tSz_60 hSg_61 hVl_62 hPl_63 _ _ _ hw hP hD hS (lv_sub hl [1, 2, 3, 0] rfl)
            · have hw := hwf c_64
              refine lv_iconst (v := 0) hx hb d_Lw_law_173 (by decide) ?_
              exact False.elim hw
          · have hw := hwf c_27
            obtain ⟨hwt, hwf⟩ := hw
            by_cases c_66 : ((xs x3.toNatClampNeg) &&& 7) = 3
            · have hw := hwt c_66
              refine lv_tableIn (off := 143) (tgt := 175) hx hb d_Lw_law_32 (by rw [c_66]; decide) (by rw [c_66]; decide) (by rw [c_66]; decide) (by decide) ?_
              refine lv_aload_n hx hb d_Lw_law_175 rfl (lv_at hl 1 rfl) ?_
              refine k_callVl (As := []) (rest := []) (fun (u : Unit) => wd_Lw_law ad ck lAmt lPl size row start fin kind oT oC amt pln wait held nest skp fmd dvd signs strs skips amts plns rsize rval risP cnt look bad byZ inr rpl hld store tAt tSz hSg hVl hPl) ⟨hx, hb, hml, hown, hts⟩ (kc_M_value l dC dI ad ck lAmt lPl (hw := hw)) (cwV 0 hts (gV lx_27 lx_29 lx_30 lx_3 lx_28) rfl rfl rfl hd_M_value ⟨Nat.le_of_ble_eq_true rfl, Nat.le_of_ble_eq_true rfl⟩) hKm hP hD hS hA k_x0c trivial [0] [1, 2, 3, 4, 5, 6, 7, 8, 9, 10, 11, 12, 13, 14, 15, 16, 17] [17, 0, 1, 2, 3, 4, 5, 6, 7, 8, 9, 10, 11, 12, 13, 14, 15, 16] rfl rfl (by decide) (by decide) (fun _ => rfl) (va_recv hKm hP (ci := 4) (q0 := 0) rfl rfl) rfl hl.1 rfl (lv_room (Nat.le_of_ble_eq_true rfl)) d_Lw_law_176 ⟨Nat.le_of_ble_eq_true rfl, Nat.le_of_ble_eq_true rfl⟩ ?_
              intro r_67 u H locs hw hP hD hS
              have hP : va_P (dC, dI) vwCl (wd_Lw_law ad ck lAmt lPl size row start fin kind oT oC amt pln wait held nest skp fmd dvd signs strs skips amts plns rsize rval risP cnt look bad byZ inr rpl hld store tAt tSz hSg hVl hPl) H := hP
              have hD : va_D A (wd_Lw_law ad ck lAmt lPl size row start fin kind oT oC amt pln wait held nest skp fmd dvd signs strs skips amts plns rsize rval risP cnt look bad byZ inr rpl hld store tAt tSz hSg hVl hPl) := hD
              try dsimp only at hw
              refine lv_aload_n hx hb d_Lw_law_179 rfl (lv_at hl 2 rfl) ?_
              refine k_callVl (As := []) (rest := [.long r_67]) (fun (u : Unit) => wd_Lw_law ad ck lAmt lPl size row start fin kind oT oC amt pln wait held nest skp fmd dvd signs strs skips amts plns rsize rval risP cnt look bad byZ inr rpl hld store tAt tSz hSg hVl hPl) ⟨hx, hb, hml, hown, hts⟩ (kc_R_value l dC dI ad ck rsize rval risP cnt look bad byZ inr rpl hld (hw := hw)) (cwV 0 hts (gV lx_31 lx_33 lx_34 lx_8 lx_32) rfl rfl rfl hd_R_value ⟨Nat.le_of_ble_eq_true rfl, Nat.le_of_ble_eq_true rfl⟩) hKr hP hD hS hA k_x0c trivial [11] [0, 1, 2, 3, 4, 5, 6, 7, 8, 9, 10, 12, 13, 14, 15, 16, 17] [0, 1, 2, 3, 4, 5, 6, 7, 8, 9, 10, 17, 11, 12, 13, 14, 15, 16] rfl rfl (by decide) (by decide) (fun _ => rfl) (va_recv hKr hP (ci := 5) (q0 := 11) rfl rfl) rfl hl.1 rfl (lv_room (Nat.le_of_ble_eq_true rfl)) d_Lw_law_180 ⟨Nat.le_of_ble_eq_true rfl, Nat.le_of_ble_eq_true rfl⟩ ?_
              intro r_68 u H locs hw hP hD hS
              have hP : va_P (dC, dI) vwCl (wd_Lw_law ad ck lAmt lPl size row start fin kind oT oC amt pln wait held nest skp fmd dvd signs strs skips amts plns rsize rval risP cnt look bad byZ inr rpl hld store tAt tSz hSg hVl hPl) H := hP
              have hD : va_D A (wd_Lw_law ad ck lAmt lPl size row start fin kind oT oC amt pln wait held nest skp fmd dvd signs strs skips amts plns rsize rval risP cnt look bad byZ inr rpl hld store tAt tSz hSg hVl hPl) := hD
              try dsimp only at hw
              refine W.lcmp hx hb d_Lw_law_183 ?_
              obtain ⟨hwt, hwf⟩ := hw
              refine lv_if_eq (tgt := 248) hx hb d_Lw_law_184 (by decide) (fun c_69 => ?_) (fun c_69 => ?_)
              · have hw := hwt c_69
                obtain ⟨x3_70, ex3_70⟩ : ∃ y : Int32, y = x3 + 4 := ⟨_, rfl⟩
                have hw := hw x3_70 ex3_70
                refine lv_iinc (v := x3_70) (lv' := [(3, .int x3_70), (0, .ref b), (1, .ref (ad 0)), (2, .ref (ad 11))]) hx hb d_Lw_law_248 hl (k := 3) rfl (by rw [ex3_70]; rfl) (by decide) rfl (fun ls hl => ?_)
                refine lv_goto (tgt := 18) hx hb d_Lw_law_251 (by decide) ?_
                exact ih x3_70 lAmt lPl size row start fin kind oT oC amt pln wait held nest skp fmd dvd signs strs skips amts plns rsize rval risP cnt look bad byZ inr rpl hld store tAt tSz hSg hVl hPl _ _ _ hw hP hD hS (lv_sub hl [1, 2, 3, 0] rfl)
              · have hw := hwf c_69
                refine lv_iconst (v := 0) hx hb d_Lw_law_187 (by decide) ?_
                exact False.elim hw
            · have hw := hwf c_66
              obtain ⟨hwt, hwf⟩ := hw
              by_cases c_71 : ((xs x3.toNatClampNeg) &&& 7) = 4
              · have hw := hwt c_71
                refine lv_tableIn (off := 157) (tgt := 189) hx hb d_Lw_law_32 (by rw [c_71]; decide) (by rw [c_71]; decide) (by rw [c_71]; decide) (by decide) ?_
                refine lv_aload_n hx hb d_Lw_law_189 rfl (lv_at hl 1 rfl) ?_
                refine k_callVi (As := []) (rest := []) (fun (u : Unit) => wd_Lw_law ad ck lAmt lPl size row start fin kind oT oC amt pln wait held nest skp fmd dvd signs strs skips amts plns rsize rval risP cnt look bad byZ inr rpl hld store tAt tSz hSg hVl hPl) ⟨hx, hb, hml, hown, hts⟩ (kc_M_isPlain l dC dI ad ck lAmt lPl (hw := hw)) (cwV 0 hts (gV lx_35 lx_37 lx_38 lx_3 lx_36) rfl rfl rfl hd_M_isPlain ⟨Nat.le_of_ble_eq_true rfl, Nat.le_of_ble_eq_true rfl⟩) hKm hP hD hS hA k_x0c trivial [0] [1, 2, 3, 4, 5, 6, 7, 8, 9, 10, 11, 12, 13, 14, 15, 16, 17] [17, 0, 1, 2, 3, 4, 5, 6, 7, 8, 9, 10, 11, 12, 13, 14, 15, 16] rfl rfl (by decide) (by decide) (fun _ => rfl) (va_recv hKm hP (ci := 4) (q0 := 0) rfl rfl) rfl hl.1 rfl (lv_room (Nat.le_of_ble_eq_true rfl)) d_Lw_law_190 ⟨Nat.le_of_ble_eq_true rfl, Nat.le_of_ble_eq_true rfl⟩ ?_
                intro r_72 u H locs hw hP hD hS
                have hP : va_P (dC, dI) vwCl (wd_Lw_law ad ck lAmt lPl size row start fin kind oT oC amt pln wait held nest skp fmd dvd signs strs skips amts plns rsize rval risP cnt look bad byZ inr rpl hld store tAt tSz hSg hVl hPl) H := hP
                have hD : va_D A (wd_Lw_law ad ck lAmt lPl size row start fin kind oT oC amt pln wait held nest skp fmd dvd signs strs skips amts plns rsize rval risP cnt look bad byZ inr rpl hld store tAt tSz hSg hVl hPl) := hD
                try dsimp only at hw
                refine lv_aload_n hx hb d_Lw_law_193 rfl (lv_at hl 2 rfl) ?_
                refine k_callVi (As := []) (rest := [.int r_72]) (fun (u : Unit) => wd_Lw_law ad ck lAmt lPl size row start fin kind oT oC amt pln wait held nest skp fmd dvd signs strs skips amts plns rsize rval risP cnt look bad byZ inr rpl hld store tAt tSz hSg hVl hPl) ⟨hx, hb, hml, hown, hts⟩ (kc_R_isPlain l dC dI ad ck rsize rval risP cnt look bad byZ inr rpl hld (hw := hw)) (cwV 0 hts (gV lx_39 lx_41 lx_42 lx_8 lx_40) rfl rfl rfl hd_R_isPlain ⟨Nat.le_of_ble_eq_true rfl, Nat.le_of_ble_eq_true rfl⟩) hKr hP hD hS hA k_x0c trivial [11] [0, 1, 2, 3, 4, 5, 6, 7, 8, 9, 10, 12, 13, 14, 15, 16, 17] [0, 1, 2, 3, 4, 5, 6, 7, 8, 9, 10, 17, 11, 12, 13, 14, 15, 16] rfl rfl (by decide) (by decide) (fun _ => rfl) (va_recv hKr hP (ci := 5) (q0 := 11) rfl rfl) rfl hl.1 rfl (lv_room (Nat.le_of_ble_eq_true rfl)) d_Lw_law_194 ⟨Nat.le_of_ble_eq_true rfl, Nat.le_of_ble_eq_true rfl⟩ ?_
                intro r_73 u H locs hw hP hD hS
                have hP : va_P (dC, dI) vwCl (wd_Lw_law ad ck lAmt lPl size row start fin kind oT oC amt pln wait held nest skp fmd dvd signs strs skips amts plns rsize rval risP cnt look bad byZ inr rpl hld store tAt tSz hSg hVl hPl) H := hP
                have hD : va_D A (wd_Lw_law ad ck lAmt lPl size row start fin kind oT oC amt pln wait held nest skp fmd dvd signs strs skips amts plns rsize rval risP cnt look bad byZ inr rpl hld store tAt tSz hSg hVl hPl) := hD
                try dsimp only at hw
                obtain ⟨hwt, hwf⟩ := hw
                refine lv_icmp_eq (tgt := 248) hx hb d_Lw_law_197 (by decide) (fun c_74 => ?_) (fun c_74 => ?_)
                · have hw := hwt c_74
                  obtain ⟨x3_75, ex3_75⟩ : ∃ y : Int32, y = x3 + 4 := ⟨_, rfl⟩
                  have hw := hw x3_75 ex3_75
                  refine lv_iinc (v := x3_75) (lv' := [(3, .int x3_75), (0, .ref b), (1, .ref (ad 0)), (2, .ref (ad 11))]) hx hb d_Lw_law_248 hl (k := 3) rfl (by rw [ex3_75]; rfl) (by decide) rfl (fun ls hl => ?_)
                  refine lv_goto (tgt := 18) hx hb d_Lw_law_251 (by decide) ?_
                  exact ih x3_75 lAmt lPl size row start fin kind oT oC amt pln wait held nest skp fmd dvd signs strs skips amts plns rsize rval risP cnt look bad byZ inr rpl hld store tAt tSz hSg hVl hPl _ _ _ hw hP hD hS (lv_sub hl [1, 2, 3, 0] rfl)
                · have hw := hwf c_74
                  refine lv_iconst (v := 0) hx hb d_Lw_law_200 (by decide) ?_
                  exact False.elim hw
              · have hw := hwf c_71
                obtain ⟨hwt, hwf⟩ := hw
                by_cases c_76 : ((xs x3.toNatClampNeg) &&& 7) = 5
                · have hw := hwt c_76
                  refine lv_tableIn (off := 170) (tgt := 202) hx hb d_Lw_law_32 (by rw [c_76]; decide) (by rw [c_76]; decide) (by rw [c_76]; decide) (by decide) ?_
                  refine lv_aload_n hx hb d_Lw_law_202 rfl (lv_at hl 1 rfl) ?_
                  refine k_callVi (As := []) (rest := []) (fun (u : Int32 × Int32 × Int32 × Int32 × Int32) => wd_Lw_law ad ck lAmt lPl size row u.1 u.2.1 u.2.2.1 u.2.2.2.1 u.2.2.2.2 amt pln wait held nest skp fmd dvd signs strs skips amts plns rsize rval risP cnt look bad byZ inr rpl hld store tAt tSz hSg hVl hPl) ⟨hx, hb, hml, hown, hts⟩ (kc_M_tokens l dC dI ad ck sk lAmt lPl size row start fin kind oT oC (hw := hw)) (cwV 0 hts (gV lx_43 lx_45 lx_46 lx_3 lx_44) rfl rfl rfl hd_M_tokens ⟨Nat.le_of_ble_eq_true rfl, Nat.le_of_ble_eq_true rfl⟩) hKm hP hD hS hA (XM_c sk) hXm [0, 1, 2, 3] [4, 5, 6, 7, 8, 9, 10, 11, 12, 13, 14, 15, 16, 17] [14, 15, 16, 17, 0, 1, 2, 3, 4, 5, 6, 7, 8, 9, 10, 11, 12, 13] rfl rfl (by decide) (by decide) (fun _ => rfl) (va_recv hKm hP (ci := 4) (q0 := 0) rfl rfl) rfl hl.1 rfl (lv_room (Nat.le_of_ble_eq_true rfl)) d_Lw_law_203 ⟨Nat.le_of_ble_eq_true rfl, Nat.le_of_ble_eq_true rfl⟩ ?_
                  intro r_77 u H locs hw hP hD hS
                  obtain ⟨start_78, fin_79, kind_80, oT_81, oC_82⟩ := u
                  have hP : va_P (dC, dI) vwCl (wd_Lw_law ad ck lAmt lPl size row start_78 fin_79 kind_80 oT_81 oC_82 amt pln wait held nest skp fmd dvd signs strs skips amts plns rsize rval risP cnt look bad byZ inr rpl hld store tAt tSz hSg hVl hPl) H := hP
                  have hD : va_D A (wd_Lw_law ad ck lAmt lPl size row start_78 fin_79 kind_80 oT_81 oC_82 amt pln wait held nest skp fmd dvd signs strs skips amts plns rsize rval risP cnt look bad byZ inr rpl hld store tAt tSz hSg hVl hPl) := hD
                  try dsimp only at hw
                  refine lv_aload_n hx hb d_Lw_law_206 rfl (lv_at hl 2 rfl) ?_
                  refine k_callVi (As := []) (rest := [.int r_77]) (fun (u : Int32 × (Nat → Int32) × (Nat → Int32)) => wd_Lw_law ad ck lAmt lPl size row start_78 fin_79 kind_80 oT_81 oC_82 amt pln wait held nest skp fmd dvd signs strs skips amts plns rsize rval risP u.1 look bad byZ inr rpl hld store u.2.1 u.2.2 hSg hVl hPl) ⟨hx, hb, hml, hown, hts⟩ (kc_R_tokens l dC dI ad ck sa sv sf rsize rval risP cnt look bad byZ inr rpl hld store tAt tSz (hw := hw)) (cwV 0 hts (gV lx_47 lx_49 lx_50 lx_8 lx_48) rfl rfl rfl hd_R_tokens ⟨Nat.le_of_ble_eq_true rfl, Nat.le_of_ble_eq_true rfl⟩) hKr hP hD hS hA (XR_c sa sv sf) hXr [11, 12, 13, 14] [0, 1, 2, 3, 4, 5, 6, 7, 8, 9, 10, 15, 16, 17] [0, 1, 2, 3, 4, 5, 6, 7, 8, 9, 10, 14, 15, 16, 17, 11, 12, 13] rfl rfl (by decide) (by decide) (fun _ => rfl) (va_recv hKr hP (ci := 5) (q0 := 11) rfl rfl) rfl hl.1 rfl (lv_room (Nat.le_of_ble_eq_true rfl)) d_Lw_law_207 ⟨Nat.le_of_ble_eq_true rfl, Nat.le_of_ble_eq_true rfl⟩ ?_
                  intro r_83 u H locs hw hP hD hS
                  obtain ⟨cnt_84, tAt_85, tSz_86⟩ := u
                  have hP : va_P (dC, dI) vwCl (wd_Lw_law ad ck lAmt lPl size row start_78 fin_79 kind_80 oT_81 oC_82 amt pln wait held nest skp fmd dvd signs strs skips amts plns rsize rval risP cnt_84 look bad byZ inr rpl hld store tAt_85 tSz_86 hSg hVl hPl) H := hP
                  have hD : va_D A (wd_Lw_law ad ck lAmt lPl size row start_78 fin_79 kind_80 oT_81 oC_82 amt pln wait held nest skp fmd dvd signs strs skips amts plns rsize rval risP cnt_84 look bad byZ inr rpl hld store tAt_85 tSz_86 hSg hVl hPl) := hD
                  try dsimp only at hw
                  obtain ⟨hwt, hwf⟩ := hw
                  refine lv_icmp_eq (tgt := 248) hx hb d_Lw_law_210 (by decide) (fun c_87 => ?_) (fun c_87 => ?_)
                  · have hw := hwt c_87
                    obtain ⟨x3_88, ex3_88⟩ : ∃ y : Int32, y = x3 + 4 := ⟨_, rfl⟩
                    have hw := hw x3_88 ex3_88
                    refine lv_iinc (v := x3_88) (lv' := [(3, .int x3_88), (0, .ref b), (1, .ref (ad 0)), (2, .ref (ad 11))]) hx hb d_Lw_law_248 hl (k := 3) rfl (by rw [ex3_88]; rfl) (by decide) rfl (fun ls hl => ?_)
                    refine lv_goto (tgt := 18) hx hb d_Lw_law_251 (by decide) ?_
                    exact ih x3_88 lAmt lPl size row start_78 fin_79 kind_80 oT_81 oC_82 amt pln wait held nest skp fmd dvd signs strs skips amts plns rsize rval risP cnt_84 look bad byZ inr rpl hld store tAt_85 tSz_86 hSg hVl hPl _ _ _ hw hP hD hS (lv_sub hl [1, 2, 3, 0] rfl)
                  · have hw := hwf c_87
                    refine lv_iconst (v := 0) hx hb d_Lw_law_213 (by decide) ?_
                    exact False.elim hw
                · have hw := hwf c_76
                  obtain ⟨hwt, hwf⟩ := hw
                  by_cases c_89 : ((xs x3.toNatClampNeg) &&& 7) = 6
                  · have hw := hwt c_89
                    refine lv_tableIn (off := 183) (tgt := 215) hx hb d_Lw_law_32 (by rw [c_89]; decide) (by rw [c_89]; decide) (by rw [c_89]; decide) (by decide) ?_
                    refine lv_aload_n hx hb d_Lw_law_215 rfl (lv_at hl 1 rfl) ?_
                    refine lv_aload_n hx hb d_Lw_law_216 rfl (lv_at hl 0 rfl) ?_
                    refine lv_iload_n hx hb d_Lw_law_217 rfl (lv_at hl 3 rfl) ?_
                    refine lv_iconst (v := 1) hx hb d_Lw_law_218 (by decide) ?_
                    refine lv_iadd hx hb d_Lw_law_219 ?_
                    obtain ⟨hi_90, hw⟩ := hw
                    refine va_sld hx hb hX0 hbl hbA hS hi_90 d_Lw_law_220 ?_
                    refine lv_aload_n hx hb d_Lw_law_221 rfl (lv_at hl 0 rfl) ?_
                    refine lv_iload_n hx hb d_Lw_law_222 rfl (lv_at hl 3 rfl) ?_
                    refine lv_iconst (v := 2) hx hb d_Lw_law_223 (by decide) ?_
                    refine lv_iadd hx hb d_Lw_law_224 ?_
                    obtain ⟨hi_91, hw⟩ := hw
                    refine va_sld hx hb hX0 hbl hbA hS hi_91 d_Lw_law_225 ?_
                    refine k_callVi (As := [.int (xs (x3 + 1).toNatClampNeg), .int (xs (x3 + 2).toNatClampNeg)]) (rest := []) (fun (u : Int32 × Int32 × Int32 × Int32 × Int32) => wd_Lw_law ad ck lAmt lPl size row u.1 u.2.1 u.2.2.1 u.2.2.2.1 u.2.2.2.2 amt pln wait held nest skp fmd dvd signs strs skips amts plns rsize rval risP cnt look bad byZ inr rpl hld store tAt tSz hSg hVl hPl) ⟨hx, hb, hml, hown, hts⟩ (kc_M_token l dC dI ad ck sk lAmt lPl size row start fin kind oT oC (xs (x3 + 1).toNatClampNeg) (xs (x3 + 2).toNatClampNeg) (hw := hw)) (cwV 2 hts (gV lx_51 lx_53 lx_54 lx_3 lx_52) rfl rfl rfl hd_M_token ⟨Nat.le_of_ble_eq_true rfl, Nat.le_of_ble_eq_true rfl⟩) hKm hP hD hS hA (XM_c sk) hXm [0, 1, 2, 3] [4, 5, 6, 7, 8, 9, 10, 11, 12, 13, 14, 15, 16, 17] [14, 15, 16, 17, 0, 1, 2, 3, 4, 5, 6, 7, 8, 9, 10, 11, 12, 13] rfl rfl (by decide) (by decide) (fun _ => rfl) (va_recv hKm hP (ci := 4) (q0 := 0) rfl rfl) rfl hl.1 rfl (lv_room (Nat.le_of_ble_eq_true rfl)) d_Lw_law_226 ⟨Nat.le_of_ble_eq_true rfl, Nat.le_of_ble_eq_true rfl⟩ ?_
                    intro r_92 u H locs hw hP hD hS
                    obtain ⟨start_93, fin_94, kind_95, oT_96, oC_97⟩ := u
                    have hP : va_P (dC, dI) vwCl (wd_Lw_law ad ck lAmt lPl size row start_93 fin_94 kind_95 oT_96 oC_97 amt pln wait held nest skp fmd dvd signs strs skips amts plns rsize rval risP cnt look bad byZ inr rpl hld store tAt tSz hSg hVl hPl) H := hP
                    have hD : va_D A (wd_Lw_law ad ck lAmt lPl size row start_93 fin_94 kind_95 oT_96 oC_97 amt pln wait held nest skp fmd dvd signs strs skips amts plns rsize rval risP cnt look bad byZ inr rpl hld store tAt tSz hSg hVl hPl) := hD
                    try dsimp only at hw
                    refine lv_aload_n hx hb d_Lw_law_229 rfl (lv_at hl 2 rfl) ?_
                    refine lv_aload_n hx hb d_Lw_law_230 rfl (lv_at hl 0 rfl) ?_
                    refine lv_iload_n hx hb d_Lw_law_231 rfl (lv_at hl 3 rfl) ?_
                    refine lv_iconst (v := 1) hx hb d_Lw_law_232 (by decide) ?_
                    refine lv_iadd hx hb d_Lw_law_233 ?_
                    obtain ⟨hi_98, hw⟩ := hw
                    refine va_sld hx hb hX0 hbl hbA hS hi_98 d_Lw_law_234 ?_
                    refine lv_aload_n hx hb d_Lw_law_235 rfl (lv_at hl 0 rfl) ?_
                    refine lv_iload_n hx hb d_Lw_law_236 rfl (lv_at hl 3 rfl) ?_
                    refine lv_iconst (v := 2) hx hb d_Lw_law_237 (by decide) ?_
                    refine lv_iadd hx hb d_Lw_law_238 ?_
                    obtain ⟨hi_99, hw⟩ := hw
                    refine va_sld hx hb hX0 hbl hbA hS hi_99 d_Lw_law_239 ?_
                    refine k_callVi (As := [.int (xs (x3 + 1).toNatClampNeg), .int (xs (x3 + 2).toNatClampNeg)]) (rest := [.int r_92]) (fun (u : Int32 × (Nat → Int32) × (Nat → Int32)) => wd_Lw_law ad ck lAmt lPl size row start_93 fin_94 kind_95 oT_96 oC_97 amt pln wait held nest skp fmd dvd signs strs skips amts plns rsize rval risP u.1 look bad byZ inr rpl hld store u.2.1 u.2.2 hSg hVl hPl) ⟨hx, hb, hml, hown, hts⟩ (kc_R_token l dC dI ad ck sa sv sf rsize rval risP cnt look bad byZ inr rpl hld store tAt tSz (xs (x3 + 1).toNatClampNeg) (xs (x3 + 2).toNatClampNeg) (hw := hw)) (cwV 2 hts (gV lx_55 lx_57 lx_58 lx_8 lx_56) rfl rfl rfl hd_R_token ⟨Nat.le_of_ble_eq_true rfl, Nat.le_of_ble_eq_true rfl⟩) hKr hP hD hS hA (XR_c sa sv sf) hXr [11, 12, 13, 14] [0, 1, 2, 3, 4, 5, 6, 7, 8, 9, 10, 15, 16, 17] [0, 1, 2, 3, 4, 5, 6, 7, 8, 9, 10, 14, 15, 16, 17, 11, 12, 13] rfl rfl (by decide) (by decide) (fun _ => rfl) (va_recv hKr hP (ci := 5) (q0 := 11) rfl rfl) rfl hl.1 rfl (lv_room (Nat.le_of_ble_eq_true rfl)) d_Lw_law_240 ⟨Nat.le_of_ble_eq_true rfl, Nat.le_of_ble_eq_true rfl⟩ ?_
                    intro r_100 u H locs hw hP hD hS
                    obtain ⟨cnt_101, tAt_102, tSz_103⟩ := u
                    have hP : va_P (dC, dI) vwCl (wd_Lw_law ad ck lAmt lPl size row start_93 fin_94 kind_95 oT_96 oC_97 amt pln wait held nest skp fmd dvd signs strs skips amts plns rsize rval risP cnt_101 look bad byZ inr rpl hld store tAt_102 tSz_103 hSg hVl hPl) H := hP
                    have hD : va_D A (wd_Lw_law ad ck lAmt lPl size row start_93 fin_94 kind_95 oT_96 oC_97 amt pln wait held nest skp fmd dvd signs strs skips amts plns rsize rval risP cnt_101 look bad byZ inr rpl hld store tAt_102 tSz_103 hSg hVl hPl) := hD
                    try dsimp only at hw
                    obtain ⟨hwt, hwf⟩ := hw
                    refine lv_icmp_eq (tgt := 248) hx hb d_Lw_law_243 (by decide) (fun c_104 => ?_) (fun c_104 => ?_)
                    · have hw := hwt c_104
                      obtain ⟨x3_105, ex3_105⟩ : ∃ y : Int32, y = x3 + 4 := ⟨_, rfl⟩
                      have hw := hw x3_105 ex3_105
                      refine lv_iinc (v := x3_105) (lv' := [(3, .int x3_105), (0, .ref b), (1, .ref (ad 0)), (2, .ref (ad 11))]) hx hb d_Lw_law_248 hl (k := 3) rfl (by rw [ex3_105]; rfl) (by decide) rfl (fun ls hl => ?_)
                      refine lv_goto (tgt := 18) hx hb d_Lw_law_251 (by decide) ?_
                      exact ih x3_105 lAmt lPl size row start_93 fin_94 kind_95 oT_96 oC_97 amt pln wait held nest skp fmd dvd signs strs skips amts plns rsize rval risP cnt_101 look bad byZ inr rpl hld store tAt_102 tSz_103 hSg hVl hPl _ _ _ hw hP hD hS (lv_sub hl [1, 2, 3, 0] rfl)
                    · have hw := hwf c_104
                      refine lv_iconst (v := 0) hx hb d_Lw_law_246 (by decide) ?_
                      exact False.elim hw
                  · have hw := hwf c_89
                    have nc_3 := lv_neT c_3 (show (0 : Int32).toInt = 0 from rfl)
                    have nc_18 := lv_neT c_18 (show (1 : Int32).toInt = 1 from rfl)
                    have nc_27 := lv_neT c_27 (show (2 : Int32).toInt = 2 from rfl)
                    have nc_66 := lv_neT c_66 (show (3 : Int32).toInt = 3 from rfl)
                    have nc_71 := lv_neT c_71 (show (4 : Int32).toInt = 4 from rfl)
                    have nc_76 := lv_neT c_76 (show (5 : Int32).toInt = 5 from rfl)
                    have nc_89 := lv_neT c_89 (show (6 : Int32).toInt = 6 from rfl)
                    refine lv_tableOut (tgt := 248) hx hb d_Lw_law_32 (by omega) (by decide) ?_
                    obtain ⟨x3_106, ex3_106⟩ : ∃ y : Int32, y = x3 + 4 := ⟨_, rfl⟩
                    have hw := hw x3_106 ex3_106
                    refine lv_iinc (v := x3_106) (lv' := [(3, .int x3_106), (0, .ref b), (1, .ref (ad 0)), (2, .ref (ad 11))]) hx hb d_Lw_law_248 hl (k := 3) rfl (by rw [ex3_106]; rfl) (by decide) rfl (fun ls hl => ?_)
                    refine lv_goto (tgt := 18) hx hb d_Lw_law_251 (by decide) ?_
                    exact ih x3_106 lAmt lPl size row start fin kind oT oC amt pln wait held nest skp fmd dvd signs strs skips amts plns rsize rval risP cnt look bad byZ inr rpl hld store tAt tSz hSg hVl hPl _ _ _ hw hP hD hS (lv_sub hl [1, 2, 3, 0] rfl)
