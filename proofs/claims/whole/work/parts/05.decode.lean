theorem d_S_isTruth_0 : decode c_S_isTruth 0 = .ok (.iload_n 0, 1) := by decide +kernel
theorem d_S_isTruth_1 : decode c_S_isTruth 1 = .ok (.lookupswitch 77 #[(60, 75), (62, 75), (9766, 75), (15649, 75), (15676, 75), (15677, 75), (15678, 75), (31868, 75)], 75) := by decide +kernel
theorem d_S_isTruth_76 : decode c_S_isTruth 76 = .ok (.iconst 1, 1) := by decide +kernel
theorem d_S_isTruth_77 : decode c_S_isTruth 77 = .ok (.ireturn, 1) := by decide +kernel
theorem d_S_isTruth_78 : decode c_S_isTruth 78 = .ok (.iconst 0, 1) := by decide +kernel
theorem d_S_isTruth_79 : decode c_S_isTruth 79 = .ok (.ireturn, 1) := by decide +kernel
theorem d_S_front_0 : decode c_S_front 0 = .ok (.iload_n 0, 1) := by decide +kernel
theorem d_S_front_1 : decode c_S_front 1 = .ok (.lookupswitch 56 #[(33, 44), (45, 35), (126, 38)], 35) := by decide +kernel
theorem d_S_front_36 : decode c_S_front 36 = .ok (.lload_n 1, 1) := by decide +kernel
theorem d_S_front_37 : decode c_S_front 37 = .ok (.lneg, 1) := by decide +kernel
theorem d_S_front_38 : decode c_S_front 38 = .ok (.lreturn, 1) := by decide +kernel
theorem d_S_front_39 : decode c_S_front 39 = .ok (.lload_n 1, 1) := by decide +kernel
theorem d_S_front_40 : decode c_S_front 40 = .ok (.ldc2_w 9, 3) := by decide +kernel
theorem d_S_front_43 : decode c_S_front 43 = .ok (.lxor, 1) := by decide +kernel
theorem d_S_front_44 : decode c_S_front 44 = .ok (.lreturn, 1) := by decide +kernel
theorem d_S_front_45 : decode c_S_front 45 = .ok (.lload_n 1, 1) := by decide +kernel
theorem d_S_front_46 : decode c_S_front 46 = .ok (.lconst 0, 1) := by decide +kernel
theorem d_S_front_47 : decode c_S_front 47 = .ok (.lcmp, 1) := by decide +kernel
theorem d_S_front_48 : decode c_S_front 48 = .ok (.ifCond .ne 7, 3) := by decide +kernel
theorem d_S_front_51 : decode c_S_front 51 = .ok (.lconst 1, 1) := by decide +kernel
theorem d_S_front_52 : decode c_S_front 52 = .ok (.goto 4, 3) := by decide +kernel
theorem d_S_front_55 : decode c_S_front 55 = .ok (.lconst 0, 1) := by decide +kernel
theorem d_S_front_56 : decode c_S_front 56 = .ok (.lreturn, 1) := by decide +kernel
theorem d_S_front_57 : decode c_S_front 57 = .ok (.lload_n 1, 1) := by decide +kernel
theorem d_S_front_58 : decode c_S_front 58 = .ok (.lreturn, 1) := by decide +kernel
theorem d_S_holds_0 : decode c_S_holds 0 = .ok (.iload 5, 2) := by decide +kernel
theorem d_S_holds_2 : decode c_S_holds 2 = .ok (.ifCond .eq 9, 3) := by decide +kernel
theorem d_S_holds_5 : decode c_S_holds 5 = .ok (.ldc2_w 27, 3) := by decide +kernel
theorem d_S_holds_8 : decode c_S_holds 8 = .ok (.goto 4, 3) := by decide +kernel
theorem d_S_holds_11 : decode c_S_holds 11 = .ok (.lconst 0, 1) := by decide +kernel
theorem d_S_holds_12 : decode c_S_holds 12 = .ok (.lstore 6, 2) := by decide +kernel
theorem d_S_holds_14 : decode c_S_holds 14 = .ok (.iload_n 0, 1) := by decide +kernel
theorem d_S_holds_15 : decode c_S_holds 15 = .ok (.lookupswitch 205 #[(60, 133), (62, 151), (9766, 91), (15649, 121), (15676, 169), (15677, 109), (15678, 187), (31868, 73)], 73) := by decide +kernel
theorem d_S_holds_88 : decode c_S_holds 88 = .ok (.lload_n 1, 1) := by decide +kernel
theorem d_S_holds_89 : decode c_S_holds 89 = .ok (.lconst 0, 1) := by decide +kernel
theorem d_S_holds_90 : decode c_S_holds 90 = .ok (.lcmp, 1) := by decide +kernel
theorem d_S_holds_91 : decode c_S_holds 91 = .ok (.ifCond .ne 9, 3) := by decide +kernel
theorem d_S_holds_94 : decode c_S_holds 94 = .ok (.lload_n 3, 1) := by decide +kernel
theorem d_S_holds_95 : decode c_S_holds 95 = .ok (.lconst 0, 1) := by decide +kernel
theorem d_S_holds_96 : decode c_S_holds 96 = .ok (.lcmp, 1) := by decide +kernel
theorem d_S_holds_97 : decode c_S_holds 97 = .ok (.ifCond .eq 7, 3) := by decide +kernel
theorem d_S_holds_100 : decode c_S_holds 100 = .ok (.iconst 1, 1) := by decide +kernel
theorem d_S_holds_101 : decode c_S_holds 101 = .ok (.goto 4, 3) := by decide +kernel
theorem d_S_holds_104 : decode c_S_holds 104 = .ok (.iconst 0, 1) := by decide +kernel
theorem d_S_holds_105 : decode c_S_holds 105 = .ok (.ireturn, 1) := by decide +kernel
theorem d_S_holds_106 : decode c_S_holds 106 = .ok (.lload_n 1, 1) := by decide +kernel
theorem d_S_holds_107 : decode c_S_holds 107 = .ok (.lconst 0, 1) := by decide +kernel
theorem d_S_holds_108 : decode c_S_holds 108 = .ok (.lcmp, 1) := by decide +kernel
theorem d_S_holds_109 : decode c_S_holds 109 = .ok (.ifCond .eq 13, 3) := by decide +kernel
theorem d_S_holds_112 : decode c_S_holds 112 = .ok (.lload_n 3, 1) := by decide +kernel
theorem d_S_holds_113 : decode c_S_holds 113 = .ok (.lconst 0, 1) := by decide +kernel
theorem d_S_holds_114 : decode c_S_holds 114 = .ok (.lcmp, 1) := by decide +kernel
theorem d_S_holds_115 : decode c_S_holds 115 = .ok (.ifCond .eq 7, 3) := by decide +kernel
theorem d_S_holds_118 : decode c_S_holds 118 = .ok (.iconst 1, 1) := by decide +kernel
theorem d_S_holds_119 : decode c_S_holds 119 = .ok (.goto 4, 3) := by decide +kernel
theorem d_S_holds_122 : decode c_S_holds 122 = .ok (.iconst 0, 1) := by decide +kernel
theorem d_S_holds_123 : decode c_S_holds 123 = .ok (.ireturn, 1) := by decide +kernel
theorem d_S_holds_124 : decode c_S_holds 124 = .ok (.lload_n 1, 1) := by decide +kernel
theorem d_S_holds_125 : decode c_S_holds 125 = .ok (.lload_n 3, 1) := by decide +kernel
theorem d_S_holds_126 : decode c_S_holds 126 = .ok (.lcmp, 1) := by decide +kernel
theorem d_S_holds_127 : decode c_S_holds 127 = .ok (.ifCond .ne 7, 3) := by decide +kernel
theorem d_S_holds_130 : decode c_S_holds 130 = .ok (.iconst 1, 1) := by decide +kernel
theorem d_S_holds_131 : decode c_S_holds 131 = .ok (.goto 4, 3) := by decide +kernel
theorem d_S_holds_134 : decode c_S_holds 134 = .ok (.iconst 0, 1) := by decide +kernel
theorem d_S_holds_135 : decode c_S_holds 135 = .ok (.ireturn, 1) := by decide +kernel
theorem d_S_holds_136 : decode c_S_holds 136 = .ok (.lload_n 1, 1) := by decide +kernel
theorem d_S_holds_137 : decode c_S_holds 137 = .ok (.lload_n 3, 1) := by decide +kernel
theorem d_S_holds_138 : decode c_S_holds 138 = .ok (.lcmp, 1) := by decide +kernel
theorem d_S_holds_139 : decode c_S_holds 139 = .ok (.ifCond .eq 7, 3) := by decide +kernel
theorem d_S_holds_142 : decode c_S_holds 142 = .ok (.iconst 1, 1) := by decide +kernel
theorem d_S_holds_143 : decode c_S_holds 143 = .ok (.goto 4, 3) := by decide +kernel
theorem d_S_holds_146 : decode c_S_holds 146 = .ok (.iconst 0, 1) := by decide +kernel
theorem d_S_holds_147 : decode c_S_holds 147 = .ok (.ireturn, 1) := by decide +kernel
theorem d_S_holds_148 : decode c_S_holds 148 = .ok (.lload_n 1, 1) := by decide +kernel
theorem d_S_holds_149 : decode c_S_holds 149 = .ok (.lload 6, 2) := by decide +kernel
theorem d_S_holds_151 : decode c_S_holds 151 = .ok (.lxor, 1) := by decide +kernel
theorem d_S_holds_152 : decode c_S_holds 152 = .ok (.lload_n 3, 1) := by decide +kernel
theorem d_S_holds_153 : decode c_S_holds 153 = .ok (.lload 6, 2) := by decide +kernel
theorem d_S_holds_155 : decode c_S_holds 155 = .ok (.lxor, 1) := by decide +kernel
theorem d_S_holds_156 : decode c_S_holds 156 = .ok (.lcmp, 1) := by decide +kernel
theorem d_S_holds_157 : decode c_S_holds 157 = .ok (.ifCond .ge 7, 3) := by decide +kernel
theorem d_S_holds_160 : decode c_S_holds 160 = .ok (.iconst 1, 1) := by decide +kernel
theorem d_S_holds_161 : decode c_S_holds 161 = .ok (.goto 4, 3) := by decide +kernel
theorem d_S_holds_164 : decode c_S_holds 164 = .ok (.iconst 0, 1) := by decide +kernel
theorem d_S_holds_165 : decode c_S_holds 165 = .ok (.ireturn, 1) := by decide +kernel
theorem d_S_holds_166 : decode c_S_holds 166 = .ok (.lload_n 1, 1) := by decide +kernel
theorem d_S_holds_167 : decode c_S_holds 167 = .ok (.lload 6, 2) := by decide +kernel
theorem d_S_holds_169 : decode c_S_holds 169 = .ok (.lxor, 1) := by decide +kernel
theorem d_S_holds_170 : decode c_S_holds 170 = .ok (.lload_n 3, 1) := by decide +kernel
theorem d_S_holds_171 : decode c_S_holds 171 = .ok (.lload 6, 2) := by decide +kernel
theorem d_S_holds_173 : decode c_S_holds 173 = .ok (.lxor, 1) := by decide +kernel
theorem d_S_holds_174 : decode c_S_holds 174 = .ok (.lcmp, 1) := by decide +kernel
theorem d_S_holds_175 : decode c_S_holds 175 = .ok (.ifCond .le 7, 3) := by decide +kernel
theorem d_S_holds_178 : decode c_S_holds 178 = .ok (.iconst 1, 1) := by decide +kernel
theorem d_S_holds_179 : decode c_S_holds 179 = .ok (.goto 4, 3) := by decide +kernel
theorem d_S_holds_182 : decode c_S_holds 182 = .ok (.iconst 0, 1) := by decide +kernel
theorem d_S_holds_183 : decode c_S_holds 183 = .ok (.ireturn, 1) := by decide +kernel
theorem d_S_holds_184 : decode c_S_holds 184 = .ok (.lload_n 1, 1) := by decide +kernel
theorem d_S_holds_185 : decode c_S_holds 185 = .ok (.lload 6, 2) := by decide +kernel
theorem d_S_holds_187 : decode c_S_holds 187 = .ok (.lxor, 1) := by decide +kernel
theorem d_S_holds_188 : decode c_S_holds 188 = .ok (.lload_n 3, 1) := by decide +kernel
theorem d_S_holds_189 : decode c_S_holds 189 = .ok (.lload 6, 2) := by decide +kernel
theorem d_S_holds_191 : decode c_S_holds 191 = .ok (.lxor, 1) := by decide +kernel
theorem d_S_holds_192 : decode c_S_holds 192 = .ok (.lcmp, 1) := by decide +kernel
theorem d_S_holds_193 : decode c_S_holds 193 = .ok (.ifCond .gt 7, 3) := by decide +kernel
theorem d_S_holds_196 : decode c_S_holds 196 = .ok (.iconst 1, 1) := by decide +kernel
theorem d_S_holds_197 : decode c_S_holds 197 = .ok (.goto 4, 3) := by decide +kernel
theorem d_S_holds_200 : decode c_S_holds 200 = .ok (.iconst 0, 1) := by decide +kernel
theorem d_S_holds_201 : decode c_S_holds 201 = .ok (.ireturn, 1) := by decide +kernel
theorem d_S_holds_202 : decode c_S_holds 202 = .ok (.lload_n 1, 1) := by decide +kernel
theorem d_S_holds_203 : decode c_S_holds 203 = .ok (.lload 6, 2) := by decide +kernel
theorem d_S_holds_205 : decode c_S_holds 205 = .ok (.lxor, 1) := by decide +kernel
theorem d_S_holds_206 : decode c_S_holds 206 = .ok (.lload_n 3, 1) := by decide +kernel
theorem d_S_holds_207 : decode c_S_holds 207 = .ok (.lload 6, 2) := by decide +kernel
theorem d_S_holds_209 : decode c_S_holds 209 = .ok (.lxor, 1) := by decide +kernel
theorem d_S_holds_210 : decode c_S_holds 210 = .ok (.lcmp, 1) := by decide +kernel
theorem d_S_holds_211 : decode c_S_holds 211 = .ok (.ifCond .lt 7, 3) := by decide +kernel
theorem d_S_holds_214 : decode c_S_holds 214 = .ok (.iconst 1, 1) := by decide +kernel
theorem d_S_holds_215 : decode c_S_holds 215 = .ok (.goto 4, 3) := by decide +kernel
theorem d_S_holds_218 : decode c_S_holds 218 = .ok (.iconst 0, 1) := by decide +kernel
theorem d_S_holds_219 : decode c_S_holds 219 = .ok (.ireturn, 1) := by decide +kernel
theorem d_S_holds_220 : decode c_S_holds 220 = .ok (.iconst 0, 1) := by decide +kernel
theorem d_S_holds_221 : decode c_S_holds 221 = .ok (.ireturn, 1) := by decide +kernel
theorem d_S_quotient_0 : decode c_S_quotient 0 = .ok (.lload_n 2, 1) := by decide +kernel
theorem d_S_quotient_1 : decode c_S_quotient 1 = .ok (.lconst 0, 1) := by decide +kernel
theorem d_S_quotient_2 : decode c_S_quotient 2 = .ok (.lcmp, 1) := by decide +kernel
theorem d_S_quotient_3 : decode c_S_quotient 3 = .ok (.ifCond .ne 5, 3) := by decide +kernel
theorem d_S_quotient_6 : decode c_S_quotient 6 = .ok (.lconst 0, 1) := by decide +kernel
theorem d_S_quotient_7 : decode c_S_quotient 7 = .ok (.lreturn, 1) := by decide +kernel
theorem d_S_quotient_8 : decode c_S_quotient 8 = .ok (.iload 4, 2) := by decide +kernel
theorem d_S_quotient_10 : decode c_S_quotient 10 = .ok (.ifCond .ne 7, 3) := by decide +kernel
theorem d_S_quotient_13 : decode c_S_quotient 13 = .ok (.lload_n 0, 1) := by decide +kernel
theorem d_S_quotient_14 : decode c_S_quotient 14 = .ok (.lload_n 2, 1) := by decide +kernel
theorem d_S_quotient_15 : decode c_S_quotient 15 = .ok (.ldiv, 1) := by decide +kernel
theorem d_S_quotient_16 : decode c_S_quotient 16 = .ok (.lreturn, 1) := by decide +kernel
theorem d_S_quotient_17 : decode c_S_quotient 17 = .ok (.lload_n 2, 1) := by decide +kernel
theorem d_S_quotient_18 : decode c_S_quotient 18 = .ok (.lconst 0, 1) := by decide +kernel
theorem d_S_quotient_19 : decode c_S_quotient 19 = .ok (.lcmp, 1) := by decide +kernel
theorem d_S_quotient_20 : decode c_S_quotient 20 = .ok (.ifCond .ge 23, 3) := by decide +kernel
theorem d_S_quotient_23 : decode c_S_quotient 23 = .ok (.lload_n 0, 1) := by decide +kernel
theorem d_S_quotient_24 : decode c_S_quotient 24 = .ok (.ldc2_w 27, 3) := by decide +kernel
theorem d_S_quotient_27 : decode c_S_quotient 27 = .ok (.lxor, 1) := by decide +kernel
theorem d_S_quotient_28 : decode c_S_quotient 28 = .ok (.lload_n 2, 1) := by decide +kernel
theorem d_S_quotient_29 : decode c_S_quotient 29 = .ok (.ldc2_w 27, 3) := by decide +kernel
theorem d_S_quotient_32 : decode c_S_quotient 32 = .ok (.lxor, 1) := by decide +kernel
theorem d_S_quotient_33 : decode c_S_quotient 33 = .ok (.lcmp, 1) := by decide +kernel
theorem d_S_quotient_34 : decode c_S_quotient 34 = .ok (.ifCond .lt 7, 3) := by decide +kernel
theorem d_S_quotient_37 : decode c_S_quotient 37 = .ok (.lconst 1, 1) := by decide +kernel
theorem d_S_quotient_38 : decode c_S_quotient 38 = .ok (.goto 4, 3) := by decide +kernel
theorem d_S_quotient_41 : decode c_S_quotient 41 = .ok (.lconst 0, 1) := by decide +kernel
theorem d_S_quotient_42 : decode c_S_quotient 42 = .ok (.lreturn, 1) := by decide +kernel
theorem d_S_quotient_43 : decode c_S_quotient 43 = .ok (.lload_n 0, 1) := by decide +kernel
theorem d_S_quotient_44 : decode c_S_quotient 44 = .ok (.iconst 1, 1) := by decide +kernel
theorem d_S_quotient_45 : decode c_S_quotient 45 = .ok (.lushr, 1) := by decide +kernel
theorem d_S_quotient_46 : decode c_S_quotient 46 = .ok (.lload_n 2, 1) := by decide +kernel
theorem d_S_quotient_47 : decode c_S_quotient 47 = .ok (.ldiv, 1) := by decide +kernel
theorem d_S_quotient_48 : decode c_S_quotient 48 = .ok (.iconst 1, 1) := by decide +kernel
theorem d_S_quotient_49 : decode c_S_quotient 49 = .ok (.lshl, 1) := by decide +kernel
theorem d_S_quotient_50 : decode c_S_quotient 50 = .ok (.lstore 5, 2) := by decide +kernel
theorem d_S_quotient_52 : decode c_S_quotient 52 = .ok (.lload_n 0, 1) := by decide +kernel
theorem d_S_quotient_53 : decode c_S_quotient 53 = .ok (.lload 5, 2) := by decide +kernel
theorem d_S_quotient_55 : decode c_S_quotient 55 = .ok (.lload_n 2, 1) := by decide +kernel
theorem d_S_quotient_56 : decode c_S_quotient 56 = .ok (.lmul, 1) := by decide +kernel
theorem d_S_quotient_57 : decode c_S_quotient 57 = .ok (.lsub, 1) := by decide +kernel
theorem d_S_quotient_58 : decode c_S_quotient 58 = .ok (.lstore 7, 2) := by decide +kernel
theorem d_S_quotient_60 : decode c_S_quotient 60 = .ok (.lload 7, 2) := by decide +kernel
theorem d_S_quotient_62 : decode c_S_quotient 62 = .ok (.ldc2_w 27, 3) := by decide +kernel
theorem d_S_quotient_65 : decode c_S_quotient 65 = .ok (.lxor, 1) := by decide +kernel
theorem d_S_quotient_66 : decode c_S_quotient 66 = .ok (.lload_n 2, 1) := by decide +kernel
theorem d_S_quotient_67 : decode c_S_quotient 67 = .ok (.ldc2_w 27, 3) := by decide +kernel
theorem d_S_quotient_70 : decode c_S_quotient 70 = .ok (.lxor, 1) := by decide +kernel
theorem d_S_quotient_71 : decode c_S_quotient 71 = .ok (.lcmp, 1) := by decide +kernel
theorem d_S_quotient_72 : decode c_S_quotient 72 = .ok (.ifCond .lt 10, 3) := by decide +kernel
theorem d_S_quotient_75 : decode c_S_quotient 75 = .ok (.lload 5, 2) := by decide +kernel
theorem d_S_quotient_77 : decode c_S_quotient 77 = .ok (.lconst 1, 1) := by decide +kernel
theorem d_S_quotient_78 : decode c_S_quotient 78 = .ok (.ladd, 1) := by decide +kernel
theorem d_S_quotient_79 : decode c_S_quotient 79 = .ok (.goto 5, 3) := by decide +kernel
theorem d_S_quotient_82 : decode c_S_quotient 82 = .ok (.lload 5, 2) := by decide +kernel
theorem d_S_quotient_84 : decode c_S_quotient 84 = .ok (.lreturn, 1) := by decide +kernel
theorem d_S_pair_0 : decode c_S_pair 0 = .ok (.iload_n 0, 1) := by decide +kernel
theorem d_S_pair_1 : decode c_S_pair 1 = .ok (.invokestatic 11, 3) := by decide +kernel
theorem d_S_pair_4 : decode c_S_pair 4 = .ok (.ifCond .eq 20, 3) := by decide +kernel
theorem d_S_pair_7 : decode c_S_pair 7 = .ok (.iload_n 0, 1) := by decide +kernel
theorem d_S_pair_8 : decode c_S_pair 8 = .ok (.lload_n 1, 1) := by decide +kernel
theorem d_S_pair_9 : decode c_S_pair 9 = .ok (.lload_n 3, 1) := by decide +kernel
theorem d_S_pair_10 : decode c_S_pair 10 = .ok (.iload 5, 2) := by decide +kernel
theorem d_S_pair_12 : decode c_S_pair 12 = .ok (.invokestatic 17, 3) := by decide +kernel
theorem d_S_pair_15 : decode c_S_pair 15 = .ok (.ifCond .eq 7, 3) := by decide +kernel
theorem d_S_pair_18 : decode c_S_pair 18 = .ok (.lconst 1, 1) := by decide +kernel
theorem d_S_pair_19 : decode c_S_pair 19 = .ok (.goto 4, 3) := by decide +kernel
theorem d_S_pair_22 : decode c_S_pair 22 = .ok (.lconst 0, 1) := by decide +kernel
theorem d_S_pair_23 : decode c_S_pair 23 = .ok (.lreturn, 1) := by decide +kernel
theorem d_S_pair_24 : decode c_S_pair 24 = .ok (.iload_n 0, 1) := by decide +kernel
theorem d_S_pair_25 : decode c_S_pair 25 = .ok (.lookupswitch 169 #[(37, 157), (38, 99), (42, 145), (43, 137), (45, 141), (47, 149), (94, 95), (124, 91), (15420, 103), (15934, 112)], 91) := by decide +kernel
theorem d_S_pair_116 : decode c_S_pair 116 = .ok (.lload_n 1, 1) := by decide +kernel
theorem d_S_pair_117 : decode c_S_pair 117 = .ok (.lload_n 3, 1) := by decide +kernel
theorem d_S_pair_118 : decode c_S_pair 118 = .ok (.lor, 1) := by decide +kernel
theorem d_S_pair_119 : decode c_S_pair 119 = .ok (.lreturn, 1) := by decide +kernel
theorem d_S_pair_120 : decode c_S_pair 120 = .ok (.lload_n 1, 1) := by decide +kernel
theorem d_S_pair_121 : decode c_S_pair 121 = .ok (.lload_n 3, 1) := by decide +kernel
theorem d_S_pair_122 : decode c_S_pair 122 = .ok (.lxor, 1) := by decide +kernel
theorem d_S_pair_123 : decode c_S_pair 123 = .ok (.lreturn, 1) := by decide +kernel
theorem d_S_pair_124 : decode c_S_pair 124 = .ok (.lload_n 1, 1) := by decide +kernel
theorem d_S_pair_125 : decode c_S_pair 125 = .ok (.lload_n 3, 1) := by decide +kernel
theorem d_S_pair_126 : decode c_S_pair 126 = .ok (.land, 1) := by decide +kernel
theorem d_S_pair_127 : decode c_S_pair 127 = .ok (.lreturn, 1) := by decide +kernel
theorem d_S_pair_128 : decode c_S_pair 128 = .ok (.lload_n 1, 1) := by decide +kernel
theorem d_S_pair_129 : decode c_S_pair 129 = .ok (.lload_n 3, 1) := by decide +kernel
theorem d_S_pair_130 : decode c_S_pair 130 = .ok (.ldc2_w 21, 3) := by decide +kernel
theorem d_S_pair_133 : decode c_S_pair 133 = .ok (.land, 1) := by decide +kernel
theorem d_S_pair_134 : decode c_S_pair 134 = .ok (.l2i, 1) := by decide +kernel
theorem d_S_pair_135 : decode c_S_pair 135 = .ok (.lshl, 1) := by decide +kernel
theorem d_S_pair_136 : decode c_S_pair 136 = .ok (.lreturn, 1) := by decide +kernel
theorem d_S_pair_137 : decode c_S_pair 137 = .ok (.iload 5, 2) := by decide +kernel
theorem d_S_pair_139 : decode c_S_pair 139 = .ok (.ifCond .eq 14, 3) := by decide +kernel
theorem d_S_pair_142 : decode c_S_pair 142 = .ok (.lload_n 1, 1) := by decide +kernel
theorem d_S_pair_143 : decode c_S_pair 143 = .ok (.lload_n 3, 1) := by decide +kernel
theorem d_S_pair_144 : decode c_S_pair 144 = .ok (.ldc2_w 21, 3) := by decide +kernel
theorem d_S_pair_147 : decode c_S_pair 147 = .ok (.land, 1) := by decide +kernel
theorem d_S_pair_148 : decode c_S_pair 148 = .ok (.l2i, 1) := by decide +kernel
theorem d_S_pair_149 : decode c_S_pair 149 = .ok (.lushr, 1) := by decide +kernel
theorem d_S_pair_150 : decode c_S_pair 150 = .ok (.goto 11, 3) := by decide +kernel
theorem d_S_pair_153 : decode c_S_pair 153 = .ok (.lload_n 1, 1) := by decide +kernel
theorem d_S_pair_154 : decode c_S_pair 154 = .ok (.lload_n 3, 1) := by decide +kernel
theorem d_S_pair_155 : decode c_S_pair 155 = .ok (.ldc2_w 21, 3) := by decide +kernel
theorem d_S_pair_158 : decode c_S_pair 158 = .ok (.land, 1) := by decide +kernel
theorem d_S_pair_159 : decode c_S_pair 159 = .ok (.l2i, 1) := by decide +kernel
theorem d_S_pair_160 : decode c_S_pair 160 = .ok (.lshr, 1) := by decide +kernel
theorem d_S_pair_161 : decode c_S_pair 161 = .ok (.lreturn, 1) := by decide +kernel
theorem d_S_pair_162 : decode c_S_pair 162 = .ok (.lload_n 1, 1) := by decide +kernel
theorem d_S_pair_163 : decode c_S_pair 163 = .ok (.lload_n 3, 1) := by decide +kernel
theorem d_S_pair_164 : decode c_S_pair 164 = .ok (.ladd, 1) := by decide +kernel
theorem d_S_pair_165 : decode c_S_pair 165 = .ok (.lreturn, 1) := by decide +kernel
theorem d_S_pair_166 : decode c_S_pair 166 = .ok (.lload_n 1, 1) := by decide +kernel
theorem d_S_pair_167 : decode c_S_pair 167 = .ok (.lload_n 3, 1) := by decide +kernel
theorem d_S_pair_168 : decode c_S_pair 168 = .ok (.lsub, 1) := by decide +kernel
theorem d_S_pair_169 : decode c_S_pair 169 = .ok (.lreturn, 1) := by decide +kernel
theorem d_S_pair_170 : decode c_S_pair 170 = .ok (.lload_n 1, 1) := by decide +kernel
theorem d_S_pair_171 : decode c_S_pair 171 = .ok (.lload_n 3, 1) := by decide +kernel
theorem d_S_pair_172 : decode c_S_pair 172 = .ok (.lmul, 1) := by decide +kernel
theorem d_S_pair_173 : decode c_S_pair 173 = .ok (.lreturn, 1) := by decide +kernel
theorem d_S_pair_174 : decode c_S_pair 174 = .ok (.lload_n 1, 1) := by decide +kernel
theorem d_S_pair_175 : decode c_S_pair 175 = .ok (.lload_n 3, 1) := by decide +kernel
theorem d_S_pair_176 : decode c_S_pair 176 = .ok (.iload 5, 2) := by decide +kernel
theorem d_S_pair_178 : decode c_S_pair 178 = .ok (.invokestatic 23, 3) := by decide +kernel
theorem d_S_pair_181 : decode c_S_pair 181 = .ok (.lreturn, 1) := by decide +kernel
theorem d_S_pair_182 : decode c_S_pair 182 = .ok (.lload_n 1, 1) := by decide +kernel
theorem d_S_pair_183 : decode c_S_pair 183 = .ok (.lload_n 1, 1) := by decide +kernel
theorem d_S_pair_184 : decode c_S_pair 184 = .ok (.lload_n 3, 1) := by decide +kernel
theorem d_S_pair_185 : decode c_S_pair 185 = .ok (.iload 5, 2) := by decide +kernel
theorem d_S_pair_187 : decode c_S_pair 187 = .ok (.invokestatic 23, 3) := by decide +kernel
theorem d_S_pair_190 : decode c_S_pair 190 = .ok (.lload_n 3, 1) := by decide +kernel
theorem d_S_pair_191 : decode c_S_pair 191 = .ok (.lmul, 1) := by decide +kernel
theorem d_S_pair_192 : decode c_S_pair 192 = .ok (.lsub, 1) := by decide +kernel
theorem d_S_pair_193 : decode c_S_pair 193 = .ok (.lreturn, 1) := by decide +kernel
theorem d_S_pair_194 : decode c_S_pair 194 = .ok (.lconst 0, 1) := by decide +kernel
theorem d_S_pair_195 : decode c_S_pair 195 = .ok (.lreturn, 1) := by decide +kernel
theorem d_K_nest_0 : decode c_K_nest 0 = .ok (.aload_n 0, 1) := by decide +kernel
theorem d_K_nest_1 : decode c_K_nest 1 = .ok (.dup, 1) := by decide +kernel
theorem d_K_nest_2 : decode c_K_nest 2 = .ok (.getfield 73, 3) := by decide +kernel
theorem d_K_nest_5 : decode c_K_nest 5 = .ok (.iconst 1, 1) := by decide +kernel
theorem d_K_nest_6 : decode c_K_nest 6 = .ok (.iadd, 1) := by decide +kernel
theorem d_K_nest_7 : decode c_K_nest 7 = .ok (.putfield 73, 3) := by decide +kernel
theorem d_K_nest_10 : decode c_K_nest 10 = .ok (.aload_n 0, 1) := by decide +kernel
theorem d_K_nest_11 : decode c_K_nest 11 = .ok (.getfield 73, 3) := by decide +kernel
theorem d_K_nest_14 : decode c_K_nest 14 = .ok (.bipush 60, 2) := by decide +kernel
theorem d_K_nest_16 : decode c_K_nest 16 = .ok (.if_icmp .le 8, 3) := by decide +kernel
theorem d_K_nest_19 : decode c_K_nest 19 = .ok (.aload_n 0, 1) := by decide +kernel
theorem d_K_nest_20 : decode c_K_nest 20 = .ok (.iconst 0, 1) := by decide +kernel
theorem d_K_nest_21 : decode c_K_nest 21 = .ok (.putfield 40, 3) := by decide +kernel
theorem d_K_nest_24 : decode c_K_nest 24 = .ok (.return_, 1) := by decide +kernel
theorem d_K_hold_0 : decode c_K_hold 0 = .ok (.aload_n 0, 1) := by decide +kernel
theorem d_K_hold_1 : decode c_K_hold 1 = .ok (.getfield 64, 3) := by decide +kernel
theorem d_K_hold_4 : decode c_K_hold 4 = .ok (.sipush 670, 3) := by decide +kernel
theorem d_K_hold_7 : decode c_K_hold 7 = .ok (.if_icmp .le 9, 3) := by decide +kernel
theorem d_K_hold_10 : decode c_K_hold 10 = .ok (.aload_n 0, 1) := by decide +kernel
theorem d_K_hold_11 : decode c_K_hold 11 = .ok (.iconst 0, 1) := by decide +kernel
theorem d_K_hold_12 : decode c_K_hold 12 = .ok (.putfield 40, 3) := by decide +kernel
theorem d_K_hold_15 : decode c_K_hold 15 = .ok (.return_, 1) := by decide +kernel
theorem d_K_hold_16 : decode c_K_hold 16 = .ok (.aload_n 0, 1) := by decide +kernel
theorem d_K_hold_17 : decode c_K_hold 17 = .ok (.getfield 22, 3) := by decide +kernel
theorem d_K_hold_20 : decode c_K_hold 20 = .ok (.aload_n 0, 1) := by decide +kernel
theorem d_K_hold_21 : decode c_K_hold 21 = .ok (.getfield 64, 3) := by decide +kernel
theorem d_K_hold_24 : decode c_K_hold 24 = .ok (.lload_n 1, 1) := by decide +kernel
theorem d_K_hold_25 : decode c_K_hold 25 = .ok (.lastore, 1) := by decide +kernel
theorem d_K_hold_26 : decode c_K_hold 26 = .ok (.aload_n 0, 1) := by decide +kernel
theorem d_K_hold_27 : decode c_K_hold 27 = .ok (.getfield 26, 3) := by decide +kernel
theorem d_K_hold_30 : decode c_K_hold 30 = .ok (.aload_n 0, 1) := by decide +kernel
theorem d_K_hold_31 : decode c_K_hold 31 = .ok (.getfield 64, 3) := by decide +kernel
theorem d_K_hold_34 : decode c_K_hold 34 = .ok (.iload_n 3, 1) := by decide +kernel
theorem d_K_hold_35 : decode c_K_hold 35 = .ok (.bastore, 1) := by decide +kernel
theorem d_K_hold_36 : decode c_K_hold 36 = .ok (.aload_n 0, 1) := by decide +kernel
theorem d_K_hold_37 : decode c_K_hold 37 = .ok (.dup, 1) := by decide +kernel
theorem d_K_hold_38 : decode c_K_hold 38 = .ok (.getfield 64, 3) := by decide +kernel
theorem d_K_hold_41 : decode c_K_hold 41 = .ok (.iconst 1, 1) := by decide +kernel
theorem d_K_hold_42 : decode c_K_hold 42 = .ok (.iadd, 1) := by decide +kernel
theorem d_K_hold_43 : decode c_K_hold 43 = .ok (.putfield 64, 3) := by decide +kernel
theorem d_K_hold_46 : decode c_K_hold 46 = .ok (.return_, 1) := by decide +kernel
theorem d_K_await_0 : decode c_K_await 0 = .ok (.aload_n 0, 1) := by decide +kernel
theorem d_K_await_1 : decode c_K_await 1 = .ok (.getfield 60, 3) := by decide +kernel
theorem d_K_await_4 : decode c_K_await 4 = .ok (.sipush 670, 3) := by decide +kernel
theorem d_K_await_7 : decode c_K_await 7 = .ok (.if_icmp .lt 9, 3) := by decide +kernel
theorem d_K_await_10 : decode c_K_await 10 = .ok (.aload_n 0, 1) := by decide +kernel
theorem d_K_await_11 : decode c_K_await 11 = .ok (.iconst 0, 1) := by decide +kernel
theorem d_K_await_12 : decode c_K_await 12 = .ok (.putfield 40, 3) := by decide +kernel
theorem d_K_await_15 : decode c_K_await 15 = .ok (.return_, 1) := by decide +kernel
theorem d_K_await_16 : decode c_K_await 16 = .ok (.aload_n 0, 1) := by decide +kernel
theorem d_K_await_17 : decode c_K_await 17 = .ok (.getfield 11, 3) := by decide +kernel
theorem d_K_await_20 : decode c_K_await 20 = .ok (.aload_n 0, 1) := by decide +kernel
theorem d_K_await_21 : decode c_K_await 21 = .ok (.getfield 60, 3) := by decide +kernel
theorem d_K_await_24 : decode c_K_await 24 = .ok (.iload_n 1, 1) := by decide +kernel
theorem d_K_await_25 : decode c_K_await 25 = .ok (.iastore, 1) := by decide +kernel
theorem d_K_await_26 : decode c_K_await 26 = .ok (.aload_n 0, 1) := by decide +kernel
theorem d_K_await_27 : decode c_K_await 27 = .ok (.getfield 15, 3) := by decide +kernel
theorem d_K_await_30 : decode c_K_await 30 = .ok (.aload_n 0, 1) := by decide +kernel
theorem d_K_await_31 : decode c_K_await 31 = .ok (.getfield 60, 3) := by decide +kernel
theorem d_K_await_34 : decode c_K_await 34 = .ok (.iload_n 2, 1) := by decide +kernel
theorem d_K_await_35 : decode c_K_await 35 = .ok (.iastore, 1) := by decide +kernel
theorem d_K_await_36 : decode c_K_await 36 = .ok (.aload_n 0, 1) := by decide +kernel
theorem d_K_await_37 : decode c_K_await 37 = .ok (.getfield 18, 3) := by decide +kernel
theorem d_K_await_40 : decode c_K_await 40 = .ok (.aload_n 0, 1) := by decide +kernel
theorem d_K_await_41 : decode c_K_await 41 = .ok (.getfield 60, 3) := by decide +kernel
theorem d_K_await_44 : decode c_K_await 44 = .ok (.iload_n 3, 1) := by decide +kernel
theorem d_K_await_45 : decode c_K_await 45 = .ok (.bastore, 1) := by decide +kernel
theorem d_K_await_46 : decode c_K_await 46 = .ok (.aload_n 0, 1) := by decide +kernel
theorem d_K_await_47 : decode c_K_await 47 = .ok (.dup, 1) := by decide +kernel
theorem d_K_await_48 : decode c_K_await 48 = .ok (.getfield 60, 3) := by decide +kernel
theorem d_K_await_51 : decode c_K_await 51 = .ok (.iconst 1, 1) := by decide +kernel
theorem d_K_await_52 : decode c_K_await 52 = .ok (.iadd, 1) := by decide +kernel
theorem d_K_await_53 : decode c_K_await 53 = .ok (.putfield 60, 3) := by decide +kernel
theorem d_K_await_56 : decode c_K_await 56 = .ok (.iload_n 3, 1) := by decide +kernel
theorem d_K_await_57 : decode c_K_await 57 = .ok (.ifCond .eq 13, 3) := by decide +kernel
theorem d_K_await_60 : decode c_K_await 60 = .ok (.aload_n 0, 1) := by decide +kernel
theorem d_K_await_61 : decode c_K_await 61 = .ok (.dup, 1) := by decide +kernel
theorem d_K_await_62 : decode c_K_await 62 = .ok (.getfield 76, 3) := by decide +kernel
theorem d_K_await_65 : decode c_K_await 65 = .ok (.iconst 1, 1) := by decide +kernel
theorem d_K_await_66 : decode c_K_await 66 = .ok (.iadd, 1) := by decide +kernel
theorem d_K_await_67 : decode c_K_await 67 = .ok (.putfield 76, 3) := by decide +kernel
theorem d_K_await_70 : decode c_K_await 70 = .ok (.return_, 1) := by decide +kernel
theorem d_K_endWait_0 : decode c_K_endWait 0 = .ok (.aload_n 0, 1) := by decide +kernel
theorem d_K_endWait_1 : decode c_K_endWait 1 = .ok (.getfield 60, 3) := by decide +kernel
theorem d_K_endWait_4 : decode c_K_endWait 4 = .ok (.ifCond .le 35, 3) := by decide +kernel
theorem d_K_endWait_7 : decode c_K_endWait 7 = .ok (.aload_n 0, 1) := by decide +kernel
theorem d_K_endWait_8 : decode c_K_endWait 8 = .ok (.dup, 1) := by decide +kernel
theorem d_K_endWait_9 : decode c_K_endWait 9 = .ok (.getfield 60, 3) := by decide +kernel
theorem d_K_endWait_12 : decode c_K_endWait 12 = .ok (.iconst 1, 1) := by decide +kernel
theorem d_K_endWait_13 : decode c_K_endWait 13 = .ok (.isub, 1) := by decide +kernel
theorem d_K_endWait_14 : decode c_K_endWait 14 = .ok (.putfield 60, 3) := by decide +kernel
theorem d_K_endWait_17 : decode c_K_endWait 17 = .ok (.aload_n 0, 1) := by decide +kernel
theorem d_K_endWait_18 : decode c_K_endWait 18 = .ok (.getfield 18, 3) := by decide +kernel
theorem d_K_endWait_21 : decode c_K_endWait 21 = .ok (.aload_n 0, 1) := by decide +kernel
theorem d_K_endWait_22 : decode c_K_endWait 22 = .ok (.getfield 60, 3) := by decide +kernel
theorem d_K_endWait_25 : decode c_K_endWait 25 = .ok (.baload, 1) := by decide +kernel
theorem d_K_endWait_26 : decode c_K_endWait 26 = .ok (.ifCond .eq 13, 3) := by decide +kernel
theorem d_K_endWait_29 : decode c_K_endWait 29 = .ok (.aload_n 0, 1) := by decide +kernel
theorem d_K_endWait_30 : decode c_K_endWait 30 = .ok (.dup, 1) := by decide +kernel
theorem d_K_endWait_31 : decode c_K_endWait 31 = .ok (.getfield 76, 3) := by decide +kernel
theorem d_K_endWait_34 : decode c_K_endWait 34 = .ok (.iconst 1, 1) := by decide +kernel
theorem d_K_endWait_35 : decode c_K_endWait 35 = .ok (.isub, 1) := by decide +kernel
theorem d_K_endWait_36 : decode c_K_endWait 36 = .ok (.putfield 76, 3) := by decide +kernel
theorem d_K_endWait_39 : decode c_K_endWait 39 = .ok (.return_, 1) := by decide +kernel
theorem d_K_isOpen_0 : decode c_K_isOpen 0 = .ok (.aload_n 0, 1) := by decide +kernel
theorem d_K_isOpen_1 : decode c_K_isOpen 1 = .ok (.getfield 60, 3) := by decide +kernel
theorem d_K_isOpen_4 : decode c_K_isOpen 4 = .ok (.ifCond .le 37, 3) := by decide +kernel
theorem d_K_isOpen_7 : decode c_K_isOpen 7 = .ok (.aload_n 0, 1) := by decide +kernel
theorem d_K_isOpen_8 : decode c_K_isOpen 8 = .ok (.getfield 11, 3) := by decide +kernel
theorem d_K_isOpen_11 : decode c_K_isOpen 11 = .ok (.aload_n 0, 1) := by decide +kernel
theorem d_K_isOpen_12 : decode c_K_isOpen 12 = .ok (.getfield 60, 3) := by decide +kernel
theorem d_K_isOpen_15 : decode c_K_isOpen 15 = .ok (.iconst 1, 1) := by decide +kernel
theorem d_K_isOpen_16 : decode c_K_isOpen 16 = .ok (.isub, 1) := by decide +kernel
theorem d_K_isOpen_17 : decode c_K_isOpen 17 = .ok (.iaload, 1) := by decide +kernel
theorem d_K_isOpen_18 : decode c_K_isOpen 18 = .ok (.iload_n 1, 1) := by decide +kernel
theorem d_K_isOpen_19 : decode c_K_isOpen 19 = .ok (.if_icmp .ne 22, 3) := by decide +kernel
theorem d_K_isOpen_22 : decode c_K_isOpen 22 = .ok (.aload_n 0, 1) := by decide +kernel
theorem d_K_isOpen_23 : decode c_K_isOpen 23 = .ok (.getfield 15, 3) := by decide +kernel
theorem d_K_isOpen_26 : decode c_K_isOpen 26 = .ok (.aload_n 0, 1) := by decide +kernel
theorem d_K_isOpen_27 : decode c_K_isOpen 27 = .ok (.getfield 60, 3) := by decide +kernel
theorem d_K_isOpen_30 : decode c_K_isOpen 30 = .ok (.iconst 1, 1) := by decide +kernel
theorem d_K_isOpen_31 : decode c_K_isOpen 31 = .ok (.isub, 1) := by decide +kernel
theorem d_K_isOpen_32 : decode c_K_isOpen 32 = .ok (.iaload, 1) := by decide +kernel
theorem d_K_isOpen_33 : decode c_K_isOpen 33 = .ok (.iconst (-1), 1) := by decide +kernel
theorem d_K_isOpen_34 : decode c_K_isOpen 34 = .ok (.if_icmp .ne 7, 3) := by decide +kernel
theorem d_K_isOpen_37 : decode c_K_isOpen 37 = .ok (.iconst 1, 1) := by decide +kernel
theorem d_K_isOpen_38 : decode c_K_isOpen 38 = .ok (.goto 4, 3) := by decide +kernel
theorem d_K_isOpen_41 : decode c_K_isOpen 41 = .ok (.iconst 0, 1) := by decide +kernel
theorem d_K_isOpen_42 : decode c_K_isOpen 42 = .ok (.ireturn, 1) := by decide +kernel
theorem d_K_skipsRight_0 : decode c_K_skipsRight 0 = .ok (.aload_n 0, 1) := by decide +kernel
theorem d_K_skipsRight_1 : decode c_K_skipsRight 1 = .ok (.getfield 22, 3) := by decide +kernel
theorem d_K_skipsRight_4 : decode c_K_skipsRight 4 = .ok (.aload_n 0, 1) := by decide +kernel
theorem d_K_skipsRight_5 : decode c_K_skipsRight 5 = .ok (.getfield 64, 3) := by decide +kernel
theorem d_K_skipsRight_8 : decode c_K_skipsRight 8 = .ok (.iconst 1, 1) := by decide +kernel
theorem d_K_skipsRight_9 : decode c_K_skipsRight 9 = .ok (.isub, 1) := by decide +kernel
theorem d_K_skipsRight_10 : decode c_K_skipsRight 10 = .ok (.laload, 1) := by decide +kernel
theorem d_K_skipsRight_11 : decode c_K_skipsRight 11 = .ok (.lconst 0, 1) := by decide +kernel
theorem d_K_skipsRight_12 : decode c_K_skipsRight 12 = .ok (.lcmp, 1) := by decide +kernel
theorem d_K_skipsRight_13 : decode c_K_skipsRight 13 = .ok (.ifCond .ne 7, 3) := by decide +kernel
theorem d_K_skipsRight_16 : decode c_K_skipsRight 16 = .ok (.iconst 1, 1) := by decide +kernel
theorem d_K_skipsRight_17 : decode c_K_skipsRight 17 = .ok (.goto 4, 3) := by decide +kernel
theorem d_K_skipsRight_20 : decode c_K_skipsRight 20 = .ok (.iconst 0, 1) := by decide +kernel
theorem d_K_skipsRight_21 : decode c_K_skipsRight 21 = .ok (.istore_n 2, 1) := by decide +kernel
theorem d_K_skipsRight_22 : decode c_K_skipsRight 22 = .ok (.iload_n 1, 1) := by decide +kernel
theorem d_K_skipsRight_23 : decode c_K_skipsRight 23 = .ok (.sipush 9766, 3) := by decide +kernel
theorem d_K_skipsRight_26 : decode c_K_skipsRight 26 = .ok (.if_icmp .ne 7, 3) := by decide +kernel
theorem d_K_skipsRight_29 : decode c_K_skipsRight 29 = .ok (.iload_n 2, 1) := by decide +kernel
theorem d_K_skipsRight_30 : decode c_K_skipsRight 30 = .ok (.ifCond .ne 14, 3) := by decide +kernel
theorem d_K_skipsRight_33 : decode c_K_skipsRight 33 = .ok (.iload_n 1, 1) := by decide +kernel
theorem d_K_skipsRight_34 : decode c_K_skipsRight 34 = .ok (.sipush 31868, 3) := by decide +kernel
theorem d_K_skipsRight_37 : decode c_K_skipsRight 37 = .ok (.if_icmp .ne 11, 3) := by decide +kernel
theorem d_K_skipsRight_40 : decode c_K_skipsRight 40 = .ok (.iload_n 2, 1) := by decide +kernel
theorem d_K_skipsRight_41 : decode c_K_skipsRight 41 = .ok (.ifCond .ne 7, 3) := by decide +kernel
theorem d_K_skipsRight_44 : decode c_K_skipsRight 44 = .ok (.iconst 1, 1) := by decide +kernel
theorem d_K_skipsRight_45 : decode c_K_skipsRight 45 = .ok (.goto 4, 3) := by decide +kernel
theorem d_K_skipsRight_48 : decode c_K_skipsRight 48 = .ok (.iconst 0, 1) := by decide +kernel
theorem d_K_skipsRight_49 : decode c_K_skipsRight 49 = .ok (.ireturn, 1) := by decide +kernel
theorem d_K_strengthOf_0 : decode c_K_strengthOf 0 = .ok (.iload_n 0, 1) := by decide +kernel
theorem d_K_strengthOf_1 : decode c_K_strengthOf 1 = .ok (.lookupswitch 206 #[(37, 203), (38, 189), (41, 179), (42, 203), (43, 200), (45, 200), (47, 203), (58, 179), (60, 194), (62, 194), (63, 181), (94, 187), (124, 185), (9766, 183), (15420, 197), (15649, 191), (15676, 194), (15677, 191), (15678, 194), (15934, 197), (31868, 181)], 179) := by decide +kernel
theorem d_K_strengthOf_180 : decode c_K_strengthOf 180 = .ok (.iconst 0, 1) := by decide +kernel
theorem d_K_strengthOf_181 : decode c_K_strengthOf 181 = .ok (.ireturn, 1) := by decide +kernel
theorem d_K_strengthOf_182 : decode c_K_strengthOf 182 = .ok (.iconst 1, 1) := by decide +kernel
theorem d_K_strengthOf_183 : decode c_K_strengthOf 183 = .ok (.ireturn, 1) := by decide +kernel
theorem d_K_strengthOf_184 : decode c_K_strengthOf 184 = .ok (.iconst 2, 1) := by decide +kernel
theorem d_K_strengthOf_185 : decode c_K_strengthOf 185 = .ok (.ireturn, 1) := by decide +kernel
theorem d_K_strengthOf_186 : decode c_K_strengthOf 186 = .ok (.iconst 3, 1) := by decide +kernel
theorem d_K_strengthOf_187 : decode c_K_strengthOf 187 = .ok (.ireturn, 1) := by decide +kernel
theorem d_K_strengthOf_188 : decode c_K_strengthOf 188 = .ok (.iconst 4, 1) := by decide +kernel
theorem d_K_strengthOf_189 : decode c_K_strengthOf 189 = .ok (.ireturn, 1) := by decide +kernel
theorem d_K_strengthOf_190 : decode c_K_strengthOf 190 = .ok (.iconst 5, 1) := by decide +kernel
theorem d_K_strengthOf_191 : decode c_K_strengthOf 191 = .ok (.ireturn, 1) := by decide +kernel
theorem d_K_strengthOf_192 : decode c_K_strengthOf 192 = .ok (.bipush 6, 2) := by decide +kernel
theorem d_K_strengthOf_194 : decode c_K_strengthOf 194 = .ok (.ireturn, 1) := by decide +kernel
theorem d_K_strengthOf_195 : decode c_K_strengthOf 195 = .ok (.bipush 7, 2) := by decide +kernel
theorem d_K_strengthOf_197 : decode c_K_strengthOf 197 = .ok (.ireturn, 1) := by decide +kernel
theorem d_K_strengthOf_198 : decode c_K_strengthOf 198 = .ok (.bipush 8, 2) := by decide +kernel
theorem d_K_strengthOf_200 : decode c_K_strengthOf 200 = .ok (.ireturn, 1) := by decide +kernel
theorem d_K_strengthOf_201 : decode c_K_strengthOf 201 = .ok (.bipush 9, 2) := by decide +kernel
theorem d_K_strengthOf_203 : decode c_K_strengthOf 203 = .ok (.ireturn, 1) := by decide +kernel
theorem d_K_strengthOf_204 : decode c_K_strengthOf 204 = .ok (.bipush 10, 2) := by decide +kernel
theorem d_K_strengthOf_206 : decode c_K_strengthOf 206 = .ok (.ireturn, 1) := by decide +kernel
theorem d_K_strengthOf_207 : decode c_K_strengthOf 207 = .ok (.bipush 99, 2) := by decide +kernel
theorem d_K_strengthOf_209 : decode c_K_strengthOf 209 = .ok (.ireturn, 1) := by decide +kernel
theorem d_K_clear_0 : decode c_K_clear 0 = .ok (.aload_n 0, 1) := by decide +kernel
theorem d_K_clear_1 : decode c_K_clear 1 = .ok (.getfield 29, 3) := by decide +kernel
theorem d_K_clear_4 : decode c_K_clear 4 = .ok (.invokevirtual 70, 3) := by decide +kernel
theorem d_K_clear_7 : decode c_K_clear 7 = .ok (.aload_n 0, 1) := by decide +kernel
theorem d_K_clear_8 : decode c_K_clear 8 = .ok (.iconst 0, 1) := by decide +kernel
theorem d_K_clear_9 : decode c_K_clear 9 = .ok (.putfield 60, 3) := by decide +kernel
theorem d_K_clear_12 : decode c_K_clear 12 = .ok (.aload_n 0, 1) := by decide +kernel
theorem d_K_clear_13 : decode c_K_clear 13 = .ok (.iconst 0, 1) := by decide +kernel
theorem d_K_clear_14 : decode c_K_clear 14 = .ok (.putfield 64, 3) := by decide +kernel
theorem d_K_clear_17 : decode c_K_clear 17 = .ok (.aload_n 0, 1) := by decide +kernel
theorem d_K_clear_18 : decode c_K_clear 18 = .ok (.iconst 0, 1) := by decide +kernel
theorem d_K_clear_19 : decode c_K_clear 19 = .ok (.putfield 73, 3) := by decide +kernel
theorem d_K_clear_22 : decode c_K_clear 22 = .ok (.aload_n 0, 1) := by decide +kernel
theorem d_K_clear_23 : decode c_K_clear 23 = .ok (.iconst 0, 1) := by decide +kernel
theorem d_K_clear_24 : decode c_K_clear 24 = .ok (.putfield 76, 3) := by decide +kernel
theorem d_K_clear_27 : decode c_K_clear 27 = .ok (.aload_n 0, 1) := by decide +kernel
theorem d_K_clear_28 : decode c_K_clear 28 = .ok (.iconst 1, 1) := by decide +kernel
theorem d_K_clear_29 : decode c_K_clear 29 = .ok (.putfield 40, 3) := by decide +kernel
theorem d_K_clear_32 : decode c_K_clear 32 = .ok (.aload_n 0, 1) := by decide +kernel
theorem d_K_clear_33 : decode c_K_clear 33 = .ok (.iconst 0, 1) := by decide +kernel
theorem d_K_clear_34 : decode c_K_clear 34 = .ok (.putfield 67, 3) := by decide +kernel
theorem d_K_clear_37 : decode c_K_clear 37 = .ok (.return_, 1) := by decide +kernel
theorem d_K_openNest_0 : decode c_K_openNest 0 = .ok (.aload_n 0, 1) := by decide +kernel
theorem d_K_openNest_1 : decode c_K_openNest 1 = .ok (.invokevirtual 112, 3) := by decide +kernel
theorem d_K_openNest_4 : decode c_K_openNest 4 = .ok (.iload_n 1, 1) := by decide +kernel
theorem d_K_openNest_5 : decode c_K_openNest 5 = .ok (.bipush 40, 2) := by decide +kernel
theorem d_K_openNest_7 : decode c_K_openNest 7 = .ok (.if_icmp .ne 13, 3) := by decide +kernel
theorem d_K_openNest_10 : decode c_K_openNest 10 = .ok (.aload_n 0, 1) := by decide +kernel
theorem d_K_openNest_11 : decode c_K_openNest 11 = .ok (.iload_n 1, 1) := by decide +kernel
theorem d_K_openNest_12 : decode c_K_openNest 12 = .ok (.iconst (-1), 1) := by decide +kernel
theorem d_K_openNest_13 : decode c_K_openNest 13 = .ok (.iconst 0, 1) := by decide +kernel
theorem d_K_openNest_14 : decode c_K_openNest 14 = .ok (.invokevirtual 115, 3) := by decide +kernel
theorem d_K_openNest_17 : decode c_K_openNest 17 = .ok (.goto 43, 3) := by decide +kernel
theorem d_K_openNest_20 : decode c_K_openNest 20 = .ok (.iload_n 1, 1) := by decide +kernel
theorem d_K_openNest_21 : decode c_K_openNest 21 = .ok (.bipush 43, 2) := by decide +kernel
theorem d_K_openNest_23 : decode c_K_openNest 23 = .ok (.if_icmp .eq 21, 3) := by decide +kernel
theorem d_K_openNest_26 : decode c_K_openNest 26 = .ok (.iload_n 1, 1) := by decide +kernel
theorem d_K_openNest_27 : decode c_K_openNest 27 = .ok (.bipush 45, 2) := by decide +kernel
theorem d_K_openNest_29 : decode c_K_openNest 29 = .ok (.if_icmp .eq 15, 3) := by decide +kernel
theorem d_K_openNest_32 : decode c_K_openNest 32 = .ok (.iload_n 1, 1) := by decide +kernel
theorem d_K_openNest_33 : decode c_K_openNest 33 = .ok (.bipush 126, 2) := by decide +kernel
theorem d_K_openNest_35 : decode c_K_openNest 35 = .ok (.if_icmp .eq 9, 3) := by decide +kernel
theorem d_K_openNest_38 : decode c_K_openNest 38 = .ok (.iload_n 1, 1) := by decide +kernel
theorem d_K_openNest_39 : decode c_K_openNest 39 = .ok (.bipush 33, 2) := by decide +kernel
theorem d_K_openNest_41 : decode c_K_openNest 41 = .ok (.if_icmp .ne 14, 3) := by decide +kernel
theorem d_K_openNest_44 : decode c_K_openNest 44 = .ok (.aload_n 0, 1) := by decide +kernel
theorem d_K_openNest_45 : decode c_K_openNest 45 = .ok (.iload_n 1, 1) := by decide +kernel
theorem d_K_openNest_46 : decode c_K_openNest 46 = .ok (.bipush 11, 2) := by decide +kernel
theorem d_K_openNest_48 : decode c_K_openNest 48 = .ok (.iconst 0, 1) := by decide +kernel
theorem d_K_openNest_49 : decode c_K_openNest 49 = .ok (.invokevirtual 115, 3) := by decide +kernel
theorem d_K_openNest_52 : decode c_K_openNest 52 = .ok (.goto 8, 3) := by decide +kernel
theorem d_K_openNest_55 : decode c_K_openNest 55 = .ok (.aload_n 0, 1) := by decide +kernel
theorem d_K_openNest_56 : decode c_K_openNest 56 = .ok (.iconst 0, 1) := by decide +kernel
theorem d_K_openNest_57 : decode c_K_openNest 57 = .ok (.putfield 40, 3) := by decide +kernel
theorem d_K_openNest_60 : decode c_K_openNest 60 = .ok (.return_, 1) := by decide +kernel
theorem d_K_closeBracket_0 : decode c_K_closeBracket 0 = .ok (.aload_n 0, 1) := by decide +kernel
theorem d_K_closeBracket_1 : decode c_K_closeBracket 1 = .ok (.bipush 40, 2) := by decide +kernel
theorem d_K_closeBracket_3 : decode c_K_closeBracket 3 = .ok (.invokevirtual 136, 3) := by decide +kernel
theorem d_K_closeBracket_6 : decode c_K_closeBracket 6 = .ok (.ifCond .ne 9, 3) := by decide +kernel
theorem d_K_closeBracket_9 : decode c_K_closeBracket 9 = .ok (.aload_n 0, 1) := by decide +kernel
theorem d_K_closeBracket_10 : decode c_K_closeBracket 10 = .ok (.iconst 0, 1) := by decide +kernel
theorem d_K_closeBracket_11 : decode c_K_closeBracket 11 = .ok (.putfield 40, 3) := by decide +kernel
theorem d_K_closeBracket_14 : decode c_K_closeBracket 14 = .ok (.return_, 1) := by decide +kernel
theorem d_K_closeBracket_15 : decode c_K_closeBracket 15 = .ok (.aload_n 0, 1) := by decide +kernel
theorem d_K_closeBracket_16 : decode c_K_closeBracket 16 = .ok (.invokevirtual 139, 3) := by decide +kernel
theorem d_K_closeBracket_19 : decode c_K_closeBracket 19 = .ok (.aload_n 0, 1) := by decide +kernel
theorem d_K_closeBracket_20 : decode c_K_closeBracket 20 = .ok (.dup, 1) := by decide +kernel
theorem d_K_closeBracket_21 : decode c_K_closeBracket 21 = .ok (.getfield 73, 3) := by decide +kernel
theorem d_K_closeBracket_24 : decode c_K_closeBracket 24 = .ok (.iconst 1, 1) := by decide +kernel
theorem d_K_closeBracket_25 : decode c_K_closeBracket 25 = .ok (.isub, 1) := by decide +kernel
theorem d_K_closeBracket_26 : decode c_K_closeBracket 26 = .ok (.putfield 73, 3) := by decide +kernel
theorem d_K_closeBracket_29 : decode c_K_closeBracket 29 = .ok (.return_, 1) := by decide +kernel
theorem d_K_beginChoice_0 : decode c_K_beginChoice 0 = .ok (.aload_n 0, 1) := by decide +kernel
theorem d_K_beginChoice_1 : decode c_K_beginChoice 1 = .ok (.dup, 1) := by decide +kernel
theorem d_K_beginChoice_2 : decode c_K_beginChoice 2 = .ok (.getfield 64, 3) := by decide +kernel
theorem d_K_beginChoice_5 : decode c_K_beginChoice 5 = .ok (.iconst 1, 1) := by decide +kernel
theorem d_K_beginChoice_6 : decode c_K_beginChoice 6 = .ok (.isub, 1) := by decide +kernel
theorem d_K_beginChoice_7 : decode c_K_beginChoice 7 = .ok (.putfield 64, 3) := by decide +kernel
theorem d_K_beginChoice_10 : decode c_K_beginChoice 10 = .ok (.aload_n 0, 1) := by decide +kernel
theorem d_K_beginChoice_11 : decode c_K_beginChoice 11 = .ok (.bipush 63, 2) := by decide +kernel
theorem d_K_beginChoice_13 : decode c_K_beginChoice 13 = .ok (.iconst (-1), 1) := by decide +kernel
theorem d_K_beginChoice_14 : decode c_K_beginChoice 14 = .ok (.aload_n 0, 1) := by decide +kernel
theorem d_K_beginChoice_15 : decode c_K_beginChoice 15 = .ok (.getfield 22, 3) := by decide +kernel
theorem d_K_beginChoice_18 : decode c_K_beginChoice 18 = .ok (.aload_n 0, 1) := by decide +kernel
theorem d_K_beginChoice_19 : decode c_K_beginChoice 19 = .ok (.getfield 64, 3) := by decide +kernel
theorem d_K_beginChoice_22 : decode c_K_beginChoice 22 = .ok (.laload, 1) := by decide +kernel
theorem d_K_beginChoice_23 : decode c_K_beginChoice 23 = .ok (.lconst 0, 1) := by decide +kernel
theorem d_K_beginChoice_24 : decode c_K_beginChoice 24 = .ok (.lcmp, 1) := by decide +kernel
theorem d_K_beginChoice_25 : decode c_K_beginChoice 25 = .ok (.ifCond .ne 7, 3) := by decide +kernel
theorem d_K_beginChoice_28 : decode c_K_beginChoice 28 = .ok (.iconst 1, 1) := by decide +kernel
theorem d_K_beginChoice_29 : decode c_K_beginChoice 29 = .ok (.goto 4, 3) := by decide +kernel
theorem d_K_beginChoice_32 : decode c_K_beginChoice 32 = .ok (.iconst 0, 1) := by decide +kernel
theorem d_K_beginChoice_33 : decode c_K_beginChoice 33 = .ok (.invokevirtual 115, 3) := by decide +kernel
theorem d_K_beginChoice_36 : decode c_K_beginChoice 36 = .ok (.aload_n 0, 1) := by decide +kernel
theorem d_K_beginChoice_37 : decode c_K_beginChoice 37 = .ok (.invokevirtual 112, 3) := by decide +kernel
theorem d_K_beginChoice_40 : decode c_K_beginChoice 40 = .ok (.return_, 1) := by decide +kernel
theorem d_K_turnChoice_0 : decode c_K_turnChoice 0 = .ok (.aload_n 0, 1) := by decide +kernel
theorem d_K_turnChoice_1 : decode c_K_turnChoice 1 = .ok (.bipush 63, 2) := by decide +kernel
theorem d_K_turnChoice_3 : decode c_K_turnChoice 3 = .ok (.invokevirtual 136, 3) := by decide +kernel
theorem d_K_turnChoice_6 : decode c_K_turnChoice 6 = .ok (.ifCond .ne 9, 3) := by decide +kernel
theorem d_K_turnChoice_9 : decode c_K_turnChoice 9 = .ok (.aload_n 0, 1) := by decide +kernel
theorem d_K_turnChoice_10 : decode c_K_turnChoice 10 = .ok (.iconst 0, 1) := by decide +kernel
theorem d_K_turnChoice_11 : decode c_K_turnChoice 11 = .ok (.putfield 40, 3) := by decide +kernel
theorem d_K_turnChoice_14 : decode c_K_turnChoice 14 = .ok (.return_, 1) := by decide +kernel
theorem d_K_turnChoice_15 : decode c_K_turnChoice 15 = .ok (.aload_n 0, 1) := by decide +kernel
theorem d_K_turnChoice_16 : decode c_K_turnChoice 16 = .ok (.getfield 18, 3) := by decide +kernel
theorem d_K_turnChoice_19 : decode c_K_turnChoice 19 = .ok (.aload_n 0, 1) := by decide +kernel
theorem d_K_turnChoice_20 : decode c_K_turnChoice 20 = .ok (.getfield 60, 3) := by decide +kernel
theorem d_K_turnChoice_23 : decode c_K_turnChoice 23 = .ok (.iconst 1, 1) := by decide +kernel
theorem d_K_turnChoice_24 : decode c_K_turnChoice 24 = .ok (.isub, 1) := by decide +kernel
theorem d_K_turnChoice_25 : decode c_K_turnChoice 25 = .ok (.baload, 1) := by decide +kernel
theorem d_K_turnChoice_26 : decode c_K_turnChoice 26 = .ok (.istore_n 1, 1) := by decide +kernel
theorem d_K_turnChoice_27 : decode c_K_turnChoice 27 = .ok (.aload_n 0, 1) := by decide +kernel
theorem d_K_turnChoice_28 : decode c_K_turnChoice 28 = .ok (.invokevirtual 139, 3) := by decide +kernel
theorem d_K_turnChoice_31 : decode c_K_turnChoice 31 = .ok (.aload_n 0, 1) := by decide +kernel
theorem d_K_turnChoice_32 : decode c_K_turnChoice 32 = .ok (.bipush 58, 2) := by decide +kernel
theorem d_K_turnChoice_34 : decode c_K_turnChoice 34 = .ok (.iconst 0, 1) := by decide +kernel
theorem d_K_turnChoice_35 : decode c_K_turnChoice 35 = .ok (.iload_n 1, 1) := by decide +kernel
theorem d_K_turnChoice_36 : decode c_K_turnChoice 36 = .ok (.ifCond .ne 7, 3) := by decide +kernel
theorem d_K_turnChoice_39 : decode c_K_turnChoice 39 = .ok (.iconst 1, 1) := by decide +kernel
theorem d_K_turnChoice_40 : decode c_K_turnChoice 40 = .ok (.goto 4, 3) := by decide +kernel
theorem d_K_turnChoice_43 : decode c_K_turnChoice 43 = .ok (.iconst 0, 1) := by decide +kernel
theorem d_K_turnChoice_44 : decode c_K_turnChoice 44 = .ok (.invokevirtual 115, 3) := by decide +kernel
theorem d_K_turnChoice_47 : decode c_K_turnChoice 47 = .ok (.return_, 1) := by decide +kernel
theorem d_K_finishFront_0 : decode c_K_finishFront 0 = .ok (.aload_n 0, 1) := by decide +kernel
theorem d_K_finishFront_1 : decode c_K_finishFront 1 = .ok (.dup, 1) := by decide +kernel
theorem d_K_finishFront_2 : decode c_K_finishFront 2 = .ok (.getfield 73, 3) := by decide +kernel
theorem d_K_finishFront_5 : decode c_K_finishFront 5 = .ok (.iconst 1, 1) := by decide +kernel
theorem d_K_finishFront_6 : decode c_K_finishFront 6 = .ok (.isub, 1) := by decide +kernel
theorem d_K_finishFront_7 : decode c_K_finishFront 7 = .ok (.putfield 73, 3) := by decide +kernel
theorem d_K_finishFront_10 : decode c_K_finishFront 10 = .ok (.aload_n 0, 1) := by decide +kernel
theorem d_K_finishFront_11 : decode c_K_finishFront 11 = .ok (.getfield 64, 3) := by decide +kernel
theorem d_K_finishFront_14 : decode c_K_finishFront 14 = .ok (.iconst 1, 1) := by decide +kernel
theorem d_K_finishFront_15 : decode c_K_finishFront 15 = .ok (.if_icmp .ge 9, 3) := by decide +kernel
theorem d_K_finishFront_18 : decode c_K_finishFront 18 = .ok (.aload_n 0, 1) := by decide +kernel
theorem d_K_finishFront_19 : decode c_K_finishFront 19 = .ok (.iconst 0, 1) := by decide +kernel
theorem d_K_finishFront_20 : decode c_K_finishFront 20 = .ok (.putfield 40, 3) := by decide +kernel
theorem d_K_finishFront_23 : decode c_K_finishFront 23 = .ok (.return_, 1) := by decide +kernel
theorem d_K_finishFront_24 : decode c_K_finishFront 24 = .ok (.aload_n 0, 1) := by decide +kernel
theorem d_K_finishFront_25 : decode c_K_finishFront 25 = .ok (.getfield 64, 3) := by decide +kernel
theorem d_K_finishFront_28 : decode c_K_finishFront 28 = .ok (.iconst 1, 1) := by decide +kernel
theorem d_K_finishFront_29 : decode c_K_finishFront 29 = .ok (.isub, 1) := by decide +kernel
theorem d_K_finishFront_30 : decode c_K_finishFront 30 = .ok (.istore_n 2, 1) := by decide +kernel
theorem d_K_finishFront_31 : decode c_K_finishFront 31 = .ok (.aload_n 0, 1) := by decide +kernel
theorem d_K_finishFront_32 : decode c_K_finishFront 32 = .ok (.getfield 22, 3) := by decide +kernel
theorem d_K_finishFront_35 : decode c_K_finishFront 35 = .ok (.iload_n 2, 1) := by decide +kernel
theorem d_K_finishFront_36 : decode c_K_finishFront 36 = .ok (.iload_n 1, 1) := by decide +kernel
theorem d_K_finishFront_37 : decode c_K_finishFront 37 = .ok (.aload_n 0, 1) := by decide +kernel
theorem d_K_finishFront_38 : decode c_K_finishFront 38 = .ok (.getfield 22, 3) := by decide +kernel
theorem d_K_finishFront_41 : decode c_K_finishFront 41 = .ok (.iload_n 2, 1) := by decide +kernel
theorem d_K_finishFront_42 : decode c_K_finishFront 42 = .ok (.laload, 1) := by decide +kernel
theorem d_K_finishFront_43 : decode c_K_finishFront 43 = .ok (.invokestatic 152, 3) := by decide +kernel
theorem d_K_finishFront_46 : decode c_K_finishFront 46 = .ok (.lastore, 1) := by decide +kernel
theorem d_K_finishFront_47 : decode c_K_finishFront 47 = .ok (.aload_n 0, 1) := by decide +kernel
theorem d_K_finishFront_48 : decode c_K_finishFront 48 = .ok (.getfield 26, 3) := by decide +kernel
theorem d_K_finishFront_51 : decode c_K_finishFront 51 = .ok (.iload_n 2, 1) := by decide +kernel
theorem d_K_finishFront_52 : decode c_K_finishFront 52 = .ok (.aload_n 0, 1) := by decide +kernel
theorem d_K_finishFront_53 : decode c_K_finishFront 53 = .ok (.getfield 26, 3) := by decide +kernel
theorem d_K_finishFront_56 : decode c_K_finishFront 56 = .ok (.iload_n 2, 1) := by decide +kernel
theorem d_K_finishFront_57 : decode c_K_finishFront 57 = .ok (.baload, 1) := by decide +kernel
theorem d_K_finishFront_58 : decode c_K_finishFront 58 = .ok (.ifCond .eq 13, 3) := by decide +kernel
theorem d_K_finishFront_61 : decode c_K_finishFront 61 = .ok (.iload_n 1, 1) := by decide +kernel
theorem d_K_finishFront_62 : decode c_K_finishFront 62 = .ok (.bipush 33, 2) := by decide +kernel
theorem d_K_finishFront_64 : decode c_K_finishFront 64 = .ok (.if_icmp .eq 7, 3) := by decide +kernel
theorem d_K_finishFront_67 : decode c_K_finishFront 67 = .ok (.iconst 1, 1) := by decide +kernel
theorem d_K_finishFront_68 : decode c_K_finishFront 68 = .ok (.goto 4, 3) := by decide +kernel
theorem d_K_finishFront_71 : decode c_K_finishFront 71 = .ok (.iconst 0, 1) := by decide +kernel
theorem d_K_finishFront_72 : decode c_K_finishFront 72 = .ok (.bastore, 1) := by decide +kernel
theorem d_K_finishFront_73 : decode c_K_finishFront 73 = .ok (.return_, 1) := by decide +kernel
theorem d_K_finishChoice_0 : decode c_K_finishChoice 0 = .ok (.aload_n 0, 1) := by decide +kernel
theorem d_K_finishChoice_1 : decode c_K_finishChoice 1 = .ok (.dup, 1) := by decide +kernel
theorem d_K_finishChoice_2 : decode c_K_finishChoice 2 = .ok (.getfield 73, 3) := by decide +kernel
theorem d_K_finishChoice_5 : decode c_K_finishChoice 5 = .ok (.iconst 1, 1) := by decide +kernel
theorem d_K_finishChoice_6 : decode c_K_finishChoice 6 = .ok (.isub, 1) := by decide +kernel
theorem d_K_finishChoice_7 : decode c_K_finishChoice 7 = .ok (.putfield 73, 3) := by decide +kernel
theorem d_K_finishChoice_10 : decode c_K_finishChoice 10 = .ok (.aload_n 0, 1) := by decide +kernel
theorem d_K_finishChoice_11 : decode c_K_finishChoice 11 = .ok (.getfield 64, 3) := by decide +kernel
theorem d_K_finishChoice_14 : decode c_K_finishChoice 14 = .ok (.iconst 2, 1) := by decide +kernel
theorem d_K_finishChoice_15 : decode c_K_finishChoice 15 = .ok (.if_icmp .ge 9, 3) := by decide +kernel
theorem d_K_finishChoice_18 : decode c_K_finishChoice 18 = .ok (.aload_n 0, 1) := by decide +kernel
theorem d_K_finishChoice_19 : decode c_K_finishChoice 19 = .ok (.iconst 0, 1) := by decide +kernel
theorem d_K_finishChoice_20 : decode c_K_finishChoice 20 = .ok (.putfield 40, 3) := by decide +kernel
theorem d_K_finishChoice_23 : decode c_K_finishChoice 23 = .ok (.return_, 1) := by decide +kernel
theorem d_K_finishChoice_24 : decode c_K_finishChoice 24 = .ok (.aload_n 0, 1) := by decide +kernel
theorem d_K_finishChoice_25 : decode c_K_finishChoice 25 = .ok (.dup, 1) := by decide +kernel
theorem d_K_finishChoice_26 : decode c_K_finishChoice 26 = .ok (.getfield 64, 3) := by decide +kernel
theorem d_K_finishChoice_29 : decode c_K_finishChoice 29 = .ok (.iconst 1, 1) := by decide +kernel
theorem d_K_finishChoice_30 : decode c_K_finishChoice 30 = .ok (.isub, 1) := by decide +kernel
theorem d_K_finishChoice_31 : decode c_K_finishChoice 31 = .ok (.putfield 64, 3) := by decide +kernel
theorem d_K_finishChoice_34 : decode c_K_finishChoice 34 = .ok (.aload_n 0, 1) := by decide +kernel
theorem d_K_finishChoice_35 : decode c_K_finishChoice 35 = .ok (.getfield 64, 3) := by decide +kernel
theorem d_K_finishChoice_38 : decode c_K_finishChoice 38 = .ok (.iconst 1, 1) := by decide +kernel
theorem d_K_finishChoice_39 : decode c_K_finishChoice 39 = .ok (.isub, 1) := by decide +kernel
theorem d_K_finishChoice_40 : decode c_K_finishChoice 40 = .ok (.istore_n 2, 1) := by decide +kernel
theorem d_K_finishChoice_41 : decode c_K_finishChoice 41 = .ok (.iload_n 1, 1) := by decide +kernel
theorem d_K_finishChoice_42 : decode c_K_finishChoice 42 = .ok (.ifCond .ne 18, 3) := by decide +kernel
theorem d_K_finishChoice_45 : decode c_K_finishChoice 45 = .ok (.aload_n 0, 1) := by decide +kernel
theorem d_K_finishChoice_46 : decode c_K_finishChoice 46 = .ok (.getfield 22, 3) := by decide +kernel
theorem d_K_finishChoice_49 : decode c_K_finishChoice 49 = .ok (.iload_n 2, 1) := by decide +kernel
theorem d_K_finishChoice_50 : decode c_K_finishChoice 50 = .ok (.aload_n 0, 1) := by decide +kernel
theorem d_K_finishChoice_51 : decode c_K_finishChoice 51 = .ok (.getfield 22, 3) := by decide +kernel
theorem d_K_finishChoice_54 : decode c_K_finishChoice 54 = .ok (.aload_n 0, 1) := by decide +kernel
theorem d_K_finishChoice_55 : decode c_K_finishChoice 55 = .ok (.getfield 64, 3) := by decide +kernel
theorem d_K_finishChoice_58 : decode c_K_finishChoice 58 = .ok (.laload, 1) := by decide +kernel
theorem d_K_finishChoice_59 : decode c_K_finishChoice 59 = .ok (.lastore, 1) := by decide +kernel
theorem d_K_finishChoice_60 : decode c_K_finishChoice 60 = .ok (.aload_n 0, 1) := by decide +kernel
theorem d_K_finishChoice_61 : decode c_K_finishChoice 61 = .ok (.getfield 26, 3) := by decide +kernel
theorem d_K_finishChoice_64 : decode c_K_finishChoice 64 = .ok (.iload_n 2, 1) := by decide +kernel
theorem d_K_finishChoice_65 : decode c_K_finishChoice 65 = .ok (.aload_n 0, 1) := by decide +kernel
theorem d_K_finishChoice_66 : decode c_K_finishChoice 66 = .ok (.getfield 26, 3) := by decide +kernel
theorem d_K_finishChoice_69 : decode c_K_finishChoice 69 = .ok (.iload_n 2, 1) := by decide +kernel
theorem d_K_finishChoice_70 : decode c_K_finishChoice 70 = .ok (.baload, 1) := by decide +kernel
theorem d_K_finishChoice_71 : decode c_K_finishChoice 71 = .ok (.ifCond .ne 15, 3) := by decide +kernel
theorem d_K_finishChoice_74 : decode c_K_finishChoice 74 = .ok (.aload_n 0, 1) := by decide +kernel
theorem d_K_finishChoice_75 : decode c_K_finishChoice 75 = .ok (.getfield 26, 3) := by decide +kernel
theorem d_K_finishChoice_78 : decode c_K_finishChoice 78 = .ok (.aload_n 0, 1) := by decide +kernel
theorem d_K_finishChoice_79 : decode c_K_finishChoice 79 = .ok (.getfield 64, 3) := by decide +kernel
theorem d_K_finishChoice_82 : decode c_K_finishChoice 82 = .ok (.baload, 1) := by decide +kernel
theorem d_K_finishChoice_83 : decode c_K_finishChoice 83 = .ok (.ifCond .eq 7, 3) := by decide +kernel
theorem d_K_finishChoice_86 : decode c_K_finishChoice 86 = .ok (.iconst 1, 1) := by decide +kernel
theorem d_K_finishChoice_87 : decode c_K_finishChoice 87 = .ok (.goto 4, 3) := by decide +kernel
theorem d_K_finishChoice_90 : decode c_K_finishChoice 90 = .ok (.iconst 0, 1) := by decide +kernel
theorem d_K_finishChoice_91 : decode c_K_finishChoice 91 = .ok (.bastore, 1) := by decide +kernel
theorem d_K_finishChoice_92 : decode c_K_finishChoice 92 = .ok (.return_, 1) := by decide +kernel
theorem d_K_finishPair_0 : decode c_K_finishPair 0 = .ok (.aload_n 0, 1) := by decide +kernel
theorem d_K_finishPair_1 : decode c_K_finishPair 1 = .ok (.getfield 64, 3) := by decide +kernel
theorem d_K_finishPair_4 : decode c_K_finishPair 4 = .ok (.iconst 2, 1) := by decide +kernel
theorem d_K_finishPair_5 : decode c_K_finishPair 5 = .ok (.if_icmp .ge 9, 3) := by decide +kernel
theorem d_K_finishPair_8 : decode c_K_finishPair 8 = .ok (.aload_n 0, 1) := by decide +kernel
theorem d_K_finishPair_9 : decode c_K_finishPair 9 = .ok (.iconst 0, 1) := by decide +kernel
theorem d_K_finishPair_10 : decode c_K_finishPair 10 = .ok (.putfield 40, 3) := by decide +kernel
theorem d_K_finishPair_13 : decode c_K_finishPair 13 = .ok (.return_, 1) := by decide +kernel
theorem d_K_finishPair_14 : decode c_K_finishPair 14 = .ok (.aload_n 0, 1) := by decide +kernel
theorem d_K_finishPair_15 : decode c_K_finishPair 15 = .ok (.dup, 1) := by decide +kernel
theorem d_K_finishPair_16 : decode c_K_finishPair 16 = .ok (.getfield 64, 3) := by decide +kernel
theorem d_K_finishPair_19 : decode c_K_finishPair 19 = .ok (.iconst 1, 1) := by decide +kernel
theorem d_K_finishPair_20 : decode c_K_finishPair 20 = .ok (.isub, 1) := by decide +kernel
theorem d_K_finishPair_21 : decode c_K_finishPair 21 = .ok (.putfield 64, 3) := by decide +kernel
theorem d_K_finishPair_24 : decode c_K_finishPair 24 = .ok (.aload_n 0, 1) := by decide +kernel
theorem d_K_finishPair_25 : decode c_K_finishPair 25 = .ok (.getfield 64, 3) := by decide +kernel
theorem d_K_finishPair_28 : decode c_K_finishPair 28 = .ok (.iconst 1, 1) := by decide +kernel
theorem d_K_finishPair_29 : decode c_K_finishPair 29 = .ok (.isub, 1) := by decide +kernel
theorem d_K_finishPair_30 : decode c_K_finishPair 30 = .ok (.istore_n 2, 1) := by decide +kernel
theorem d_K_finishPair_31 : decode c_K_finishPair 31 = .ok (.iload_n 1, 1) := by decide +kernel
theorem d_K_finishPair_32 : decode c_K_finishPair 32 = .ok (.sipush 15420, 3) := by decide +kernel
theorem d_K_finishPair_35 : decode c_K_finishPair 35 = .ok (.if_icmp .eq 10, 3) := by decide +kernel
theorem d_K_finishPair_38 : decode c_K_finishPair 38 = .ok (.iload_n 1, 1) := by decide +kernel
theorem d_K_finishPair_39 : decode c_K_finishPair 39 = .ok (.sipush 15934, 3) := by decide +kernel
theorem d_K_finishPair_42 : decode c_K_finishPair 42 = .ok (.if_icmp .ne 7, 3) := by decide +kernel
theorem d_K_finishPair_45 : decode c_K_finishPair 45 = .ok (.iconst 1, 1) := by decide +kernel
theorem d_K_finishPair_46 : decode c_K_finishPair 46 = .ok (.goto 4, 3) := by decide +kernel
theorem d_K_finishPair_49 : decode c_K_finishPair 49 = .ok (.iconst 0, 1) := by decide +kernel
theorem d_K_finishPair_50 : decode c_K_finishPair 50 = .ok (.istore_n 3, 1) := by decide +kernel
theorem d_K_finishPair_51 : decode c_K_finishPair 51 = .ok (.aload_n 0, 1) := by decide +kernel
theorem d_K_finishPair_52 : decode c_K_finishPair 52 = .ok (.getfield 26, 3) := by decide +kernel
theorem d_K_finishPair_55 : decode c_K_finishPair 55 = .ok (.iload_n 2, 1) := by decide +kernel
theorem d_K_finishPair_56 : decode c_K_finishPair 56 = .ok (.baload, 1) := by decide +kernel
theorem d_K_finishPair_57 : decode c_K_finishPair 57 = .ok (.ifCond .ne 19, 3) := by decide +kernel
theorem d_K_finishPair_60 : decode c_K_finishPair 60 = .ok (.aload_n 0, 1) := by decide +kernel
theorem d_K_finishPair_61 : decode c_K_finishPair 61 = .ok (.getfield 26, 3) := by decide +kernel
theorem d_K_finishPair_64 : decode c_K_finishPair 64 = .ok (.aload_n 0, 1) := by decide +kernel
theorem d_K_finishPair_65 : decode c_K_finishPair 65 = .ok (.getfield 64, 3) := by decide +kernel
theorem d_K_finishPair_68 : decode c_K_finishPair 68 = .ok (.baload, 1) := by decide +kernel
theorem d_K_finishPair_69 : decode c_K_finishPair 69 = .ok (.ifCond .eq 11, 3) := by decide +kernel
theorem d_K_finishPair_72 : decode c_K_finishPair 72 = .ok (.iload_n 3, 1) := by decide +kernel
theorem d_K_finishPair_73 : decode c_K_finishPair 73 = .ok (.ifCond .ne 7, 3) := by decide +kernel
theorem d_K_finishPair_76 : decode c_K_finishPair 76 = .ok (.iconst 1, 1) := by decide +kernel
theorem d_K_finishPair_77 : decode c_K_finishPair 77 = .ok (.goto 4, 3) := by decide +kernel
theorem d_K_finishPair_80 : decode c_K_finishPair 80 = .ok (.iconst 0, 1) := by decide +kernel
theorem d_K_finishPair_81 : decode c_K_finishPair 81 = .ok (.istore 4, 2) := by decide +kernel
theorem d_K_finishPair_83 : decode c_K_finishPair 83 = .ok (.iload_n 1, 1) := by decide +kernel
theorem d_K_finishPair_84 : decode c_K_finishPair 84 = .ok (.bipush 47, 2) := by decide +kernel
theorem d_K_finishPair_86 : decode c_K_finishPair 86 = .ok (.if_icmp .eq 9, 3) := by decide +kernel
theorem d_K_finishPair_89 : decode c_K_finishPair 89 = .ok (.iload_n 1, 1) := by decide +kernel
theorem d_K_finishPair_90 : decode c_K_finishPair 90 = .ok (.bipush 37, 2) := by decide +kernel
theorem d_K_finishPair_92 : decode c_K_finishPair 92 = .ok (.if_icmp .ne 29, 3) := by decide +kernel
theorem d_K_finishPair_95 : decode c_K_finishPair 95 = .ok (.aload_n 0, 1) := by decide +kernel
theorem d_K_finishPair_96 : decode c_K_finishPair 96 = .ok (.getfield 22, 3) := by decide +kernel
theorem d_K_finishPair_99 : decode c_K_finishPair 99 = .ok (.aload_n 0, 1) := by decide +kernel
theorem d_K_finishPair_100 : decode c_K_finishPair 100 = .ok (.getfield 64, 3) := by decide +kernel
theorem d_K_finishPair_103 : decode c_K_finishPair 103 = .ok (.laload, 1) := by decide +kernel
theorem d_K_finishPair_104 : decode c_K_finishPair 104 = .ok (.lconst 0, 1) := by decide +kernel
theorem d_K_finishPair_105 : decode c_K_finishPair 105 = .ok (.lcmp, 1) := by decide +kernel
theorem d_K_finishPair_106 : decode c_K_finishPair 106 = .ok (.ifCond .ne 15, 3) := by decide +kernel
theorem d_K_finishPair_109 : decode c_K_finishPair 109 = .ok (.aload_n 0, 1) := by decide +kernel
theorem d_K_finishPair_110 : decode c_K_finishPair 110 = .ok (.getfield 76, 3) := by decide +kernel
theorem d_K_finishPair_113 : decode c_K_finishPair 113 = .ok (.ifCond .ne 8, 3) := by decide +kernel
theorem d_K_finishPair_116 : decode c_K_finishPair 116 = .ok (.aload_n 0, 1) := by decide +kernel
theorem d_K_finishPair_117 : decode c_K_finishPair 117 = .ok (.iconst 1, 1) := by decide +kernel
theorem d_K_finishPair_118 : decode c_K_finishPair 118 = .ok (.putfield 67, 3) := by decide +kernel
theorem d_K_finishPair_121 : decode c_K_finishPair 121 = .ok (.aload_n 0, 1) := by decide +kernel
theorem d_K_finishPair_122 : decode c_K_finishPair 122 = .ok (.getfield 22, 3) := by decide +kernel
theorem d_K_finishPair_125 : decode c_K_finishPair 125 = .ok (.iload_n 2, 1) := by decide +kernel
theorem d_K_finishPair_126 : decode c_K_finishPair 126 = .ok (.iload_n 1, 1) := by decide +kernel
theorem d_K_finishPair_127 : decode c_K_finishPair 127 = .ok (.aload_n 0, 1) := by decide +kernel
theorem d_K_finishPair_128 : decode c_K_finishPair 128 = .ok (.getfield 22, 3) := by decide +kernel
theorem d_K_finishPair_131 : decode c_K_finishPair 131 = .ok (.iload_n 2, 1) := by decide +kernel
theorem d_K_finishPair_132 : decode c_K_finishPair 132 = .ok (.laload, 1) := by decide +kernel
theorem d_K_finishPair_133 : decode c_K_finishPair 133 = .ok (.aload_n 0, 1) := by decide +kernel
theorem d_K_finishPair_134 : decode c_K_finishPair 134 = .ok (.getfield 22, 3) := by decide +kernel
theorem d_K_finishPair_137 : decode c_K_finishPair 137 = .ok (.aload_n 0, 1) := by decide +kernel
theorem d_K_finishPair_138 : decode c_K_finishPair 138 = .ok (.getfield 64, 3) := by decide +kernel
theorem d_K_finishPair_141 : decode c_K_finishPair 141 = .ok (.laload, 1) := by decide +kernel
theorem d_K_finishPair_142 : decode c_K_finishPair 142 = .ok (.iload 4, 2) := by decide +kernel
theorem d_K_finishPair_144 : decode c_K_finishPair 144 = .ok (.invokestatic 158, 3) := by decide +kernel
theorem d_K_finishPair_147 : decode c_K_finishPair 147 = .ok (.lastore, 1) := by decide +kernel
theorem d_K_finishPair_148 : decode c_K_finishPair 148 = .ok (.aload_n 0, 1) := by decide +kernel
theorem d_K_finishPair_149 : decode c_K_finishPair 149 = .ok (.getfield 26, 3) := by decide +kernel
theorem d_K_finishPair_152 : decode c_K_finishPair 152 = .ok (.iload_n 2, 1) := by decide +kernel
theorem d_K_finishPair_153 : decode c_K_finishPair 153 = .ok (.iload 4, 2) := by decide +kernel
theorem d_K_finishPair_155 : decode c_K_finishPair 155 = .ok (.ifCond .eq 14, 3) := by decide +kernel
theorem d_K_finishPair_158 : decode c_K_finishPair 158 = .ok (.iload_n 1, 1) := by decide +kernel
theorem d_K_finishPair_159 : decode c_K_finishPair 159 = .ok (.invokestatic 162, 3) := by decide +kernel
theorem d_K_finishPair_162 : decode c_K_finishPair 162 = .ok (.ifCond .ne 7, 3) := by decide +kernel
theorem d_K_finishPair_165 : decode c_K_finishPair 165 = .ok (.iconst 1, 1) := by decide +kernel
theorem d_K_finishPair_166 : decode c_K_finishPair 166 = .ok (.goto 4, 3) := by decide +kernel
theorem d_K_finishPair_169 : decode c_K_finishPair 169 = .ok (.iconst 0, 1) := by decide +kernel
theorem d_K_finishPair_170 : decode c_K_finishPair 170 = .ok (.bastore, 1) := by decide +kernel
theorem d_K_finishPair_171 : decode c_K_finishPair 171 = .ok (.return_, 1) := by decide +kernel
theorem d_K_finishDownTo_0 : decode c_K_finishDownTo 0 = .ok (.aload_n 0, 1) := by decide +kernel
theorem d_K_finishDownTo_1 : decode c_K_finishDownTo 1 = .ok (.getfield 60, 3) := by decide +kernel
theorem d_K_finishDownTo_4 : decode c_K_finishDownTo 4 = .ok (.istore_n 2, 1) := by decide +kernel
theorem d_K_finishDownTo_5 : decode c_K_finishDownTo 5 = .ok (.iload_n 2, 1) := by decide +kernel
theorem d_K_finishDownTo_6 : decode c_K_finishDownTo 6 = .ok (.ifCond .le 86, 3) := by decide +kernel
theorem d_K_finishDownTo_9 : decode c_K_finishDownTo 9 = .ok (.aload_n 0, 1) := by decide +kernel
theorem d_K_finishDownTo_10 : decode c_K_finishDownTo 10 = .ok (.getfield 15, 3) := by decide +kernel
theorem d_K_finishDownTo_13 : decode c_K_finishDownTo 13 = .ok (.iload_n 2, 1) := by decide +kernel
theorem d_K_finishDownTo_14 : decode c_K_finishDownTo 14 = .ok (.iconst 1, 1) := by decide +kernel
theorem d_K_finishDownTo_15 : decode c_K_finishDownTo 15 = .ok (.isub, 1) := by decide +kernel
theorem d_K_finishDownTo_16 : decode c_K_finishDownTo 16 = .ok (.iaload, 1) := by decide +kernel
theorem d_K_finishDownTo_17 : decode c_K_finishDownTo 17 = .ok (.iload_n 1, 1) := by decide +kernel
theorem d_K_finishDownTo_18 : decode c_K_finishDownTo 18 = .ok (.if_icmp .lt 74, 3) := by decide +kernel
theorem d_K_finishDownTo_21 : decode c_K_finishDownTo 21 = .ok (.aload_n 0, 1) := by decide +kernel
theorem d_K_finishDownTo_22 : decode c_K_finishDownTo 22 = .ok (.getfield 11, 3) := by decide +kernel
theorem d_K_finishDownTo_25 : decode c_K_finishDownTo 25 = .ok (.iload_n 2, 1) := by decide +kernel
theorem d_K_finishDownTo_26 : decode c_K_finishDownTo 26 = .ok (.iconst 1, 1) := by decide +kernel
theorem d_K_finishDownTo_27 : decode c_K_finishDownTo 27 = .ok (.isub, 1) := by decide +kernel
theorem d_K_finishDownTo_28 : decode c_K_finishDownTo 28 = .ok (.iaload, 1) := by decide +kernel
theorem d_K_finishDownTo_29 : decode c_K_finishDownTo 29 = .ok (.istore_n 3, 1) := by decide +kernel
theorem d_K_finishDownTo_30 : decode c_K_finishDownTo 30 = .ok (.aload_n 0, 1) := by decide +kernel
theorem d_K_finishDownTo_31 : decode c_K_finishDownTo 31 = .ok (.getfield 15, 3) := by decide +kernel
theorem d_K_finishDownTo_34 : decode c_K_finishDownTo 34 = .ok (.iload_n 2, 1) := by decide +kernel
theorem d_K_finishDownTo_35 : decode c_K_finishDownTo 35 = .ok (.iconst 1, 1) := by decide +kernel
theorem d_K_finishDownTo_36 : decode c_K_finishDownTo 36 = .ok (.isub, 1) := by decide +kernel
theorem d_K_finishDownTo_37 : decode c_K_finishDownTo 37 = .ok (.iaload, 1) := by decide +kernel
theorem d_K_finishDownTo_38 : decode c_K_finishDownTo 38 = .ok (.bipush 11, 2) := by decide +kernel
theorem d_K_finishDownTo_40 : decode c_K_finishDownTo 40 = .ok (.if_icmp .ne 11, 3) := by decide +kernel
theorem d_K_finishDownTo_43 : decode c_K_finishDownTo 43 = .ok (.aload_n 0, 1) := by decide +kernel
theorem d_K_finishDownTo_44 : decode c_K_finishDownTo 44 = .ok (.iload_n 3, 1) := by decide +kernel
theorem d_K_finishDownTo_45 : decode c_K_finishDownTo 45 = .ok (.invokevirtual 142, 3) := by decide +kernel
theorem d_K_finishDownTo_48 : decode c_K_finishDownTo 48 = .ok (.goto 34, 3) := by decide +kernel
theorem d_K_finishDownTo_51 : decode c_K_finishDownTo 51 = .ok (.aload_n 0, 1) := by decide +kernel
theorem d_K_finishDownTo_52 : decode c_K_finishDownTo 52 = .ok (.getfield 15, 3) := by decide +kernel
theorem d_K_finishDownTo_55 : decode c_K_finishDownTo 55 = .ok (.iload_n 2, 1) := by decide +kernel
theorem d_K_finishDownTo_56 : decode c_K_finishDownTo 56 = .ok (.iconst 1, 1) := by decide +kernel
theorem d_K_finishDownTo_57 : decode c_K_finishDownTo 57 = .ok (.isub, 1) := by decide +kernel
theorem d_K_finishDownTo_58 : decode c_K_finishDownTo 58 = .ok (.iaload, 1) := by decide +kernel
theorem d_K_finishDownTo_59 : decode c_K_finishDownTo 59 = .ok (.ifCond .ne 18, 3) := by decide +kernel
theorem d_K_finishDownTo_62 : decode c_K_finishDownTo 62 = .ok (.aload_n 0, 1) := by decide +kernel
theorem d_K_finishDownTo_63 : decode c_K_finishDownTo 63 = .ok (.aload_n 0, 1) := by decide +kernel
theorem d_K_finishDownTo_64 : decode c_K_finishDownTo 64 = .ok (.getfield 18, 3) := by decide +kernel
theorem d_K_finishDownTo_67 : decode c_K_finishDownTo 67 = .ok (.iload_n 2, 1) := by decide +kernel
theorem d_K_finishDownTo_68 : decode c_K_finishDownTo 68 = .ok (.iconst 1, 1) := by decide +kernel
theorem d_K_finishDownTo_69 : decode c_K_finishDownTo 69 = .ok (.isub, 1) := by decide +kernel
theorem d_K_finishDownTo_70 : decode c_K_finishDownTo 70 = .ok (.baload, 1) := by decide +kernel
theorem d_K_finishDownTo_71 : decode c_K_finishDownTo 71 = .ok (.invokevirtual 145, 3) := by decide +kernel
theorem d_K_finishDownTo_74 : decode c_K_finishDownTo 74 = .ok (.goto 8, 3) := by decide +kernel
theorem d_K_finishDownTo_77 : decode c_K_finishDownTo 77 = .ok (.aload_n 0, 1) := by decide +kernel
theorem d_K_finishDownTo_78 : decode c_K_finishDownTo 78 = .ok (.iload_n 3, 1) := by decide +kernel
theorem d_K_finishDownTo_79 : decode c_K_finishDownTo 79 = .ok (.invokevirtual 149, 3) := by decide +kernel
theorem d_K_finishDownTo_82 : decode c_K_finishDownTo 82 = .ok (.aload_n 0, 1) := by decide +kernel
theorem d_K_finishDownTo_83 : decode c_K_finishDownTo 83 = .ok (.invokevirtual 139, 3) := by decide +kernel
theorem d_K_finishDownTo_86 : decode c_K_finishDownTo 86 = .ok (.iinc 2 (-1), 3) := by decide +kernel
theorem d_K_finishDownTo_89 : decode c_K_finishDownTo 89 = .ok (.goto (-84), 3) := by decide +kernel
theorem d_K_finishDownTo_92 : decode c_K_finishDownTo 92 = .ok (.return_, 1) := by decide +kernel
theorem d_K_takeOperand_0 : decode c_K_takeOperand 0 = .ok (.aload_n 0, 1) := by decide +kernel
theorem d_K_takeOperand_1 : decode c_K_takeOperand 1 = .ok (.getfield 29, 3) := by decide +kernel
theorem d_K_takeOperand_4 : decode c_K_takeOperand 4 = .ok (.getfield 79, 3) := by decide +kernel
theorem d_K_takeOperand_7 : decode c_K_takeOperand 7 = .ok (.iconst 5, 1) := by decide +kernel
theorem d_K_takeOperand_8 : decode c_K_takeOperand 8 = .ok (.if_icmp .ne 16, 3) := by decide +kernel
theorem d_K_takeOperand_11 : decode c_K_takeOperand 11 = .ok (.aload_n 0, 1) := by decide +kernel
theorem d_K_takeOperand_12 : decode c_K_takeOperand 12 = .ok (.aload_n 0, 1) := by decide +kernel
theorem d_K_takeOperand_13 : decode c_K_takeOperand 13 = .ok (.getfield 29, 3) := by decide +kernel
theorem d_K_takeOperand_16 : decode c_K_takeOperand 16 = .ok (.invokevirtual 82, 3) := by decide +kernel
theorem d_K_takeOperand_19 : decode c_K_takeOperand 19 = .ok (.invokevirtual 86, 3) := by decide +kernel
theorem d_K_takeOperand_22 : decode c_K_takeOperand 22 = .ok (.iconst 1, 1) := by decide +kernel
theorem d_K_takeOperand_23 : decode c_K_takeOperand 23 = .ok (.ireturn, 1) := by decide +kernel
theorem d_K_takeOperand_24 : decode c_K_takeOperand 24 = .ok (.aload_n 0, 1) := by decide +kernel
theorem d_K_takeOperand_25 : decode c_K_takeOperand 25 = .ok (.getfield 33, 3) := by decide +kernel
theorem d_K_takeOperand_28 : decode c_K_takeOperand 28 = .ok (.aload_n 0, 1) := by decide +kernel
theorem d_K_takeOperand_29 : decode c_K_takeOperand 29 = .ok (.getfield 29, 3) := by decide +kernel
theorem d_K_takeOperand_32 : decode c_K_takeOperand 32 = .ok (.getfield 79, 3) := by decide +kernel
theorem d_K_takeOperand_35 : decode c_K_takeOperand 35 = .ok (.aload_n 0, 1) := by decide +kernel
theorem d_K_takeOperand_36 : decode c_K_takeOperand 36 = .ok (.getfield 29, 3) := by decide +kernel
theorem d_K_takeOperand_39 : decode c_K_takeOperand 39 = .ok (.getfield 89, 3) := by decide +kernel
theorem d_K_takeOperand_42 : decode c_K_takeOperand 42 = .ok (.aload_n 0, 1) := by decide +kernel
theorem d_K_takeOperand_43 : decode c_K_takeOperand 43 = .ok (.getfield 29, 3) := by decide +kernel
theorem d_K_takeOperand_46 : decode c_K_takeOperand 46 = .ok (.getfield 92, 3) := by decide +kernel
theorem d_K_takeOperand_49 : decode c_K_takeOperand 49 = .ok (.invokevirtual 95, 3) := by decide +kernel
theorem d_K_takeOperand_52 : decode c_K_takeOperand 52 = .ok (.ifCond .ne 10, 3) := by decide +kernel
theorem d_K_takeOperand_55 : decode c_K_takeOperand 55 = .ok (.aload_n 0, 1) := by decide +kernel
theorem d_K_takeOperand_56 : decode c_K_takeOperand 56 = .ok (.iconst 0, 1) := by decide +kernel
theorem d_K_takeOperand_57 : decode c_K_takeOperand 57 = .ok (.putfield 40, 3) := by decide +kernel
theorem d_K_takeOperand_60 : decode c_K_takeOperand 60 = .ok (.iconst 1, 1) := by decide +kernel
theorem d_K_takeOperand_61 : decode c_K_takeOperand 61 = .ok (.ireturn, 1) := by decide +kernel
theorem d_K_takeOperand_62 : decode c_K_takeOperand 62 = .ok (.aload_n 0, 1) := by decide +kernel
theorem d_K_takeOperand_63 : decode c_K_takeOperand 63 = .ok (.aload_n 0, 1) := by decide +kernel
theorem d_K_takeOperand_64 : decode c_K_takeOperand 64 = .ok (.getfield 33, 3) := by decide +kernel
theorem d_K_takeOperand_67 : decode c_K_takeOperand 67 = .ok (.getfield 101, 3) := by decide +kernel
theorem d_K_takeOperand_70 : decode c_K_takeOperand 70 = .ok (.aload_n 0, 1) := by decide +kernel
theorem d_K_takeOperand_71 : decode c_K_takeOperand 71 = .ok (.getfield 33, 3) := by decide +kernel
theorem d_K_takeOperand_74 : decode c_K_takeOperand 74 = .ok (.getfield 105, 3) := by decide +kernel
theorem d_K_takeOperand_77 : decode c_K_takeOperand 77 = .ok (.invokevirtual 108, 3) := by decide +kernel
theorem d_K_takeOperand_80 : decode c_K_takeOperand 80 = .ok (.iconst 0, 1) := by decide +kernel
theorem d_K_takeOperand_81 : decode c_K_takeOperand 81 = .ok (.ireturn, 1) := by decide +kernel
theorem d_K_takeOperator_0 : decode c_K_takeOperator 0 = .ok (.aload_n 0, 1) := by decide +kernel
theorem d_K_takeOperator_1 : decode c_K_takeOperator 1 = .ok (.getfield 29, 3) := by decide +kernel
theorem d_K_takeOperator_4 : decode c_K_takeOperator 4 = .ok (.getfield 79, 3) := by decide +kernel
theorem d_K_takeOperator_7 : decode c_K_takeOperator 7 = .ok (.iconst 5, 1) := by decide +kernel
theorem d_K_takeOperator_8 : decode c_K_takeOperator 8 = .ok (.if_icmp .ne 13, 3) := by decide +kernel
theorem d_K_takeOperator_11 : decode c_K_takeOperator 11 = .ok (.aload_n 0, 1) := by decide +kernel
theorem d_K_takeOperator_12 : decode c_K_takeOperator 12 = .ok (.getfield 29, 3) := by decide +kernel
theorem d_K_takeOperator_15 : decode c_K_takeOperator 15 = .ok (.invokevirtual 82, 3) := by decide +kernel
theorem d_K_takeOperator_18 : decode c_K_takeOperator 18 = .ok (.goto 4, 3) := by decide +kernel
theorem d_K_takeOperator_21 : decode c_K_takeOperator 21 = .ok (.iconst 0, 1) := by decide +kernel
theorem d_K_takeOperator_22 : decode c_K_takeOperator 22 = .ok (.istore_n 1, 1) := by decide +kernel
theorem d_K_takeOperator_23 : decode c_K_takeOperator 23 = .ok (.iload_n 1, 1) := by decide +kernel
theorem d_K_takeOperator_24 : decode c_K_takeOperator 24 = .ok (.invokestatic 119, 3) := by decide +kernel
theorem d_K_takeOperator_27 : decode c_K_takeOperator 27 = .ok (.istore_n 2, 1) := by decide +kernel
theorem d_K_takeOperator_28 : decode c_K_takeOperator 28 = .ok (.aload_n 0, 1) := by decide +kernel
theorem d_K_takeOperator_29 : decode c_K_takeOperator 29 = .ok (.iload_n 2, 1) := by decide +kernel
theorem d_K_takeOperator_30 : decode c_K_takeOperator 30 = .ok (.invokevirtual 56, 3) := by decide +kernel
theorem d_K_takeOperator_33 : decode c_K_takeOperator 33 = .ok (.aload_n 0, 1) := by decide +kernel
theorem d_K_takeOperator_34 : decode c_K_takeOperator 34 = .ok (.getfield 40, 3) := by decide +kernel
theorem d_K_takeOperator_37 : decode c_K_takeOperator 37 = .ok (.ifCond .eq 17, 3) := by decide +kernel
theorem d_K_takeOperator_40 : decode c_K_takeOperator 40 = .ok (.aload_n 0, 1) := by decide +kernel
theorem d_K_takeOperator_41 : decode c_K_takeOperator 41 = .ok (.getfield 64, 3) := by decide +kernel
theorem d_K_takeOperator_44 : decode c_K_takeOperator 44 = .ok (.iconst 1, 1) := by decide +kernel
theorem d_K_takeOperator_45 : decode c_K_takeOperator 45 = .ok (.if_icmp .lt 9, 3) := by decide +kernel
theorem d_K_takeOperator_48 : decode c_K_takeOperator 48 = .ok (.iload_n 2, 1) := by decide +kernel
theorem d_K_takeOperator_49 : decode c_K_takeOperator 49 = .ok (.bipush 99, 2) := by decide +kernel
theorem d_K_takeOperator_51 : decode c_K_takeOperator 51 = .ok (.if_icmp .ne 10, 3) := by decide +kernel
theorem d_K_takeOperator_54 : decode c_K_takeOperator 54 = .ok (.aload_n 0, 1) := by decide +kernel
theorem d_K_takeOperator_55 : decode c_K_takeOperator 55 = .ok (.iconst 0, 1) := by decide +kernel
theorem d_K_takeOperator_56 : decode c_K_takeOperator 56 = .ok (.putfield 40, 3) := by decide +kernel
theorem d_K_takeOperator_59 : decode c_K_takeOperator 59 = .ok (.iconst 1, 1) := by decide +kernel
theorem d_K_takeOperator_60 : decode c_K_takeOperator 60 = .ok (.ireturn, 1) := by decide +kernel
theorem d_K_takeOperator_61 : decode c_K_takeOperator 61 = .ok (.iload_n 1, 1) := by decide +kernel
theorem d_K_takeOperator_62 : decode c_K_takeOperator 62 = .ok (.lookupswitch 52 #[(41, 34), (58, 46), (63, 40)], 34) := by decide +kernel
theorem d_K_takeOperator_96 : decode c_K_takeOperator 96 = .ok (.aload_n 0, 1) := by decide +kernel
theorem d_K_takeOperator_97 : decode c_K_takeOperator 97 = .ok (.invokevirtual 123, 3) := by decide +kernel
theorem d_K_takeOperator_100 : decode c_K_takeOperator 100 = .ok (.iconst 0, 1) := by decide +kernel
theorem d_K_takeOperator_101 : decode c_K_takeOperator 101 = .ok (.ireturn, 1) := by decide +kernel
theorem d_K_takeOperator_102 : decode c_K_takeOperator 102 = .ok (.aload_n 0, 1) := by decide +kernel
theorem d_K_takeOperator_103 : decode c_K_takeOperator 103 = .ok (.invokevirtual 126, 3) := by decide +kernel
theorem d_K_takeOperator_106 : decode c_K_takeOperator 106 = .ok (.iconst 1, 1) := by decide +kernel
theorem d_K_takeOperator_107 : decode c_K_takeOperator 107 = .ok (.ireturn, 1) := by decide +kernel
theorem d_K_takeOperator_108 : decode c_K_takeOperator 108 = .ok (.aload_n 0, 1) := by decide +kernel
theorem d_K_takeOperator_109 : decode c_K_takeOperator 109 = .ok (.invokevirtual 129, 3) := by decide +kernel
theorem d_K_takeOperator_112 : decode c_K_takeOperator 112 = .ok (.iconst 1, 1) := by decide +kernel
theorem d_K_takeOperator_113 : decode c_K_takeOperator 113 = .ok (.ireturn, 1) := by decide +kernel
theorem d_K_takeOperator_114 : decode c_K_takeOperator 114 = .ok (.aload_n 0, 1) := by decide +kernel
theorem d_K_takeOperator_115 : decode c_K_takeOperator 115 = .ok (.iload_n 1, 1) := by decide +kernel
theorem d_K_takeOperator_116 : decode c_K_takeOperator 116 = .ok (.iload_n 2, 1) := by decide +kernel
theorem d_K_takeOperator_117 : decode c_K_takeOperator 117 = .ok (.aload_n 0, 1) := by decide +kernel
theorem d_K_takeOperator_118 : decode c_K_takeOperator 118 = .ok (.iload_n 1, 1) := by decide +kernel
theorem d_K_takeOperator_119 : decode c_K_takeOperator 119 = .ok (.invokevirtual 132, 3) := by decide +kernel
theorem d_K_takeOperator_122 : decode c_K_takeOperator 122 = .ok (.invokevirtual 115, 3) := by decide +kernel
theorem d_K_takeOperator_125 : decode c_K_takeOperator 125 = .ok (.iconst 1, 1) := by decide +kernel
theorem d_K_takeOperator_126 : decode c_K_takeOperator 126 = .ok (.ireturn, 1) := by decide +kernel
theorem d_K_run_0 : decode c_K_run 0 = .ok (.aload_n 0, 1) := by decide +kernel
theorem d_K_run_1 : decode c_K_run 1 = .ok (.invokevirtual 37, 3) := by decide +kernel
theorem d_K_run_4 : decode c_K_run 4 = .ok (.iconst 1, 1) := by decide +kernel
theorem d_K_run_5 : decode c_K_run 5 = .ok (.istore_n 1, 1) := by decide +kernel
theorem d_K_run_6 : decode c_K_run 6 = .ok (.iconst 0, 1) := by decide +kernel
theorem d_K_run_7 : decode c_K_run 7 = .ok (.istore_n 2, 1) := by decide +kernel
theorem d_K_run_8 : decode c_K_run 8 = .ok (.iload_n 2, 1) := by decide +kernel
theorem d_K_run_9 : decode c_K_run 9 = .ok (.sipush 4096, 3) := by decide +kernel
theorem d_K_run_12 : decode c_K_run 12 = .ok (.if_icmp .ge 42, 3) := by decide +kernel
theorem d_K_run_15 : decode c_K_run 15 = .ok (.aload_n 0, 1) := by decide +kernel
theorem d_K_run_16 : decode c_K_run 16 = .ok (.getfield 40, 3) := by decide +kernel
theorem d_K_run_19 : decode c_K_run 19 = .ok (.ifCond .eq 35, 3) := by decide +kernel
theorem d_K_run_22 : decode c_K_run 22 = .ok (.aload_n 0, 1) := by decide +kernel
theorem d_K_run_23 : decode c_K_run 23 = .ok (.getfield 29, 3) := by decide +kernel
theorem d_K_run_26 : decode c_K_run 26 = .ok (.invokevirtual 44, 3) := by decide +kernel
theorem d_K_run_29 : decode c_K_run 29 = .ok (.ifCond .eq 25, 3) := by decide +kernel
theorem d_K_run_32 : decode c_K_run 32 = .ok (.iload_n 1, 1) := by decide +kernel
theorem d_K_run_33 : decode c_K_run 33 = .ok (.ifCond .eq 10, 3) := by decide +kernel
theorem d_K_run_36 : decode c_K_run 36 = .ok (.aload_n 0, 1) := by decide +kernel
theorem d_K_run_37 : decode c_K_run 37 = .ok (.invokevirtual 50, 3) := by decide +kernel
theorem d_K_run_40 : decode c_K_run 40 = .ok (.goto 7, 3) := by decide +kernel
theorem d_K_run_43 : decode c_K_run 43 = .ok (.aload_n 0, 1) := by decide +kernel
theorem d_K_run_44 : decode c_K_run 44 = .ok (.invokevirtual 53, 3) := by decide +kernel
theorem d_K_run_47 : decode c_K_run 47 = .ok (.istore_n 1, 1) := by decide +kernel
theorem d_K_run_48 : decode c_K_run 48 = .ok (.iinc 2 1, 3) := by decide +kernel
theorem d_K_run_51 : decode c_K_run 51 = .ok (.goto (-43), 3) := by decide +kernel
theorem d_K_run_54 : decode c_K_run 54 = .ok (.aload_n 0, 1) := by decide +kernel
theorem d_K_run_55 : decode c_K_run 55 = .ok (.getfield 40, 3) := by decide +kernel
theorem d_K_run_58 : decode c_K_run 58 = .ok (.ifCond .eq 7, 3) := by decide +kernel
theorem d_K_run_61 : decode c_K_run 61 = .ok (.iload_n 1, 1) := by decide +kernel
theorem d_K_run_62 : decode c_K_run 62 = .ok (.ifCond .eq 6, 3) := by decide +kernel
theorem d_K_run_65 : decode c_K_run 65 = .ok (.bipush 11, 2) := by decide +kernel
theorem d_K_run_67 : decode c_K_run 67 = .ok (.ireturn, 1) := by decide +kernel
theorem d_K_run_68 : decode c_K_run 68 = .ok (.aload_n 0, 1) := by decide +kernel
theorem d_K_run_69 : decode c_K_run 69 = .ok (.iconst 0, 1) := by decide +kernel
theorem d_K_run_70 : decode c_K_run 70 = .ok (.invokevirtual 56, 3) := by decide +kernel
theorem d_K_run_73 : decode c_K_run 73 = .ok (.aload_n 0, 1) := by decide +kernel
theorem d_K_run_74 : decode c_K_run 74 = .ok (.getfield 40, 3) := by decide +kernel
theorem d_K_run_77 : decode c_K_run 77 = .ok (.ifCond .eq 18, 3) := by decide +kernel
theorem d_K_run_80 : decode c_K_run 80 = .ok (.aload_n 0, 1) := by decide +kernel
theorem d_K_run_81 : decode c_K_run 81 = .ok (.getfield 60, 3) := by decide +kernel
theorem d_K_run_84 : decode c_K_run 84 = .ok (.ifCond .ne 11, 3) := by decide +kernel
theorem d_K_run_87 : decode c_K_run 87 = .ok (.aload_n 0, 1) := by decide +kernel
theorem d_K_run_88 : decode c_K_run 88 = .ok (.getfield 64, 3) := by decide +kernel
theorem d_K_run_91 : decode c_K_run 91 = .ok (.iconst 1, 1) := by decide +kernel
theorem d_K_run_92 : decode c_K_run 92 = .ok (.if_icmp .eq 6, 3) := by decide +kernel
theorem d_K_run_95 : decode c_K_run 95 = .ok (.bipush 11, 2) := by decide +kernel
theorem d_K_run_97 : decode c_K_run 97 = .ok (.ireturn, 1) := by decide +kernel
theorem d_K_run_98 : decode c_K_run 98 = .ok (.aload_n 0, 1) := by decide +kernel
theorem d_K_run_99 : decode c_K_run 99 = .ok (.getfield 67, 3) := by decide +kernel
theorem d_K_run_102 : decode c_K_run 102 = .ok (.ifCond .eq 8, 3) := by decide +kernel
theorem d_K_run_105 : decode c_K_run 105 = .ok (.bipush 12, 2) := by decide +kernel
theorem d_K_run_107 : decode c_K_run 107 = .ok (.goto 4, 3) := by decide +kernel
theorem d_K_run_110 : decode c_K_run 110 = .ok (.iconst 0, 1) := by decide +kernel
theorem d_K_run_111 : decode c_K_run 111 = .ok (.ireturn, 1) := by decide +kernel
theorem d_M_feed_0 : decode c_M_feed 0 = .ok (.iload_n 3, 1) := by decide +kernel
theorem d_M_feed_1 : decode c_M_feed 1 = .ok (.iconst 1, 1) := by decide +kernel
theorem d_M_feed_2 : decode c_M_feed 2 = .ok (.if_icmp .lt 9, 3) := by decide +kernel
theorem d_M_feed_5 : decode c_M_feed 5 = .ok (.iload_n 3, 1) := by decide +kernel
theorem d_M_feed_6 : decode c_M_feed 6 = .ok (.bipush 8, 2) := by decide +kernel
theorem d_M_feed_8 : decode c_M_feed 8 = .ok (.if_icmp .le 5, 3) := by decide +kernel
theorem d_M_feed_11 : decode c_M_feed 11 = .ok (.iconst (-1), 1) := by decide +kernel
theorem d_M_feed_12 : decode c_M_feed 12 = .ok (.ireturn, 1) := by decide +kernel
theorem d_M_feed_13 : decode c_M_feed 13 = .ok (.iload_n 3, 1) := by decide +kernel
theorem d_M_feed_14 : decode c_M_feed 14 = .ok (.sipush 4096, 3) := by decide +kernel
theorem d_M_feed_17 : decode c_M_feed 17 = .ok (.aload_n 0, 1) := by decide +kernel
theorem d_M_feed_18 : decode c_M_feed 18 = .ok (.getfield 10, 3) := by decide +kernel
theorem d_M_feed_21 : decode c_M_feed 21 = .ok (.getfield 37, 3) := by decide +kernel
theorem d_M_feed_24 : decode c_M_feed 24 = .ok (.isub, 1) := by decide +kernel
theorem d_M_feed_25 : decode c_M_feed 25 = .ok (.if_icmp .le 6, 3) := by decide +kernel
theorem d_M_feed_28 : decode c_M_feed 28 = .ok (.bipush (-2), 2) := by decide +kernel
theorem d_M_feed_30 : decode c_M_feed 30 = .ok (.ireturn, 1) := by decide +kernel
theorem d_M_feed_31 : decode c_M_feed 31 = .ok (.aload_n 0, 1) := by decide +kernel
theorem d_M_feed_32 : decode c_M_feed 32 = .ok (.getfield 10, 3) := by decide +kernel
theorem d_M_feed_35 : decode c_M_feed 35 = .ok (.lload_n 1, 1) := by decide +kernel
theorem d_M_feed_36 : decode c_M_feed 36 = .ok (.iload_n 3, 1) := by decide +kernel
theorem d_M_feed_37 : decode c_M_feed 37 = .ok (.invokevirtual 41, 3) := by decide +kernel
theorem d_M_feed_40 : decode c_M_feed 40 = .ok (.aload_n 0, 1) := by decide +kernel
theorem d_M_feed_41 : decode c_M_feed 41 = .ok (.getfield 10, 3) := by decide +kernel
theorem d_M_feed_44 : decode c_M_feed 44 = .ok (.getfield 37, 3) := by decide +kernel
theorem d_M_feed_47 : decode c_M_feed 47 = .ok (.ireturn, 1) := by decide +kernel
theorem d_M_cut_0 : decode c_M_cut 0 = .ok (.iload_n 1, 1) := by decide +kernel
theorem d_M_cut_1 : decode c_M_cut 1 = .ok (.ifCond .lt 14, 3) := by decide +kernel
theorem d_M_cut_4 : decode c_M_cut 4 = .ok (.iload_n 1, 1) := by decide +kernel
theorem d_M_cut_5 : decode c_M_cut 5 = .ok (.aload_n 0, 1) := by decide +kernel
theorem d_M_cut_6 : decode c_M_cut 6 = .ok (.getfield 10, 3) := by decide +kernel
theorem d_M_cut_9 : decode c_M_cut 9 = .ok (.getfield 37, 3) := by decide +kernel
theorem d_M_cut_12 : decode c_M_cut 12 = .ok (.if_icmp .le 5, 3) := by decide +kernel
theorem d_M_cut_15 : decode c_M_cut 15 = .ok (.iconst (-1), 1) := by decide +kernel
theorem d_M_cut_16 : decode c_M_cut 16 = .ok (.ireturn, 1) := by decide +kernel
theorem d_M_cut_17 : decode c_M_cut 17 = .ok (.aload_n 0, 1) := by decide +kernel
theorem d_M_cut_18 : decode c_M_cut 18 = .ok (.getfield 10, 3) := by decide +kernel
theorem d_M_cut_21 : decode c_M_cut 21 = .ok (.getfield 37, 3) := by decide +kernel
theorem d_M_cut_24 : decode c_M_cut 24 = .ok (.iload_n 1, 1) := by decide +kernel
theorem d_M_cut_25 : decode c_M_cut 25 = .ok (.isub, 1) := by decide +kernel
theorem d_M_cut_26 : decode c_M_cut 26 = .ok (.istore_n 2, 1) := by decide +kernel
theorem d_M_cut_27 : decode c_M_cut 27 = .ok (.aload_n 0, 1) := by decide +kernel
theorem d_M_cut_28 : decode c_M_cut 28 = .ok (.getfield 10, 3) := by decide +kernel
theorem d_M_cut_31 : decode c_M_cut 31 = .ok (.iload_n 1, 1) := by decide +kernel
theorem d_M_cut_32 : decode c_M_cut 32 = .ok (.putfield 37, 3) := by decide +kernel
theorem d_M_cut_35 : decode c_M_cut 35 = .ok (.iload_n 2, 1) := by decide +kernel
theorem d_M_cut_36 : decode c_M_cut 36 = .ok (.ireturn, 1) := by decide +kernel
theorem d_M_reckon_0 : decode c_M_reckon 0 = .ok (.aload_n 0, 1) := by decide +kernel
theorem d_M_reckon_1 : decode c_M_reckon 1 = .ok (.getfield 33, 3) := by decide +kernel
theorem d_M_reckon_4 : decode c_M_reckon 4 = .ok (.invokevirtual 45, 3) := by decide +kernel
theorem d_M_reckon_7 : decode c_M_reckon 7 = .ok (.istore_n 1, 1) := by decide +kernel
theorem d_M_reckon_8 : decode c_M_reckon 8 = .ok (.iload_n 1, 1) := by decide +kernel
theorem d_M_reckon_9 : decode c_M_reckon 9 = .ok (.ifCond .ne 7, 3) := by decide +kernel
theorem d_M_reckon_12 : decode c_M_reckon 12 = .ok (.iconst 1, 1) := by decide +kernel
theorem d_M_reckon_13 : decode c_M_reckon 13 = .ok (.goto 4, 3) := by decide +kernel
theorem d_M_reckon_16 : decode c_M_reckon 16 = .ok (.iconst 0, 1) := by decide +kernel
theorem d_M_reckon_17 : decode c_M_reckon 17 = .ok (.istore_n 2, 1) := by decide +kernel
theorem d_M_reckon_18 : decode c_M_reckon 18 = .ok (.aload_n 0, 1) := by decide +kernel
theorem d_M_reckon_19 : decode c_M_reckon 19 = .ok (.iload_n 2, 1) := by decide +kernel
theorem d_M_reckon_20 : decode c_M_reckon 20 = .ok (.ifCond .eq 15, 3) := by decide +kernel
theorem d_M_reckon_23 : decode c_M_reckon 23 = .ok (.aload_n 0, 1) := by decide +kernel
theorem d_M_reckon_24 : decode c_M_reckon 24 = .ok (.getfield 33, 3) := by decide +kernel
theorem d_M_reckon_27 : decode c_M_reckon 27 = .ok (.getfield 49, 3) := by decide +kernel
theorem d_M_reckon_30 : decode c_M_reckon 30 = .ok (.iconst 0, 1) := by decide +kernel
theorem d_M_reckon_31 : decode c_M_reckon 31 = .ok (.laload, 1) := by decide +kernel
theorem d_M_reckon_32 : decode c_M_reckon 32 = .ok (.goto 4, 3) := by decide +kernel
theorem d_M_reckon_35 : decode c_M_reckon 35 = .ok (.lconst 0, 1) := by decide +kernel
theorem d_M_reckon_36 : decode c_M_reckon 36 = .ok (.putfield 53, 3) := by decide +kernel
theorem d_M_reckon_39 : decode c_M_reckon 39 = .ok (.aload_n 0, 1) := by decide +kernel
theorem d_M_reckon_40 : decode c_M_reckon 40 = .ok (.iload_n 2, 1) := by decide +kernel
theorem d_M_reckon_41 : decode c_M_reckon 41 = .ok (.ifCond .eq 19, 3) := by decide +kernel
theorem d_M_reckon_44 : decode c_M_reckon 44 = .ok (.aload_n 0, 1) := by decide +kernel
theorem d_M_reckon_45 : decode c_M_reckon 45 = .ok (.getfield 33, 3) := by decide +kernel
theorem d_M_reckon_48 : decode c_M_reckon 48 = .ok (.getfield 57, 3) := by decide +kernel
theorem d_M_reckon_51 : decode c_M_reckon 51 = .ok (.iconst 0, 1) := by decide +kernel
theorem d_M_reckon_52 : decode c_M_reckon 52 = .ok (.baload, 1) := by decide +kernel
theorem d_M_reckon_53 : decode c_M_reckon 53 = .ok (.ifCond .eq 7, 3) := by decide +kernel
theorem d_M_reckon_56 : decode c_M_reckon 56 = .ok (.iconst 1, 1) := by decide +kernel
theorem d_M_reckon_57 : decode c_M_reckon 57 = .ok (.goto 4, 3) := by decide +kernel
theorem d_M_reckon_60 : decode c_M_reckon 60 = .ok (.iconst 0, 1) := by decide +kernel
theorem d_M_reckon_61 : decode c_M_reckon 61 = .ok (.putfield 61, 3) := by decide +kernel
theorem d_M_reckon_64 : decode c_M_reckon 64 = .ok (.iload_n 1, 1) := by decide +kernel
theorem d_M_reckon_65 : decode c_M_reckon 65 = .ok (.ireturn, 1) := by decide +kernel
theorem d_M_value_0 : decode c_M_value 0 = .ok (.aload_n 0, 1) := by decide +kernel
theorem d_M_value_1 : decode c_M_value 1 = .ok (.getfield 53, 3) := by decide +kernel
theorem d_M_value_4 : decode c_M_value 4 = .ok (.lreturn, 1) := by decide +kernel
theorem d_M_isPlain_0 : decode c_M_isPlain 0 = .ok (.aload_n 0, 1) := by decide +kernel
theorem d_M_isPlain_1 : decode c_M_isPlain 1 = .ok (.getfield 61, 3) := by decide +kernel
theorem d_M_isPlain_4 : decode c_M_isPlain 4 = .ok (.ireturn, 1) := by decide +kernel
theorem d_M_tokens_0 : decode c_M_tokens 0 = .ok (.aload_n 0, 1) := by decide +kernel
theorem d_M_tokens_1 : decode c_M_tokens 1 = .ok (.getfield 21, 3) := by decide +kernel
theorem d_M_tokens_4 : decode c_M_tokens 4 = .ok (.invokevirtual 65, 3) := by decide +kernel
theorem d_M_tokens_7 : decode c_M_tokens 7 = .ok (.iconst 0, 1) := by decide +kernel
theorem d_M_tokens_8 : decode c_M_tokens 8 = .ok (.istore_n 1, 1) := by decide +kernel
theorem d_M_tokens_9 : decode c_M_tokens 9 = .ok (.iload_n 1, 1) := by decide +kernel
theorem d_M_tokens_10 : decode c_M_tokens 10 = .ok (.sipush 4096, 3) := by decide +kernel
theorem d_M_tokens_13 : decode c_M_tokens 13 = .ok (.if_icmp .ge 19, 3) := by decide +kernel
theorem d_M_tokens_16 : decode c_M_tokens 16 = .ok (.aload_n 0, 1) := by decide +kernel
theorem d_M_tokens_17 : decode c_M_tokens 17 = .ok (.getfield 21, 3) := by decide +kernel
theorem d_M_tokens_20 : decode c_M_tokens 20 = .ok (.invokevirtual 68, 3) := by decide +kernel
theorem d_M_tokens_23 : decode c_M_tokens 23 = .ok (.ifCond .eq 9, 3) := by decide +kernel
theorem d_M_tokens_26 : decode c_M_tokens 26 = .ok (.iinc 1 1, 3) := by decide +kernel
theorem d_M_tokens_29 : decode c_M_tokens 29 = .ok (.goto (-20), 3) := by decide +kernel
theorem d_M_tokens_32 : decode c_M_tokens 32 = .ok (.iload_n 1, 1) := by decide +kernel
theorem d_M_tokens_33 : decode c_M_tokens 33 = .ok (.ireturn, 1) := by decide +kernel
theorem d_M_token_0 : decode c_M_token 0 = .ok (.iload_n 2, 1) := by decide +kernel
theorem d_M_token_1 : decode c_M_token 1 = .ok (.ifCond .lt 19, 3) := by decide +kernel
theorem d_M_token_4 : decode c_M_token 4 = .ok (.iload_n 2, 1) := by decide +kernel
theorem d_M_token_5 : decode c_M_token 5 = .ok (.iconst 2, 1) := by decide +kernel
theorem d_M_token_6 : decode c_M_token 6 = .ok (.if_icmp .gt 14, 3) := by decide +kernel
theorem d_M_token_9 : decode c_M_token 9 = .ok (.iload_n 1, 1) := by decide +kernel
theorem d_M_token_10 : decode c_M_token 10 = .ok (.ifCond .lt 10, 3) := by decide +kernel
theorem d_M_token_13 : decode c_M_token 13 = .ok (.iload_n 1, 1) := by decide +kernel
theorem d_M_token_14 : decode c_M_token 14 = .ok (.sipush 4096, 3) := by decide +kernel
theorem d_M_token_17 : decode c_M_token 17 = .ok (.if_icmp .lt 5, 3) := by decide +kernel
theorem d_M_token_20 : decode c_M_token 20 = .ok (.iconst (-1), 1) := by decide +kernel
theorem d_M_token_21 : decode c_M_token 21 = .ok (.ireturn, 1) := by decide +kernel
theorem d_M_token_22 : decode c_M_token 22 = .ok (.aload_n 0, 1) := by decide +kernel
theorem d_M_token_23 : decode c_M_token 23 = .ok (.getfield 21, 3) := by decide +kernel
theorem d_M_token_26 : decode c_M_token 26 = .ok (.invokevirtual 65, 3) := by decide +kernel
theorem d_M_token_29 : decode c_M_token 29 = .ok (.iconst 0, 1) := by decide +kernel
theorem d_M_token_30 : decode c_M_token 30 = .ok (.istore_n 3, 1) := by decide +kernel
theorem d_M_token_31 : decode c_M_token 31 = .ok (.iload_n 3, 1) := by decide +kernel
theorem d_M_token_32 : decode c_M_token 32 = .ok (.iload_n 1, 1) := by decide +kernel
theorem d_M_token_33 : decode c_M_token 33 = .ok (.if_icmp .gt 21, 3) := by decide +kernel
theorem d_M_token_36 : decode c_M_token 36 = .ok (.aload_n 0, 1) := by decide +kernel
theorem d_M_token_37 : decode c_M_token 37 = .ok (.getfield 21, 3) := by decide +kernel
theorem d_M_token_40 : decode c_M_token 40 = .ok (.invokevirtual 68, 3) := by decide +kernel
theorem d_M_token_43 : decode c_M_token 43 = .ok (.ifCond .ne 5, 3) := by decide +kernel
theorem d_M_token_46 : decode c_M_token 46 = .ok (.iconst (-1), 1) := by decide +kernel
theorem d_M_token_47 : decode c_M_token 47 = .ok (.ireturn, 1) := by decide +kernel
theorem d_M_token_48 : decode c_M_token 48 = .ok (.iinc 3 1, 3) := by decide +kernel
theorem d_M_token_51 : decode c_M_token 51 = .ok (.goto (-20), 3) := by decide +kernel
theorem d_M_token_54 : decode c_M_token 54 = .ok (.iload_n 2, 1) := by decide +kernel
theorem d_M_token_55 : decode c_M_token 55 = .ok (.ifCond .ne 11, 3) := by decide +kernel
theorem d_M_token_58 : decode c_M_token 58 = .ok (.aload_n 0, 1) := by decide +kernel
theorem d_M_token_59 : decode c_M_token 59 = .ok (.getfield 21, 3) := by decide +kernel
theorem d_M_token_62 : decode c_M_token 62 = .ok (.getfield 72, 3) := by decide +kernel
theorem d_M_token_65 : decode c_M_token 65 = .ok (.ireturn, 1) := by decide +kernel
theorem d_M_token_66 : decode c_M_token 66 = .ok (.iload_n 2, 1) := by decide +kernel
theorem d_M_token_67 : decode c_M_token 67 = .ok (.iconst 1, 1) := by decide +kernel
theorem d_M_token_68 : decode c_M_token 68 = .ok (.if_icmp .ne 21, 3) := by decide +kernel
theorem d_M_token_71 : decode c_M_token 71 = .ok (.aload_n 0, 1) := by decide +kernel
theorem d_M_token_72 : decode c_M_token 72 = .ok (.getfield 21, 3) := by decide +kernel
theorem d_M_token_75 : decode c_M_token 75 = .ok (.getfield 75, 3) := by decide +kernel
theorem d_M_token_78 : decode c_M_token 78 = .ok (.aload_n 0, 1) := by decide +kernel
theorem d_M_token_79 : decode c_M_token 79 = .ok (.getfield 21, 3) := by decide +kernel
theorem d_M_token_82 : decode c_M_token 82 = .ok (.getfield 72, 3) := by decide +kernel
theorem d_M_token_85 : decode c_M_token 85 = .ok (.isub, 1) := by decide +kernel
theorem d_M_token_86 : decode c_M_token 86 = .ok (.goto 10, 3) := by decide +kernel
theorem d_M_token_89 : decode c_M_token 89 = .ok (.aload_n 0, 1) := by decide +kernel
theorem d_M_token_90 : decode c_M_token 90 = .ok (.getfield 21, 3) := by decide +kernel
theorem d_M_token_93 : decode c_M_token 93 = .ok (.getfield 78, 3) := by decide +kernel
theorem d_M_token_96 : decode c_M_token 96 = .ok (.ireturn, 1) := by decide +kernel
theorem d_T_init_0 : decode c_T_init 0 = .ok (.aload_n 0, 1) := by decide +kernel
theorem d_T_init_1 : decode c_T_init 1 = .ok (.invokespecial 3, 3) := by decide +kernel
theorem d_T_init_4 : decode c_T_init 4 = .ok (.aload_n 0, 1) := by decide +kernel
theorem d_T_init_5 : decode c_T_init 5 = .ok (.sipush 4096, 3) := by decide +kernel
theorem d_T_init_8 : decode c_T_init 8 = .ok (.newarray .byte, 2) := by decide +kernel
theorem d_T_init_10 : decode c_T_init 10 = .ok (.putfield 9, 3) := by decide +kernel
theorem d_T_init_13 : decode c_T_init 13 = .ok (.return_, 1) := by decide +kernel
theorem d_W_init_0 : decode c_W_init 0 = .ok (.aload_n 0, 1) := by decide +kernel
theorem d_W_init_1 : decode c_W_init 1 = .ok (.invokespecial 3, 3) := by decide +kernel
theorem d_W_init_4 : decode c_W_init 4 = .ok (.aload_n 0, 1) := by decide +kernel
theorem d_W_init_5 : decode c_W_init 5 = .ok (.aload_n 1, 1) := by decide +kernel
theorem d_W_init_6 : decode c_W_init 6 = .ok (.putfield 9, 3) := by decide +kernel
theorem d_W_init_9 : decode c_W_init 9 = .ok (.return_, 1) := by decide +kernel
theorem d_L_init_0 : decode c_L_init 0 = .ok (.aload_n 0, 1) := by decide +kernel
theorem d_L_init_1 : decode c_L_init 1 = .ok (.invokespecial 3, 3) := by decide +kernel
theorem d_L_init_4 : decode c_L_init 4 = .ok (.aload_n 0, 1) := by decide +kernel
theorem d_L_init_5 : decode c_L_init 5 = .ok (.aload_n 1, 1) := by decide +kernel
theorem d_L_init_6 : decode c_L_init 6 = .ok (.putfield 9, 3) := by decide +kernel
theorem d_L_init_9 : decode c_L_init 9 = .ok (.return_, 1) := by decide +kernel
theorem d_K_init_0 : decode c_K_init 0 = .ok (.aload_n 0, 1) := by decide +kernel
theorem d_K_init_1 : decode c_K_init 1 = .ok (.invokespecial 5, 3) := by decide +kernel
theorem d_K_init_4 : decode c_K_init 4 = .ok (.aload_n 0, 1) := by decide +kernel
theorem d_K_init_5 : decode c_K_init 5 = .ok (.sipush 670, 3) := by decide +kernel
theorem d_K_init_8 : decode c_K_init 8 = .ok (.newarray .int, 2) := by decide +kernel
theorem d_K_init_10 : decode c_K_init 10 = .ok (.putfield 11, 3) := by decide +kernel
theorem d_K_init_13 : decode c_K_init 13 = .ok (.aload_n 0, 1) := by decide +kernel
theorem d_K_init_14 : decode c_K_init 14 = .ok (.sipush 670, 3) := by decide +kernel
theorem d_K_init_17 : decode c_K_init 17 = .ok (.newarray .int, 2) := by decide +kernel
theorem d_K_init_19 : decode c_K_init 19 = .ok (.putfield 15, 3) := by decide +kernel
theorem d_K_init_22 : decode c_K_init 22 = .ok (.aload_n 0, 1) := by decide +kernel
theorem d_K_init_23 : decode c_K_init 23 = .ok (.sipush 670, 3) := by decide +kernel
theorem d_K_init_26 : decode c_K_init 26 = .ok (.newarray .boolean, 2) := by decide +kernel
theorem d_K_init_28 : decode c_K_init 28 = .ok (.putfield 18, 3) := by decide +kernel
theorem d_K_init_31 : decode c_K_init 31 = .ok (.aload_n 0, 1) := by decide +kernel
theorem d_K_init_32 : decode c_K_init 32 = .ok (.sipush 671, 3) := by decide +kernel
theorem d_K_init_35 : decode c_K_init 35 = .ok (.newarray .long, 2) := by decide +kernel
theorem d_K_init_37 : decode c_K_init 37 = .ok (.putfield 22, 3) := by decide +kernel
theorem d_K_init_40 : decode c_K_init 40 = .ok (.aload_n 0, 1) := by decide +kernel
theorem d_K_init_41 : decode c_K_init 41 = .ok (.sipush 671, 3) := by decide +kernel
theorem d_K_init_44 : decode c_K_init 44 = .ok (.newarray .boolean, 2) := by decide +kernel
theorem d_K_init_46 : decode c_K_init 46 = .ok (.putfield 26, 3) := by decide +kernel
theorem d_K_init_49 : decode c_K_init 49 = .ok (.aload_n 0, 1) := by decide +kernel
theorem d_K_init_50 : decode c_K_init 50 = .ok (.aload_n 1, 1) := by decide +kernel
theorem d_K_init_51 : decode c_K_init 51 = .ok (.putfield 29, 3) := by decide +kernel
theorem d_K_init_54 : decode c_K_init 54 = .ok (.aload_n 0, 1) := by decide +kernel
theorem d_K_init_55 : decode c_K_init 55 = .ok (.aload_n 2, 1) := by decide +kernel
theorem d_K_init_56 : decode c_K_init 56 = .ok (.putfield 33, 3) := by decide +kernel
theorem d_K_init_59 : decode c_K_init 59 = .ok (.return_, 1) := by decide +kernel
theorem d_M_init_0 : decode c_M_init 0 = .ok (.aload_n 0, 1) := by decide +kernel
theorem d_M_init_1 : decode c_M_init 1 = .ok (.invokespecial 1, 3) := by decide +kernel
theorem d_M_init_4 : decode c_M_init 4 = .ok (.aload_n 0, 1) := by decide +kernel
theorem d_M_init_5 : decode c_M_init 5 = .ok (.new 7, 3) := by decide +kernel
theorem d_M_init_8 : decode c_M_init 8 = .ok (.dup, 1) := by decide +kernel
theorem d_M_init_9 : decode c_M_init 9 = .ok (.invokespecial 9, 3) := by decide +kernel
theorem d_M_init_12 : decode c_M_init 12 = .ok (.putfield 10, 3) := by decide +kernel
theorem d_M_init_15 : decode c_M_init 15 = .ok (.aload_n 0, 1) := by decide +kernel
theorem d_M_init_16 : decode c_M_init 16 = .ok (.new 16, 3) := by decide +kernel
theorem d_M_init_19 : decode c_M_init 19 = .ok (.dup, 1) := by decide +kernel
theorem d_M_init_20 : decode c_M_init 20 = .ok (.aload_n 0, 1) := by decide +kernel
theorem d_M_init_21 : decode c_M_init 21 = .ok (.getfield 10, 3) := by decide +kernel
theorem d_M_init_24 : decode c_M_init 24 = .ok (.invokespecial 18, 3) := by decide +kernel
theorem d_M_init_27 : decode c_M_init 27 = .ok (.putfield 21, 3) := by decide +kernel
theorem d_M_init_30 : decode c_M_init 30 = .ok (.aload_n 0, 1) := by decide +kernel
theorem d_M_init_31 : decode c_M_init 31 = .ok (.new 25, 3) := by decide +kernel
theorem d_M_init_34 : decode c_M_init 34 = .ok (.dup, 1) := by decide +kernel
theorem d_M_init_35 : decode c_M_init 35 = .ok (.aload_n 0, 1) := by decide +kernel
theorem d_M_init_36 : decode c_M_init 36 = .ok (.getfield 21, 3) := by decide +kernel
theorem d_M_init_39 : decode c_M_init 39 = .ok (.new 27, 3) := by decide +kernel
theorem d_M_init_42 : decode c_M_init 42 = .ok (.dup, 1) := by decide +kernel
theorem d_M_init_43 : decode c_M_init 43 = .ok (.aload_n 0, 1) := by decide +kernel
theorem d_M_init_44 : decode c_M_init 44 = .ok (.getfield 10, 3) := by decide +kernel
theorem d_M_init_47 : decode c_M_init 47 = .ok (.invokespecial 29, 3) := by decide +kernel
theorem d_M_init_50 : decode c_M_init 50 = .ok (.invokespecial 30, 3) := by decide +kernel
theorem d_M_init_53 : decode c_M_init 53 = .ok (.putfield 33, 3) := by decide +kernel
theorem d_M_init_56 : decode c_M_init 56 = .ok (.return_, 1) := by decide +kernel
