theorem d_R_tokenSizeAt_0 : decode c_R_tokenSizeAt 0 = .ok (.aload_n 0, 1) := by decide +kernel
theorem d_R_tokenSizeAt_1 : decode c_R_tokenSizeAt 1 = .ok (.getfield 9, 3) := by decide +kernel
theorem d_R_tokenSizeAt_4 : decode c_R_tokenSizeAt 4 = .ok (.iload_n 1, 1) := by decide +kernel
theorem d_R_tokenSizeAt_5 : decode c_R_tokenSizeAt 5 = .ok (.iload_n 2, 1) := by decide +kernel
theorem d_R_tokenSizeAt_6 : decode c_R_tokenSizeAt 6 = .ok (.invokestatic 45, 3) := by decide +kernel
theorem d_R_tokenSizeAt_9 : decode c_R_tokenSizeAt 9 = .ok (.istore_n 3, 1) := by decide +kernel
theorem d_R_tokenSizeAt_10 : decode c_R_tokenSizeAt 10 = .ok (.aload_n 0, 1) := by decide +kernel
theorem d_R_tokenSizeAt_11 : decode c_R_tokenSizeAt 11 = .ok (.getfield 9, 3) := by decide +kernel
theorem d_R_tokenSizeAt_14 : decode c_R_tokenSizeAt 14 = .ok (.iload_n 1, 1) := by decide +kernel
theorem d_R_tokenSizeAt_15 : decode c_R_tokenSizeAt 15 = .ok (.iconst 1, 1) := by decide +kernel
theorem d_R_tokenSizeAt_16 : decode c_R_tokenSizeAt 16 = .ok (.iadd, 1) := by decide +kernel
theorem d_R_tokenSizeAt_17 : decode c_R_tokenSizeAt 17 = .ok (.iload_n 2, 1) := by decide +kernel
theorem d_R_tokenSizeAt_18 : decode c_R_tokenSizeAt 18 = .ok (.invokestatic 45, 3) := by decide +kernel
theorem d_R_tokenSizeAt_21 : decode c_R_tokenSizeAt 21 = .ok (.istore 4, 2) := by decide +kernel
theorem d_R_tokenSizeAt_23 : decode c_R_tokenSizeAt 23 = .ok (.iload_n 3, 1) := by decide +kernel
theorem d_R_tokenSizeAt_24 : decode c_R_tokenSizeAt 24 = .ok (.bipush 76, 2) := by decide +kernel
theorem d_R_tokenSizeAt_26 : decode c_R_tokenSizeAt 26 = .ok (.if_icmp .ne 39, 3) := by decide +kernel
theorem d_R_tokenSizeAt_29 : decode c_R_tokenSizeAt 29 = .ok (.iload 4, 2) := by decide +kernel
theorem d_R_tokenSizeAt_31 : decode c_R_tokenSizeAt 31 = .ok (.bipush 34, 2) := by decide +kernel
theorem d_R_tokenSizeAt_33 : decode c_R_tokenSizeAt 33 = .ok (.if_icmp .eq 10, 3) := by decide +kernel
theorem d_R_tokenSizeAt_36 : decode c_R_tokenSizeAt 36 = .ok (.iload 4, 2) := by decide +kernel
theorem d_R_tokenSizeAt_38 : decode c_R_tokenSizeAt 38 = .ok (.bipush 39, 2) := by decide +kernel
theorem d_R_tokenSizeAt_40 : decode c_R_tokenSizeAt 40 = .ok (.if_icmp .ne 25, 3) := by decide +kernel
theorem d_R_tokenSizeAt_43 : decode c_R_tokenSizeAt 43 = .ok (.aload_n 0, 1) := by decide +kernel
theorem d_R_tokenSizeAt_44 : decode c_R_tokenSizeAt 44 = .ok (.iload_n 1, 1) := by decide +kernel
theorem d_R_tokenSizeAt_45 : decode c_R_tokenSizeAt 45 = .ok (.iconst 1, 1) := by decide +kernel
theorem d_R_tokenSizeAt_46 : decode c_R_tokenSizeAt 46 = .ok (.iadd, 1) := by decide +kernel
theorem d_R_tokenSizeAt_47 : decode c_R_tokenSizeAt 47 = .ok (.iload_n 2, 1) := by decide +kernel
theorem d_R_tokenSizeAt_48 : decode c_R_tokenSizeAt 48 = .ok (.invokevirtual 57, 3) := by decide +kernel
theorem d_R_tokenSizeAt_51 : decode c_R_tokenSizeAt 51 = .ok (.ifCond .le 14, 3) := by decide +kernel
theorem d_R_tokenSizeAt_54 : decode c_R_tokenSizeAt 54 = .ok (.aload_n 0, 1) := by decide +kernel
theorem d_R_tokenSizeAt_55 : decode c_R_tokenSizeAt 55 = .ok (.iload_n 1, 1) := by decide +kernel
theorem d_R_tokenSizeAt_56 : decode c_R_tokenSizeAt 56 = .ok (.iconst 1, 1) := by decide +kernel
theorem d_R_tokenSizeAt_57 : decode c_R_tokenSizeAt 57 = .ok (.iadd, 1) := by decide +kernel
theorem d_R_tokenSizeAt_58 : decode c_R_tokenSizeAt 58 = .ok (.iload_n 2, 1) := by decide +kernel
theorem d_R_tokenSizeAt_59 : decode c_R_tokenSizeAt 59 = .ok (.invokevirtual 57, 3) := by decide +kernel
theorem d_R_tokenSizeAt_62 : decode c_R_tokenSizeAt 62 = .ok (.iload_n 1, 1) := by decide +kernel
theorem d_R_tokenSizeAt_63 : decode c_R_tokenSizeAt 63 = .ok (.isub, 1) := by decide +kernel
theorem d_R_tokenSizeAt_64 : decode c_R_tokenSizeAt 64 = .ok (.ireturn, 1) := by decide +kernel
theorem d_R_tokenSizeAt_65 : decode c_R_tokenSizeAt 65 = .ok (.iload_n 3, 1) := by decide +kernel
theorem d_R_tokenSizeAt_66 : decode c_R_tokenSizeAt 66 = .ok (.bipush 34, 2) := by decide +kernel
theorem d_R_tokenSizeAt_68 : decode c_R_tokenSizeAt 68 = .ok (.if_icmp .eq 9, 3) := by decide +kernel
theorem d_R_tokenSizeAt_71 : decode c_R_tokenSizeAt 71 = .ok (.iload_n 3, 1) := by decide +kernel
theorem d_R_tokenSizeAt_72 : decode c_R_tokenSizeAt 72 = .ok (.bipush 39, 2) := by decide +kernel
theorem d_R_tokenSizeAt_74 : decode c_R_tokenSizeAt 74 = .ok (.if_icmp .ne 21, 3) := by decide +kernel
theorem d_R_tokenSizeAt_77 : decode c_R_tokenSizeAt 77 = .ok (.aload_n 0, 1) := by decide +kernel
theorem d_R_tokenSizeAt_78 : decode c_R_tokenSizeAt 78 = .ok (.iload_n 1, 1) := by decide +kernel
theorem d_R_tokenSizeAt_79 : decode c_R_tokenSizeAt 79 = .ok (.iload_n 2, 1) := by decide +kernel
theorem d_R_tokenSizeAt_80 : decode c_R_tokenSizeAt 80 = .ok (.invokevirtual 57, 3) := by decide +kernel
theorem d_R_tokenSizeAt_83 : decode c_R_tokenSizeAt 83 = .ok (.ifCond .le 12, 3) := by decide +kernel
theorem d_R_tokenSizeAt_86 : decode c_R_tokenSizeAt 86 = .ok (.aload_n 0, 1) := by decide +kernel
theorem d_R_tokenSizeAt_87 : decode c_R_tokenSizeAt 87 = .ok (.iload_n 1, 1) := by decide +kernel
theorem d_R_tokenSizeAt_88 : decode c_R_tokenSizeAt 88 = .ok (.iload_n 2, 1) := by decide +kernel
theorem d_R_tokenSizeAt_89 : decode c_R_tokenSizeAt 89 = .ok (.invokevirtual 57, 3) := by decide +kernel
theorem d_R_tokenSizeAt_92 : decode c_R_tokenSizeAt 92 = .ok (.iload_n 1, 1) := by decide +kernel
theorem d_R_tokenSizeAt_93 : decode c_R_tokenSizeAt 93 = .ok (.isub, 1) := by decide +kernel
theorem d_R_tokenSizeAt_94 : decode c_R_tokenSizeAt 94 = .ok (.ireturn, 1) := by decide +kernel
theorem d_R_tokenSizeAt_95 : decode c_R_tokenSizeAt 95 = .ok (.iload_n 1, 1) := by decide +kernel
theorem d_R_tokenSizeAt_96 : decode c_R_tokenSizeAt 96 = .ok (.iconst 1, 1) := by decide +kernel
theorem d_R_tokenSizeAt_97 : decode c_R_tokenSizeAt 97 = .ok (.iadd, 1) := by decide +kernel
theorem d_R_tokenSizeAt_98 : decode c_R_tokenSizeAt 98 = .ok (.istore 5, 2) := by decide +kernel
theorem d_R_tokenSizeAt_100 : decode c_R_tokenSizeAt 100 = .ok (.iload_n 3, 1) := by decide +kernel
theorem d_R_tokenSizeAt_101 : decode c_R_tokenSizeAt 101 = .ok (.invokestatic 61, 3) := by decide +kernel
theorem d_R_tokenSizeAt_104 : decode c_R_tokenSizeAt 104 = .ok (.ifCond .eq 46, 3) := by decide +kernel
theorem d_R_tokenSizeAt_107 : decode c_R_tokenSizeAt 107 = .ok (.aload_n 0, 1) := by decide +kernel
theorem d_R_tokenSizeAt_108 : decode c_R_tokenSizeAt 108 = .ok (.getfield 9, 3) := by decide +kernel
theorem d_R_tokenSizeAt_111 : decode c_R_tokenSizeAt 111 = .ok (.iload 5, 2) := by decide +kernel
theorem d_R_tokenSizeAt_113 : decode c_R_tokenSizeAt 113 = .ok (.iload_n 2, 1) := by decide +kernel
theorem d_R_tokenSizeAt_114 : decode c_R_tokenSizeAt 114 = .ok (.invokestatic 45, 3) := by decide +kernel
theorem d_R_tokenSizeAt_117 : decode c_R_tokenSizeAt 117 = .ok (.invokestatic 61, 3) := by decide +kernel
theorem d_R_tokenSizeAt_120 : decode c_R_tokenSizeAt 120 = .ok (.ifCond .ne 19, 3) := by decide +kernel
theorem d_R_tokenSizeAt_123 : decode c_R_tokenSizeAt 123 = .ok (.aload_n 0, 1) := by decide +kernel
theorem d_R_tokenSizeAt_124 : decode c_R_tokenSizeAt 124 = .ok (.getfield 9, 3) := by decide +kernel
theorem d_R_tokenSizeAt_127 : decode c_R_tokenSizeAt 127 = .ok (.iload 5, 2) := by decide +kernel
theorem d_R_tokenSizeAt_129 : decode c_R_tokenSizeAt 129 = .ok (.iload_n 2, 1) := by decide +kernel
theorem d_R_tokenSizeAt_130 : decode c_R_tokenSizeAt 130 = .ok (.invokestatic 45, 3) := by decide +kernel
theorem d_R_tokenSizeAt_133 : decode c_R_tokenSizeAt 133 = .ok (.invokestatic 65, 3) := by decide +kernel
theorem d_R_tokenSizeAt_136 : decode c_R_tokenSizeAt 136 = .ok (.ifCond .eq 9, 3) := by decide +kernel
theorem d_R_tokenSizeAt_139 : decode c_R_tokenSizeAt 139 = .ok (.iinc 5 1, 3) := by decide +kernel
theorem d_R_tokenSizeAt_142 : decode c_R_tokenSizeAt 142 = .ok (.goto (-35), 3) := by decide +kernel
theorem d_R_tokenSizeAt_145 : decode c_R_tokenSizeAt 145 = .ok (.iload 5, 2) := by decide +kernel
theorem d_R_tokenSizeAt_147 : decode c_R_tokenSizeAt 147 = .ok (.iload_n 1, 1) := by decide +kernel
theorem d_R_tokenSizeAt_148 : decode c_R_tokenSizeAt 148 = .ok (.isub, 1) := by decide +kernel
theorem d_R_tokenSizeAt_149 : decode c_R_tokenSizeAt 149 = .ok (.ireturn, 1) := by decide +kernel
theorem d_R_tokenSizeAt_150 : decode c_R_tokenSizeAt 150 = .ok (.iload_n 3, 1) := by decide +kernel
theorem d_R_tokenSizeAt_151 : decode c_R_tokenSizeAt 151 = .ok (.invokestatic 65, 3) := by decide +kernel
theorem d_R_tokenSizeAt_154 : decode c_R_tokenSizeAt 154 = .ok (.ifCond .ne 17, 3) := by decide +kernel
theorem d_R_tokenSizeAt_157 : decode c_R_tokenSizeAt 157 = .ok (.iload_n 3, 1) := by decide +kernel
theorem d_R_tokenSizeAt_158 : decode c_R_tokenSizeAt 158 = .ok (.bipush 46, 2) := by decide +kernel
theorem d_R_tokenSizeAt_160 : decode c_R_tokenSizeAt 160 = .ok (.if_icmp .ne 131, 3) := by decide +kernel
theorem d_R_tokenSizeAt_163 : decode c_R_tokenSizeAt 163 = .ok (.iload 4, 2) := by decide +kernel
theorem d_R_tokenSizeAt_165 : decode c_R_tokenSizeAt 165 = .ok (.invokestatic 65, 3) := by decide +kernel
theorem d_R_tokenSizeAt_168 : decode c_R_tokenSizeAt 168 = .ok (.ifCond .eq 123, 3) := by decide +kernel
theorem d_R_tokenSizeAt_171 : decode c_R_tokenSizeAt 171 = .ok (.iconst 1, 1) := by decide +kernel
theorem d_R_tokenSizeAt_172 : decode c_R_tokenSizeAt 172 = .ok (.istore 6, 2) := by decide +kernel
theorem d_R_tokenSizeAt_174 : decode c_R_tokenSizeAt 174 = .ok (.iload 6, 2) := by decide +kernel
theorem d_R_tokenSizeAt_176 : decode c_R_tokenSizeAt 176 = .ok (.ifCond .eq 110, 3) := by decide +kernel
theorem d_R_tokenSizeAt_179 : decode c_R_tokenSizeAt 179 = .ok (.aload_n 0, 1) := by decide +kernel
theorem d_R_tokenSizeAt_180 : decode c_R_tokenSizeAt 180 = .ok (.getfield 9, 3) := by decide +kernel
theorem d_R_tokenSizeAt_183 : decode c_R_tokenSizeAt 183 = .ok (.iload 5, 2) := by decide +kernel
theorem d_R_tokenSizeAt_185 : decode c_R_tokenSizeAt 185 = .ok (.iload_n 2, 1) := by decide +kernel
theorem d_R_tokenSizeAt_186 : decode c_R_tokenSizeAt 186 = .ok (.invokestatic 45, 3) := by decide +kernel
theorem d_R_tokenSizeAt_189 : decode c_R_tokenSizeAt 189 = .ok (.istore 7, 2) := by decide +kernel
theorem d_R_tokenSizeAt_191 : decode c_R_tokenSizeAt 191 = .ok (.iload 7, 2) := by decide +kernel
theorem d_R_tokenSizeAt_193 : decode c_R_tokenSizeAt 193 = .ok (.bipush 43, 2) := by decide +kernel
theorem d_R_tokenSizeAt_195 : decode c_R_tokenSizeAt 195 = .ok (.if_icmp .eq 10, 3) := by decide +kernel
theorem d_R_tokenSizeAt_198 : decode c_R_tokenSizeAt 198 = .ok (.iload 7, 2) := by decide +kernel
theorem d_R_tokenSizeAt_200 : decode c_R_tokenSizeAt 200 = .ok (.bipush 45, 2) := by decide +kernel
theorem d_R_tokenSizeAt_202 : decode c_R_tokenSizeAt 202 = .ok (.if_icmp .ne 27, 3) := by decide +kernel
theorem d_R_tokenSizeAt_205 : decode c_R_tokenSizeAt 205 = .ok (.aload_n 0, 1) := by decide +kernel
theorem d_R_tokenSizeAt_206 : decode c_R_tokenSizeAt 206 = .ok (.getfield 9, 3) := by decide +kernel
theorem d_R_tokenSizeAt_209 : decode c_R_tokenSizeAt 209 = .ok (.iload 5, 2) := by decide +kernel
theorem d_R_tokenSizeAt_211 : decode c_R_tokenSizeAt 211 = .ok (.iconst 1, 1) := by decide +kernel
theorem d_R_tokenSizeAt_212 : decode c_R_tokenSizeAt 212 = .ok (.isub, 1) := by decide +kernel
theorem d_R_tokenSizeAt_213 : decode c_R_tokenSizeAt 213 = .ok (.iload_n 2, 1) := by decide +kernel
theorem d_R_tokenSizeAt_214 : decode c_R_tokenSizeAt 214 = .ok (.invokestatic 45, 3) := by decide +kernel
theorem d_R_tokenSizeAt_217 : decode c_R_tokenSizeAt 217 = .ok (.ldc 68, 2) := by decide +kernel
theorem d_R_tokenSizeAt_219 : decode c_R_tokenSizeAt 219 = .ok (.invokestatic 51, 3) := by decide +kernel
theorem d_R_tokenSizeAt_222 : decode c_R_tokenSizeAt 222 = .ok (.ifCond .eq 7, 3) := by decide +kernel
theorem d_R_tokenSizeAt_225 : decode c_R_tokenSizeAt 225 = .ok (.iconst 1, 1) := by decide +kernel
theorem d_R_tokenSizeAt_226 : decode c_R_tokenSizeAt 226 = .ok (.goto 4, 3) := by decide +kernel
theorem d_R_tokenSizeAt_229 : decode c_R_tokenSizeAt 229 = .ok (.iconst 0, 1) := by decide +kernel
theorem d_R_tokenSizeAt_230 : decode c_R_tokenSizeAt 230 = .ok (.istore 8, 2) := by decide +kernel
theorem d_R_tokenSizeAt_232 : decode c_R_tokenSizeAt 232 = .ok (.iload 7, 2) := by decide +kernel
theorem d_R_tokenSizeAt_234 : decode c_R_tokenSizeAt 234 = .ok (.invokestatic 65, 3) := by decide +kernel
theorem d_R_tokenSizeAt_237 : decode c_R_tokenSizeAt 237 = .ok (.ifCond .ne 23, 3) := by decide +kernel
theorem d_R_tokenSizeAt_240 : decode c_R_tokenSizeAt 240 = .ok (.iload 7, 2) := by decide +kernel
theorem d_R_tokenSizeAt_242 : decode c_R_tokenSizeAt 242 = .ok (.invokestatic 61, 3) := by decide +kernel
theorem d_R_tokenSizeAt_245 : decode c_R_tokenSizeAt 245 = .ok (.ifCond .ne 15, 3) := by decide +kernel
theorem d_R_tokenSizeAt_248 : decode c_R_tokenSizeAt 248 = .ok (.iload 7, 2) := by decide +kernel
theorem d_R_tokenSizeAt_250 : decode c_R_tokenSizeAt 250 = .ok (.bipush 46, 2) := by decide +kernel
theorem d_R_tokenSizeAt_252 : decode c_R_tokenSizeAt 252 = .ok (.if_icmp .eq 8, 3) := by decide +kernel
theorem d_R_tokenSizeAt_255 : decode c_R_tokenSizeAt 255 = .ok (.iload 8, 2) := by decide +kernel
theorem d_R_tokenSizeAt_257 : decode c_R_tokenSizeAt 257 = .ok (.ifCond .eq 7, 3) := by decide +kernel
theorem d_R_tokenSizeAt_260 : decode c_R_tokenSizeAt 260 = .ok (.iconst 1, 1) := by decide +kernel
theorem d_R_tokenSizeAt_261 : decode c_R_tokenSizeAt 261 = .ok (.goto 4, 3) := by decide +kernel
theorem d_R_tokenSizeAt_264 : decode c_R_tokenSizeAt 264 = .ok (.iconst 0, 1) := by decide +kernel
theorem d_R_tokenSizeAt_265 : decode c_R_tokenSizeAt 265 = .ok (.istore 6, 2) := by decide +kernel
theorem d_R_tokenSizeAt_267 : decode c_R_tokenSizeAt 267 = .ok (.iload 6, 2) := by decide +kernel
theorem d_R_tokenSizeAt_269 : decode c_R_tokenSizeAt 269 = .ok (.ifCond .eq 10, 3) := by decide +kernel
theorem d_R_tokenSizeAt_272 : decode c_R_tokenSizeAt 272 = .ok (.iload 5, 2) := by decide +kernel
theorem d_R_tokenSizeAt_274 : decode c_R_tokenSizeAt 274 = .ok (.iconst 1, 1) := by decide +kernel
theorem d_R_tokenSizeAt_275 : decode c_R_tokenSizeAt 275 = .ok (.iadd, 1) := by decide +kernel
theorem d_R_tokenSizeAt_276 : decode c_R_tokenSizeAt 276 = .ok (.goto 5, 3) := by decide +kernel
theorem d_R_tokenSizeAt_279 : decode c_R_tokenSizeAt 279 = .ok (.iload 5, 2) := by decide +kernel
theorem d_R_tokenSizeAt_281 : decode c_R_tokenSizeAt 281 = .ok (.istore 5, 2) := by decide +kernel
theorem d_R_tokenSizeAt_283 : decode c_R_tokenSizeAt 283 = .ok (.goto (-109), 3) := by decide +kernel
theorem d_R_tokenSizeAt_286 : decode c_R_tokenSizeAt 286 = .ok (.iload 5, 2) := by decide +kernel
theorem d_R_tokenSizeAt_288 : decode c_R_tokenSizeAt 288 = .ok (.iload_n 1, 1) := by decide +kernel
theorem d_R_tokenSizeAt_289 : decode c_R_tokenSizeAt 289 = .ok (.isub, 1) := by decide +kernel
theorem d_R_tokenSizeAt_290 : decode c_R_tokenSizeAt 290 = .ok (.ireturn, 1) := by decide +kernel
theorem d_R_tokenSizeAt_291 : decode c_R_tokenSizeAt 291 = .ok (.aload_n 0, 1) := by decide +kernel
theorem d_R_tokenSizeAt_292 : decode c_R_tokenSizeAt 292 = .ok (.iload_n 1, 1) := by decide +kernel
theorem d_R_tokenSizeAt_293 : decode c_R_tokenSizeAt 293 = .ok (.iload_n 2, 1) := by decide +kernel
theorem d_R_tokenSizeAt_294 : decode c_R_tokenSizeAt 294 = .ok (.invokevirtual 70, 3) := by decide +kernel
theorem d_R_tokenSizeAt_297 : decode c_R_tokenSizeAt 297 = .ok (.ireturn, 1) := by decide +kernel
theorem d_R_cutAll_0 : decode c_R_cutAll 0 = .ok (.aload_n 0, 1) := by decide +kernel
theorem d_R_cutAll_1 : decode c_R_cutAll 1 = .ok (.iconst 0, 1) := by decide +kernel
theorem d_R_cutAll_2 : decode c_R_cutAll 2 = .ok (.putfield 73, 3) := by decide +kernel
theorem d_R_cutAll_5 : decode c_R_cutAll 5 = .ok (.iconst 0, 1) := by decide +kernel
theorem d_R_cutAll_6 : decode c_R_cutAll 6 = .ok (.istore_n 1, 1) := by decide +kernel
theorem d_R_cutAll_7 : decode c_R_cutAll 7 = .ok (.iload_n 1, 1) := by decide +kernel
theorem d_R_cutAll_8 : decode c_R_cutAll 8 = .ok (.aload_n 0, 1) := by decide +kernel
theorem d_R_cutAll_9 : decode c_R_cutAll 9 = .ok (.getfield 31, 3) := by decide +kernel
theorem d_R_cutAll_12 : decode c_R_cutAll 12 = .ok (.if_icmp .ge 78, 3) := by decide +kernel
theorem d_R_cutAll_15 : decode c_R_cutAll 15 = .ok (.aload_n 0, 1) := by decide +kernel
theorem d_R_cutAll_16 : decode c_R_cutAll 16 = .ok (.getfield 9, 3) := by decide +kernel
theorem d_R_cutAll_19 : decode c_R_cutAll 19 = .ok (.iload_n 1, 1) := by decide +kernel
theorem d_R_cutAll_20 : decode c_R_cutAll 20 = .ok (.baload, 1) := by decide +kernel
theorem d_R_cutAll_21 : decode c_R_cutAll 21 = .ok (.sipush 255, 3) := by decide +kernel
theorem d_R_cutAll_24 : decode c_R_cutAll 24 = .ok (.iand, 1) := by decide +kernel
theorem d_R_cutAll_25 : decode c_R_cutAll 25 = .ok (.invokestatic 76, 3) := by decide +kernel
theorem d_R_cutAll_28 : decode c_R_cutAll 28 = .ok (.ifCond .eq 9, 3) := by decide +kernel
theorem d_R_cutAll_31 : decode c_R_cutAll 31 = .ok (.iinc 1 1, 3) := by decide +kernel
theorem d_R_cutAll_34 : decode c_R_cutAll 34 = .ok (.goto (-27), 3) := by decide +kernel
theorem d_R_cutAll_37 : decode c_R_cutAll 37 = .ok (.aload_n 0, 1) := by decide +kernel
theorem d_R_cutAll_38 : decode c_R_cutAll 38 = .ok (.getfield 13, 3) := by decide +kernel
theorem d_R_cutAll_41 : decode c_R_cutAll 41 = .ok (.aload_n 0, 1) := by decide +kernel
theorem d_R_cutAll_42 : decode c_R_cutAll 42 = .ok (.getfield 73, 3) := by decide +kernel
theorem d_R_cutAll_45 : decode c_R_cutAll 45 = .ok (.iload_n 1, 1) := by decide +kernel
theorem d_R_cutAll_46 : decode c_R_cutAll 46 = .ok (.iastore, 1) := by decide +kernel
theorem d_R_cutAll_47 : decode c_R_cutAll 47 = .ok (.aload_n 0, 1) := by decide +kernel
theorem d_R_cutAll_48 : decode c_R_cutAll 48 = .ok (.getfield 17, 3) := by decide +kernel
theorem d_R_cutAll_51 : decode c_R_cutAll 51 = .ok (.aload_n 0, 1) := by decide +kernel
theorem d_R_cutAll_52 : decode c_R_cutAll 52 = .ok (.getfield 73, 3) := by decide +kernel
theorem d_R_cutAll_55 : decode c_R_cutAll 55 = .ok (.aload_n 0, 1) := by decide +kernel
theorem d_R_cutAll_56 : decode c_R_cutAll 56 = .ok (.iload_n 1, 1) := by decide +kernel
theorem d_R_cutAll_57 : decode c_R_cutAll 57 = .ok (.aload_n 0, 1) := by decide +kernel
theorem d_R_cutAll_58 : decode c_R_cutAll 58 = .ok (.getfield 31, 3) := by decide +kernel
theorem d_R_cutAll_61 : decode c_R_cutAll 61 = .ok (.invokevirtual 79, 3) := by decide +kernel
theorem d_R_cutAll_64 : decode c_R_cutAll 64 = .ok (.iastore, 1) := by decide +kernel
theorem d_R_cutAll_65 : decode c_R_cutAll 65 = .ok (.iload_n 1, 1) := by decide +kernel
theorem d_R_cutAll_66 : decode c_R_cutAll 66 = .ok (.aload_n 0, 1) := by decide +kernel
theorem d_R_cutAll_67 : decode c_R_cutAll 67 = .ok (.getfield 17, 3) := by decide +kernel
theorem d_R_cutAll_70 : decode c_R_cutAll 70 = .ok (.aload_n 0, 1) := by decide +kernel
theorem d_R_cutAll_71 : decode c_R_cutAll 71 = .ok (.getfield 73, 3) := by decide +kernel
theorem d_R_cutAll_74 : decode c_R_cutAll 74 = .ok (.iaload, 1) := by decide +kernel
theorem d_R_cutAll_75 : decode c_R_cutAll 75 = .ok (.iadd, 1) := by decide +kernel
theorem d_R_cutAll_76 : decode c_R_cutAll 76 = .ok (.istore_n 1, 1) := by decide +kernel
theorem d_R_cutAll_77 : decode c_R_cutAll 77 = .ok (.aload_n 0, 1) := by decide +kernel
theorem d_R_cutAll_78 : decode c_R_cutAll 78 = .ok (.dup, 1) := by decide +kernel
theorem d_R_cutAll_79 : decode c_R_cutAll 79 = .ok (.getfield 73, 3) := by decide +kernel
theorem d_R_cutAll_82 : decode c_R_cutAll 82 = .ok (.iconst 1, 1) := by decide +kernel
theorem d_R_cutAll_83 : decode c_R_cutAll 83 = .ok (.iadd, 1) := by decide +kernel
theorem d_R_cutAll_84 : decode c_R_cutAll 84 = .ok (.putfield 73, 3) := by decide +kernel
theorem d_R_cutAll_87 : decode c_R_cutAll 87 = .ok (.goto (-80), 3) := by decide +kernel
theorem d_R_cutAll_90 : decode c_R_cutAll 90 = .ok (.return_, 1) := by decide +kernel
theorem d_R_byteOf_0 : decode c_R_byteOf 0 = .ok (.aload_n 0, 1) := by decide +kernel
theorem d_R_byteOf_1 : decode c_R_byteOf 1 = .ok (.getfield 9, 3) := by decide +kernel
theorem d_R_byteOf_4 : decode c_R_byteOf 4 = .ok (.aload_n 0, 1) := by decide +kernel
theorem d_R_byteOf_5 : decode c_R_byteOf 5 = .ok (.getfield 13, 3) := by decide +kernel
theorem d_R_byteOf_8 : decode c_R_byteOf 8 = .ok (.iload_n 1, 1) := by decide +kernel
theorem d_R_byteOf_9 : decode c_R_byteOf 9 = .ok (.iaload, 1) := by decide +kernel
theorem d_R_byteOf_10 : decode c_R_byteOf 10 = .ok (.iload_n 2, 1) := by decide +kernel
theorem d_R_byteOf_11 : decode c_R_byteOf 11 = .ok (.iadd, 1) := by decide +kernel
theorem d_R_byteOf_12 : decode c_R_byteOf 12 = .ok (.baload, 1) := by decide +kernel
theorem d_R_byteOf_13 : decode c_R_byteOf 13 = .ok (.sipush 255, 3) := by decide +kernel
theorem d_R_byteOf_16 : decode c_R_byteOf 16 = .ok (.iand, 1) := by decide +kernel
theorem d_R_byteOf_17 : decode c_R_byteOf 17 = .ok (.ireturn, 1) := by decide +kernel
theorem d_R_is_0 : decode c_R_is 0 = .ok (.iload_n 1, 1) := by decide +kernel
theorem d_R_is_1 : decode c_R_is 1 = .ok (.ifCond .lt 20, 3) := by decide +kernel
theorem d_R_is_4 : decode c_R_is 4 = .ok (.aload_n 0, 1) := by decide +kernel
theorem d_R_is_5 : decode c_R_is 5 = .ok (.getfield 17, 3) := by decide +kernel
theorem d_R_is_8 : decode c_R_is 8 = .ok (.iload_n 1, 1) := by decide +kernel
theorem d_R_is_9 : decode c_R_is 9 = .ok (.iaload, 1) := by decide +kernel
theorem d_R_is_10 : decode c_R_is 10 = .ok (.aload_n 2, 1) := by decide +kernel
theorem d_R_is_11 : decode c_R_is 11 = .ok (.invokevirtual 35, 3) := by decide +kernel
theorem d_R_is_14 : decode c_R_is 14 = .ok (.if_icmp .ne 7, 3) := by decide +kernel
theorem d_R_is_17 : decode c_R_is 17 = .ok (.iconst 1, 1) := by decide +kernel
theorem d_R_is_18 : decode c_R_is 18 = .ok (.goto 4, 3) := by decide +kernel
theorem d_R_is_21 : decode c_R_is 21 = .ok (.iconst 0, 1) := by decide +kernel
theorem d_R_is_22 : decode c_R_is 22 = .ok (.istore_n 3, 1) := by decide +kernel
theorem d_R_is_23 : decode c_R_is 23 = .ok (.iconst 0, 1) := by decide +kernel
theorem d_R_is_24 : decode c_R_is 24 = .ok (.istore 4, 2) := by decide +kernel
theorem d_R_is_26 : decode c_R_is 26 = .ok (.iload_n 3, 1) := by decide +kernel
theorem d_R_is_27 : decode c_R_is 27 = .ok (.ifCond .eq 40, 3) := by decide +kernel
theorem d_R_is_30 : decode c_R_is 30 = .ok (.iload 4, 2) := by decide +kernel
theorem d_R_is_32 : decode c_R_is 32 = .ok (.aload_n 2, 1) := by decide +kernel
theorem d_R_is_33 : decode c_R_is 33 = .ok (.invokevirtual 35, 3) := by decide +kernel
theorem d_R_is_36 : decode c_R_is 36 = .ok (.if_icmp .ge 31, 3) := by decide +kernel
theorem d_R_is_39 : decode c_R_is 39 = .ok (.aload_n 0, 1) := by decide +kernel
theorem d_R_is_40 : decode c_R_is 40 = .ok (.iload_n 1, 1) := by decide +kernel
theorem d_R_is_41 : decode c_R_is 41 = .ok (.iload 4, 2) := by decide +kernel
theorem d_R_is_43 : decode c_R_is 43 = .ok (.invokevirtual 82, 3) := by decide +kernel
theorem d_R_is_46 : decode c_R_is 46 = .ok (.aload_n 2, 1) := by decide +kernel
theorem d_R_is_47 : decode c_R_is 47 = .ok (.iload 4, 2) := by decide +kernel
theorem d_R_is_49 : decode c_R_is 49 = .ok (.invokevirtual 41, 3) := by decide +kernel
theorem d_R_is_52 : decode c_R_is 52 = .ok (.if_icmp .ne 7, 3) := by decide +kernel
theorem d_R_is_55 : decode c_R_is 55 = .ok (.iconst 1, 1) := by decide +kernel
theorem d_R_is_56 : decode c_R_is 56 = .ok (.goto 4, 3) := by decide +kernel
theorem d_R_is_59 : decode c_R_is 59 = .ok (.iconst 0, 1) := by decide +kernel
theorem d_R_is_60 : decode c_R_is 60 = .ok (.istore_n 3, 1) := by decide +kernel
theorem d_R_is_61 : decode c_R_is 61 = .ok (.iinc 4 1, 3) := by decide +kernel
theorem d_R_is_64 : decode c_R_is 64 = .ok (.goto (-38), 3) := by decide +kernel
theorem d_R_is_67 : decode c_R_is 67 = .ok (.iload_n 3, 1) := by decide +kernel
theorem d_R_is_68 : decode c_R_is 68 = .ok (.ireturn, 1) := by decide +kernel
theorem d_R_kindOf_0 : decode c_R_kindOf 0 = .ok (.aload_n 0, 1) := by decide +kernel
theorem d_R_kindOf_1 : decode c_R_kindOf 1 = .ok (.iload_n 1, 1) := by decide +kernel
theorem d_R_kindOf_2 : decode c_R_kindOf 2 = .ok (.iconst 0, 1) := by decide +kernel
theorem d_R_kindOf_3 : decode c_R_kindOf 3 = .ok (.invokevirtual 82, 3) := by decide +kernel
theorem d_R_kindOf_6 : decode c_R_kindOf 6 = .ok (.istore_n 2, 1) := by decide +kernel
theorem d_R_kindOf_7 : decode c_R_kindOf 7 = .ok (.aload_n 0, 1) := by decide +kernel
theorem d_R_kindOf_8 : decode c_R_kindOf 8 = .ok (.getfield 17, 3) := by decide +kernel
theorem d_R_kindOf_11 : decode c_R_kindOf 11 = .ok (.iload_n 1, 1) := by decide +kernel
theorem d_R_kindOf_12 : decode c_R_kindOf 12 = .ok (.iaload, 1) := by decide +kernel
theorem d_R_kindOf_13 : decode c_R_kindOf 13 = .ok (.iconst 1, 1) := by decide +kernel
theorem d_R_kindOf_14 : decode c_R_kindOf 14 = .ok (.if_icmp .le 12, 3) := by decide +kernel
theorem d_R_kindOf_17 : decode c_R_kindOf 17 = .ok (.aload_n 0, 1) := by decide +kernel
theorem d_R_kindOf_18 : decode c_R_kindOf 18 = .ok (.iload_n 1, 1) := by decide +kernel
theorem d_R_kindOf_19 : decode c_R_kindOf 19 = .ok (.iconst 1, 1) := by decide +kernel
theorem d_R_kindOf_20 : decode c_R_kindOf 20 = .ok (.invokevirtual 82, 3) := by decide +kernel
theorem d_R_kindOf_23 : decode c_R_kindOf 23 = .ok (.goto 4, 3) := by decide +kernel
theorem d_R_kindOf_26 : decode c_R_kindOf 26 = .ok (.iconst (-1), 1) := by decide +kernel
theorem d_R_kindOf_27 : decode c_R_kindOf 27 = .ok (.istore_n 3, 1) := by decide +kernel
theorem d_R_kindOf_28 : decode c_R_kindOf 28 = .ok (.iload_n 2, 1) := by decide +kernel
theorem d_R_kindOf_29 : decode c_R_kindOf 29 = .ok (.bipush 76, 2) := by decide +kernel
theorem d_R_kindOf_31 : decode c_R_kindOf 31 = .ok (.if_icmp .ne 19, 3) := by decide +kernel
theorem d_R_kindOf_34 : decode c_R_kindOf 34 = .ok (.iload_n 3, 1) := by decide +kernel
theorem d_R_kindOf_35 : decode c_R_kindOf 35 = .ok (.bipush 34, 2) := by decide +kernel
theorem d_R_kindOf_37 : decode c_R_kindOf 37 = .ok (.if_icmp .eq 9, 3) := by decide +kernel
theorem d_R_kindOf_40 : decode c_R_kindOf 40 = .ok (.iload_n 3, 1) := by decide +kernel
theorem d_R_kindOf_41 : decode c_R_kindOf 41 = .ok (.bipush 39, 2) := by decide +kernel
theorem d_R_kindOf_43 : decode c_R_kindOf 43 = .ok (.if_icmp .ne 7, 3) := by decide +kernel
theorem d_R_kindOf_46 : decode c_R_kindOf 46 = .ok (.iload_n 3, 1) := by decide +kernel
theorem d_R_kindOf_47 : decode c_R_kindOf 47 = .ok (.goto 12, 3) := by decide +kernel
theorem d_R_kindOf_50 : decode c_R_kindOf 50 = .ok (.iload_n 3, 1) := by decide +kernel
theorem d_R_kindOf_51 : decode c_R_kindOf 51 = .ok (.ifCond .lt 7, 3) := by decide +kernel
theorem d_R_kindOf_54 : decode c_R_kindOf 54 = .ok (.iload_n 2, 1) := by decide +kernel
theorem d_R_kindOf_55 : decode c_R_kindOf 55 = .ok (.goto 4, 3) := by decide +kernel
theorem d_R_kindOf_58 : decode c_R_kindOf 58 = .ok (.iconst (-1), 1) := by decide +kernel
theorem d_R_kindOf_59 : decode c_R_kindOf 59 = .ok (.istore 4, 2) := by decide +kernel
theorem d_R_kindOf_61 : decode c_R_kindOf 61 = .ok (.iload 4, 2) := by decide +kernel
theorem d_R_kindOf_63 : decode c_R_kindOf 63 = .ok (.bipush 34, 2) := by decide +kernel
theorem d_R_kindOf_65 : decode c_R_kindOf 65 = .ok (.if_icmp .eq 10, 3) := by decide +kernel
theorem d_R_kindOf_68 : decode c_R_kindOf 68 = .ok (.iload 4, 2) := by decide +kernel
theorem d_R_kindOf_70 : decode c_R_kindOf 70 = .ok (.bipush 39, 2) := by decide +kernel
theorem d_R_kindOf_72 : decode c_R_kindOf 72 = .ok (.if_icmp .ne 16, 3) := by decide +kernel
theorem d_R_kindOf_75 : decode c_R_kindOf 75 = .ok (.iload 4, 2) := by decide +kernel
theorem d_R_kindOf_77 : decode c_R_kindOf 77 = .ok (.bipush 34, 2) := by decide +kernel
theorem d_R_kindOf_79 : decode c_R_kindOf 79 = .ok (.if_icmp .ne 7, 3) := by decide +kernel
theorem d_R_kindOf_82 : decode c_R_kindOf 82 = .ok (.iconst 3, 1) := by decide +kernel
theorem d_R_kindOf_83 : decode c_R_kindOf 83 = .ok (.goto 4, 3) := by decide +kernel
theorem d_R_kindOf_86 : decode c_R_kindOf 86 = .ok (.iconst 4, 1) := by decide +kernel
theorem d_R_kindOf_87 : decode c_R_kindOf 87 = .ok (.ireturn, 1) := by decide +kernel
theorem d_R_kindOf_88 : decode c_R_kindOf 88 = .ok (.iload_n 2, 1) := by decide +kernel
theorem d_R_kindOf_89 : decode c_R_kindOf 89 = .ok (.invokestatic 61, 3) := by decide +kernel
theorem d_R_kindOf_92 : decode c_R_kindOf 92 = .ok (.ifCond .eq 5, 3) := by decide +kernel
theorem d_R_kindOf_95 : decode c_R_kindOf 95 = .ok (.iconst 1, 1) := by decide +kernel
theorem d_R_kindOf_96 : decode c_R_kindOf 96 = .ok (.ireturn, 1) := by decide +kernel
theorem d_R_kindOf_97 : decode c_R_kindOf 97 = .ok (.iload_n 2, 1) := by decide +kernel
theorem d_R_kindOf_98 : decode c_R_kindOf 98 = .ok (.invokestatic 65, 3) := by decide +kernel
theorem d_R_kindOf_101 : decode c_R_kindOf 101 = .ok (.ifCond .ne 16, 3) := by decide +kernel
theorem d_R_kindOf_104 : decode c_R_kindOf 104 = .ok (.iload_n 2, 1) := by decide +kernel
theorem d_R_kindOf_105 : decode c_R_kindOf 105 = .ok (.bipush 46, 2) := by decide +kernel
theorem d_R_kindOf_107 : decode c_R_kindOf 107 = .ok (.if_icmp .ne 14, 3) := by decide +kernel
theorem d_R_kindOf_110 : decode c_R_kindOf 110 = .ok (.iload_n 3, 1) := by decide +kernel
theorem d_R_kindOf_111 : decode c_R_kindOf 111 = .ok (.invokestatic 65, 3) := by decide +kernel
theorem d_R_kindOf_114 : decode c_R_kindOf 114 = .ok (.ifCond .eq 7, 3) := by decide +kernel
theorem d_R_kindOf_117 : decode c_R_kindOf 117 = .ok (.iconst 2, 1) := by decide +kernel
theorem d_R_kindOf_118 : decode c_R_kindOf 118 = .ok (.goto 22, 3) := by decide +kernel
theorem d_R_kindOf_121 : decode c_R_kindOf 121 = .ok (.iload_n 3, 1) := by decide +kernel
theorem d_R_kindOf_122 : decode c_R_kindOf 122 = .ok (.ifCond .ge 12, 3) := by decide +kernel
theorem d_R_kindOf_125 : decode c_R_kindOf 125 = .ok (.iload_n 2, 1) := by decide +kernel
theorem d_R_kindOf_126 : decode c_R_kindOf 126 = .ok (.ldc 85, 2) := by decide +kernel
theorem d_R_kindOf_128 : decode c_R_kindOf 128 = .ok (.invokestatic 51, 3) := by decide +kernel
theorem d_R_kindOf_131 : decode c_R_kindOf 131 = .ok (.ifCond .eq 7, 3) := by decide +kernel
theorem d_R_kindOf_134 : decode c_R_kindOf 134 = .ok (.iconst 5, 1) := by decide +kernel
theorem d_R_kindOf_135 : decode c_R_kindOf 135 = .ok (.goto 5, 3) := by decide +kernel
theorem d_R_kindOf_138 : decode c_R_kindOf 138 = .ok (.bipush 6, 2) := by decide +kernel
theorem d_R_kindOf_140 : decode c_R_kindOf 140 = .ok (.ireturn, 1) := by decide +kernel
theorem d_R_goOn_0 : decode c_R_goOn 0 = .ok (.aload_n 0, 1) := by decide +kernel
theorem d_R_goOn_1 : decode c_R_goOn 1 = .ok (.aload_n 0, 1) := by decide +kernel
theorem d_R_goOn_2 : decode c_R_goOn 2 = .ok (.getfield 102, 3) := by decide +kernel
theorem d_R_goOn_5 : decode c_R_goOn 5 = .ok (.ifCond .lt 25, 3) := by decide +kernel
theorem d_R_goOn_8 : decode c_R_goOn 8 = .ok (.aload_n 0, 1) := by decide +kernel
theorem d_R_goOn_9 : decode c_R_goOn 9 = .ok (.getfield 102, 3) := by decide +kernel
theorem d_R_goOn_12 : decode c_R_goOn 12 = .ok (.iconst 1, 1) := by decide +kernel
theorem d_R_goOn_13 : decode c_R_goOn 13 = .ok (.iadd, 1) := by decide +kernel
theorem d_R_goOn_14 : decode c_R_goOn 14 = .ok (.aload_n 0, 1) := by decide +kernel
theorem d_R_goOn_15 : decode c_R_goOn 15 = .ok (.getfield 73, 3) := by decide +kernel
theorem d_R_goOn_18 : decode c_R_goOn 18 = .ok (.if_icmp .ge 12, 3) := by decide +kernel
theorem d_R_goOn_21 : decode c_R_goOn 21 = .ok (.aload_n 0, 1) := by decide +kernel
theorem d_R_goOn_22 : decode c_R_goOn 22 = .ok (.getfield 102, 3) := by decide +kernel
theorem d_R_goOn_25 : decode c_R_goOn 25 = .ok (.iconst 1, 1) := by decide +kernel
theorem d_R_goOn_26 : decode c_R_goOn 26 = .ok (.iadd, 1) := by decide +kernel
theorem d_R_goOn_27 : decode c_R_goOn 27 = .ok (.goto 4, 3) := by decide +kernel
theorem d_R_goOn_30 : decode c_R_goOn 30 = .ok (.iconst (-1), 1) := by decide +kernel
theorem d_R_goOn_31 : decode c_R_goOn 31 = .ok (.putfield 102, 3) := by decide +kernel
theorem d_R_goOn_34 : decode c_R_goOn 34 = .ok (.return_, 1) := by decide +kernel
theorem d_R_operatorHere_0 : decode c_R_operatorHere 0 = .ok (.iconst (-1), 1) := by decide +kernel
theorem d_R_operatorHere_1 : decode c_R_operatorHere 1 = .ok (.istore_n 1, 1) := by decide +kernel
theorem d_R_operatorHere_2 : decode c_R_operatorHere 2 = .ok (.iconst 0, 1) := by decide +kernel
theorem d_R_operatorHere_3 : decode c_R_operatorHere 3 = .ok (.istore_n 2, 1) := by decide +kernel
theorem d_R_operatorHere_4 : decode c_R_operatorHere 4 = .ok (.iload_n 2, 1) := by decide +kernel
theorem d_R_operatorHere_5 : decode c_R_operatorHere 5 = .ok (.bipush 18, 2) := by decide +kernel
theorem d_R_operatorHere_7 : decode c_R_operatorHere 7 = .ok (.if_icmp .ge 30, 3) := by decide +kernel
theorem d_R_operatorHere_10 : decode c_R_operatorHere 10 = .ok (.aload_n 0, 1) := by decide +kernel
theorem d_R_operatorHere_11 : decode c_R_operatorHere 11 = .ok (.aload_n 0, 1) := by decide +kernel
theorem d_R_operatorHere_12 : decode c_R_operatorHere 12 = .ok (.getfield 102, 3) := by decide +kernel
theorem d_R_operatorHere_15 : decode c_R_operatorHere 15 = .ok (.iload_n 2, 1) := by decide +kernel
theorem d_R_operatorHere_16 : decode c_R_operatorHere 16 = .ok (.invokestatic 180, 3) := by decide +kernel
theorem d_R_operatorHere_19 : decode c_R_operatorHere 19 = .ok (.invokevirtual 129, 3) := by decide +kernel
theorem d_R_operatorHere_22 : decode c_R_operatorHere 22 = .ok (.ifCond .eq 7, 3) := by decide +kernel
theorem d_R_operatorHere_25 : decode c_R_operatorHere 25 = .ok (.iload_n 2, 1) := by decide +kernel
theorem d_R_operatorHere_26 : decode c_R_operatorHere 26 = .ok (.goto 4, 3) := by decide +kernel
theorem d_R_operatorHere_29 : decode c_R_operatorHere 29 = .ok (.iload_n 1, 1) := by decide +kernel
theorem d_R_operatorHere_30 : decode c_R_operatorHere 30 = .ok (.istore_n 1, 1) := by decide +kernel
theorem d_R_operatorHere_31 : decode c_R_operatorHere 31 = .ok (.iinc 2 1, 3) := by decide +kernel
theorem d_R_operatorHere_34 : decode c_R_operatorHere 34 = .ok (.goto (-30), 3) := by decide +kernel
theorem d_R_operatorHere_37 : decode c_R_operatorHere 37 = .ok (.iload_n 1, 1) := by decide +kernel
theorem d_R_operatorHere_38 : decode c_R_operatorHere 38 = .ok (.ireturn, 1) := by decide +kernel
theorem d_R_isNeeded_0 : decode c_R_isNeeded 0 = .ok (.iload_n 2, 1) := by decide +kernel
theorem d_R_isNeeded_1 : decode c_R_isNeeded 1 = .ok (.istore_n 3, 1) := by decide +kernel
theorem d_R_isNeeded_2 : decode c_R_isNeeded 2 = .ok (.iload_n 1, 1) := by decide +kernel
theorem d_R_isNeeded_3 : decode c_R_isNeeded 3 = .ok (.istore 4, 2) := by decide +kernel
theorem d_R_isNeeded_5 : decode c_R_isNeeded 5 = .ok (.iload 4, 2) := by decide +kernel
theorem d_R_isNeeded_7 : decode c_R_isNeeded 7 = .ok (.aload_n 0, 1) := by decide +kernel
theorem d_R_isNeeded_8 : decode c_R_isNeeded 8 = .ok (.getfield 114, 3) := by decide +kernel
theorem d_R_isNeeded_11 : decode c_R_isNeeded 11 = .ok (.if_icmp .ge 64, 3) := by decide +kernel
theorem d_R_isNeeded_14 : decode c_R_isNeeded 14 = .ok (.iload_n 3, 1) := by decide +kernel
theorem d_R_isNeeded_15 : decode c_R_isNeeded 15 = .ok (.ifCond .eq 52, 3) := by decide +kernel
theorem d_R_isNeeded_18 : decode c_R_isNeeded 18 = .ok (.aload_n 0, 1) := by decide +kernel
theorem d_R_isNeeded_19 : decode c_R_isNeeded 19 = .ok (.getfield 20, 3) := by decide +kernel
theorem d_R_isNeeded_22 : decode c_R_isNeeded 22 = .ok (.iload 4, 2) := by decide +kernel
theorem d_R_isNeeded_24 : decode c_R_isNeeded 24 = .ok (.iaload, 1) := by decide +kernel
theorem d_R_isNeeded_25 : decode c_R_isNeeded 25 = .ok (.ifCond .ne 15, 3) := by decide +kernel
theorem d_R_isNeeded_28 : decode c_R_isNeeded 28 = .ok (.aload_n 0, 1) := by decide +kernel
theorem d_R_isNeeded_29 : decode c_R_isNeeded 29 = .ok (.getfield 23, 3) := by decide +kernel
theorem d_R_isNeeded_32 : decode c_R_isNeeded 32 = .ok (.iload 4, 2) := by decide +kernel
theorem d_R_isNeeded_34 : decode c_R_isNeeded 34 = .ok (.laload, 1) := by decide +kernel
theorem d_R_isNeeded_35 : decode c_R_isNeeded 35 = .ok (.lconst 0, 1) := by decide +kernel
theorem d_R_isNeeded_36 : decode c_R_isNeeded 36 = .ok (.lcmp, 1) := by decide +kernel
theorem d_R_isNeeded_37 : decode c_R_isNeeded 37 = .ok (.ifCond .ne 30, 3) := by decide +kernel
theorem d_R_isNeeded_40 : decode c_R_isNeeded 40 = .ok (.aload_n 0, 1) := by decide +kernel
theorem d_R_isNeeded_41 : decode c_R_isNeeded 41 = .ok (.getfield 20, 3) := by decide +kernel
theorem d_R_isNeeded_44 : decode c_R_isNeeded 44 = .ok (.iload 4, 2) := by decide +kernel
theorem d_R_isNeeded_46 : decode c_R_isNeeded 46 = .ok (.iaload, 1) := by decide +kernel
theorem d_R_isNeeded_47 : decode c_R_isNeeded 47 = .ok (.iconst 1, 1) := by decide +kernel
theorem d_R_isNeeded_48 : decode c_R_isNeeded 48 = .ok (.if_icmp .ne 15, 3) := by decide +kernel
theorem d_R_isNeeded_51 : decode c_R_isNeeded 51 = .ok (.aload_n 0, 1) := by decide +kernel
theorem d_R_isNeeded_52 : decode c_R_isNeeded 52 = .ok (.getfield 23, 3) := by decide +kernel
theorem d_R_isNeeded_55 : decode c_R_isNeeded 55 = .ok (.iload 4, 2) := by decide +kernel
theorem d_R_isNeeded_57 : decode c_R_isNeeded 57 = .ok (.laload, 1) := by decide +kernel
theorem d_R_isNeeded_58 : decode c_R_isNeeded 58 = .ok (.lconst 0, 1) := by decide +kernel
theorem d_R_isNeeded_59 : decode c_R_isNeeded 59 = .ok (.lcmp, 1) := by decide +kernel
theorem d_R_isNeeded_60 : decode c_R_isNeeded 60 = .ok (.ifCond .eq 7, 3) := by decide +kernel
theorem d_R_isNeeded_63 : decode c_R_isNeeded 63 = .ok (.iconst 1, 1) := by decide +kernel
theorem d_R_isNeeded_64 : decode c_R_isNeeded 64 = .ok (.goto 4, 3) := by decide +kernel
theorem d_R_isNeeded_67 : decode c_R_isNeeded 67 = .ok (.iconst 0, 1) := by decide +kernel
theorem d_R_isNeeded_68 : decode c_R_isNeeded 68 = .ok (.istore_n 3, 1) := by decide +kernel
theorem d_R_isNeeded_69 : decode c_R_isNeeded 69 = .ok (.iinc 4 1, 3) := by decide +kernel
theorem d_R_isNeeded_72 : decode c_R_isNeeded 72 = .ok (.goto (-67), 3) := by decide +kernel
theorem d_R_isNeeded_75 : decode c_R_isNeeded 75 = .ok (.iload_n 3, 1) := by decide +kernel
theorem d_R_isNeeded_76 : decode c_R_isNeeded 76 = .ok (.ireturn, 1) := by decide +kernel
theorem d_R_quotient_0 : decode c_R_quotient 0 = .ok (.iload 4, 2) := by decide +kernel
theorem d_R_quotient_2 : decode c_R_quotient 2 = .ok (.ifCond .ne 7, 3) := by decide +kernel
theorem d_R_quotient_5 : decode c_R_quotient 5 = .ok (.lload_n 0, 1) := by decide +kernel
theorem d_R_quotient_6 : decode c_R_quotient 6 = .ok (.lload_n 2, 1) := by decide +kernel
theorem d_R_quotient_7 : decode c_R_quotient 7 = .ok (.ldiv, 1) := by decide +kernel
theorem d_R_quotient_8 : decode c_R_quotient 8 = .ok (.lreturn, 1) := by decide +kernel
theorem d_R_quotient_9 : decode c_R_quotient 9 = .ok (.lconst 0, 1) := by decide +kernel
theorem d_R_quotient_10 : decode c_R_quotient 10 = .ok (.lstore 5, 2) := by decide +kernel
theorem d_R_quotient_12 : decode c_R_quotient 12 = .ok (.lconst 0, 1) := by decide +kernel
theorem d_R_quotient_13 : decode c_R_quotient 13 = .ok (.lstore 7, 2) := by decide +kernel
theorem d_R_quotient_15 : decode c_R_quotient 15 = .ok (.bipush 63, 2) := by decide +kernel
theorem d_R_quotient_17 : decode c_R_quotient 17 = .ok (.istore 9, 2) := by decide +kernel
theorem d_R_quotient_19 : decode c_R_quotient 19 = .ok (.iload 9, 2) := by decide +kernel
theorem d_R_quotient_21 : decode c_R_quotient 21 = .ok (.ifCond .lt 71, 3) := by decide +kernel
theorem d_R_quotient_24 : decode c_R_quotient 24 = .ok (.lload 7, 2) := by decide +kernel
theorem d_R_quotient_26 : decode c_R_quotient 26 = .ok (.lconst 0, 1) := by decide +kernel
theorem d_R_quotient_27 : decode c_R_quotient 27 = .ok (.lcmp, 1) := by decide +kernel
theorem d_R_quotient_28 : decode c_R_quotient 28 = .ok (.ifCond .ge 7, 3) := by decide +kernel
theorem d_R_quotient_31 : decode c_R_quotient 31 = .ok (.iconst 1, 1) := by decide +kernel
theorem d_R_quotient_32 : decode c_R_quotient 32 = .ok (.goto 4, 3) := by decide +kernel
theorem d_R_quotient_35 : decode c_R_quotient 35 = .ok (.iconst 0, 1) := by decide +kernel
theorem d_R_quotient_36 : decode c_R_quotient 36 = .ok (.istore 10, 2) := by decide +kernel
theorem d_R_quotient_38 : decode c_R_quotient 38 = .ok (.lload 7, 2) := by decide +kernel
theorem d_R_quotient_40 : decode c_R_quotient 40 = .ok (.iconst 1, 1) := by decide +kernel
theorem d_R_quotient_41 : decode c_R_quotient 41 = .ok (.lshl, 1) := by decide +kernel
theorem d_R_quotient_42 : decode c_R_quotient 42 = .ok (.lload_n 0, 1) := by decide +kernel
theorem d_R_quotient_43 : decode c_R_quotient 43 = .ok (.iload 9, 2) := by decide +kernel
theorem d_R_quotient_45 : decode c_R_quotient 45 = .ok (.lushr, 1) := by decide +kernel
theorem d_R_quotient_46 : decode c_R_quotient 46 = .ok (.lconst 1, 1) := by decide +kernel
theorem d_R_quotient_47 : decode c_R_quotient 47 = .ok (.land, 1) := by decide +kernel
theorem d_R_quotient_48 : decode c_R_quotient 48 = .ok (.lor, 1) := by decide +kernel
theorem d_R_quotient_49 : decode c_R_quotient 49 = .ok (.lstore 7, 2) := by decide +kernel
theorem d_R_quotient_51 : decode c_R_quotient 51 = .ok (.iload 10, 2) := by decide +kernel
theorem d_R_quotient_53 : decode c_R_quotient 53 = .ok (.ifCond .ne 18, 3) := by decide +kernel
theorem d_R_quotient_56 : decode c_R_quotient 56 = .ok (.lload 7, 2) := by decide +kernel
theorem d_R_quotient_58 : decode c_R_quotient 58 = .ok (.ldc2_w 208, 3) := by decide +kernel
theorem d_R_quotient_61 : decode c_R_quotient 61 = .ok (.ladd, 1) := by decide +kernel
theorem d_R_quotient_62 : decode c_R_quotient 62 = .ok (.lload_n 2, 1) := by decide +kernel
theorem d_R_quotient_63 : decode c_R_quotient 63 = .ok (.ldc2_w 208, 3) := by decide +kernel
theorem d_R_quotient_66 : decode c_R_quotient 66 = .ok (.ladd, 1) := by decide +kernel
theorem d_R_quotient_67 : decode c_R_quotient 67 = .ok (.lcmp, 1) := by decide +kernel
theorem d_R_quotient_68 : decode c_R_quotient 68 = .ok (.ifCond .lt 18, 3) := by decide +kernel
theorem d_R_quotient_71 : decode c_R_quotient 71 = .ok (.lload 7, 2) := by decide +kernel
theorem d_R_quotient_73 : decode c_R_quotient 73 = .ok (.lload_n 2, 1) := by decide +kernel
theorem d_R_quotient_74 : decode c_R_quotient 74 = .ok (.lsub, 1) := by decide +kernel
theorem d_R_quotient_75 : decode c_R_quotient 75 = .ok (.lstore 7, 2) := by decide +kernel
theorem d_R_quotient_77 : decode c_R_quotient 77 = .ok (.lload 5, 2) := by decide +kernel
theorem d_R_quotient_79 : decode c_R_quotient 79 = .ok (.lconst 1, 1) := by decide +kernel
theorem d_R_quotient_80 : decode c_R_quotient 80 = .ok (.iload 9, 2) := by decide +kernel
theorem d_R_quotient_82 : decode c_R_quotient 82 = .ok (.lshl, 1) := by decide +kernel
theorem d_R_quotient_83 : decode c_R_quotient 83 = .ok (.lor, 1) := by decide +kernel
theorem d_R_quotient_84 : decode c_R_quotient 84 = .ok (.lstore 5, 2) := by decide +kernel
theorem d_R_quotient_86 : decode c_R_quotient 86 = .ok (.iinc 9 (-1), 3) := by decide +kernel
theorem d_R_quotient_89 : decode c_R_quotient 89 = .ok (.goto (-70), 3) := by decide +kernel
theorem d_R_quotient_92 : decode c_R_quotient 92 = .ok (.lload 5, 2) := by decide +kernel
theorem d_R_quotient_94 : decode c_R_quotient 94 = .ok (.lreturn, 1) := by decide +kernel
theorem d_R_join_0 : decode c_R_join 0 = .ok (.iload 6, 2) := by decide +kernel
theorem d_R_join_2 : decode c_R_join 2 = .ok (.ifCond .ne 10, 3) := by decide +kernel
theorem d_R_join_5 : decode c_R_join 5 = .ok (.aload_n 0, 1) := by decide +kernel
theorem d_R_join_6 : decode c_R_join 6 = .ok (.getfield 121, 3) := by decide +kernel
theorem d_R_join_9 : decode c_R_join 9 = .ok (.ifCond .eq 7, 3) := by decide +kernel
theorem d_R_join_12 : decode c_R_join 12 = .ok (.iconst 1, 1) := by decide +kernel
theorem d_R_join_13 : decode c_R_join 13 = .ok (.goto 4, 3) := by decide +kernel
theorem d_R_join_16 : decode c_R_join 16 = .ok (.iconst 0, 1) := by decide +kernel
theorem d_R_join_17 : decode c_R_join 17 = .ok (.istore 8, 2) := by decide +kernel
theorem d_R_join_19 : decode c_R_join 19 = .ok (.iload 6, 2) := by decide +kernel
theorem d_R_join_21 : decode c_R_join 21 = .ok (.istore 9, 2) := by decide +kernel
theorem d_R_join_23 : decode c_R_join 23 = .ok (.aload_n 0, 1) := by decide +kernel
theorem d_R_join_24 : decode c_R_join 24 = .ok (.iload_n 1, 1) := by decide +kernel
theorem d_R_join_25 : decode c_R_join 25 = .ok (.iconst 2, 1) := by decide +kernel
theorem d_R_join_26 : decode c_R_join 26 = .ok (.if_icmp .lt 14, 3) := by decide +kernel
theorem d_R_join_29 : decode c_R_join 29 = .ok (.iload_n 1, 1) := by decide +kernel
theorem d_R_join_30 : decode c_R_join 30 = .ok (.iconst 4, 1) := by decide +kernel
theorem d_R_join_31 : decode c_R_join 31 = .ok (.if_icmp .le 13, 3) := by decide +kernel
theorem d_R_join_34 : decode c_R_join 34 = .ok (.iload_n 1, 1) := by decide +kernel
theorem d_R_join_35 : decode c_R_join 35 = .ok (.bipush 11, 2) := by decide +kernel
theorem d_R_join_37 : decode c_R_join 37 = .ok (.if_icmp .ge 7, 3) := by decide +kernel
theorem d_R_join_40 : decode c_R_join 40 = .ok (.iconst 0, 1) := by decide +kernel
theorem d_R_join_41 : decode c_R_join 41 = .ok (.goto 22, 3) := by decide +kernel
theorem d_R_join_44 : decode c_R_join 44 = .ok (.iload_n 1, 1) := by decide +kernel
theorem d_R_join_45 : decode c_R_join 45 = .ok (.bipush 11, 2) := by decide +kernel
theorem d_R_join_47 : decode c_R_join 47 = .ok (.if_icmp .eq 9, 3) := by decide +kernel
theorem d_R_join_50 : decode c_R_join 50 = .ok (.iload_n 1, 1) := by decide +kernel
theorem d_R_join_51 : decode c_R_join 51 = .ok (.bipush 12, 2) := by decide +kernel
theorem d_R_join_53 : decode c_R_join 53 = .ok (.if_icmp .ne 8, 3) := by decide +kernel
theorem d_R_join_56 : decode c_R_join 56 = .ok (.iload 9, 2) := by decide +kernel
theorem d_R_join_58 : decode c_R_join 58 = .ok (.goto 5, 3) := by decide +kernel
theorem d_R_join_61 : decode c_R_join 61 = .ok (.iload 8, 2) := by decide +kernel
theorem d_R_join_63 : decode c_R_join 63 = .ok (.putfield 121, 3) := by decide +kernel
theorem d_R_join_66 : decode c_R_join 66 = .ok (.iload 8, 2) := by decide +kernel
theorem d_R_join_68 : decode c_R_join 68 = .ok (.ifCond .eq 26, 3) := by decide +kernel
theorem d_R_join_71 : decode c_R_join 71 = .ok (.lload_n 2, 1) := by decide +kernel
theorem d_R_join_72 : decode c_R_join 72 = .ok (.ldc2_w 208, 3) := by decide +kernel
theorem d_R_join_75 : decode c_R_join 75 = .ok (.ladd, 1) := by decide +kernel
theorem d_R_join_76 : decode c_R_join 76 = .ok (.lload 4, 2) := by decide +kernel
theorem d_R_join_78 : decode c_R_join 78 = .ok (.ldc2_w 208, 3) := by decide +kernel
theorem d_R_join_81 : decode c_R_join 81 = .ok (.ladd, 1) := by decide +kernel
theorem d_R_join_82 : decode c_R_join 82 = .ok (.lcmp, 1) := by decide +kernel
theorem d_R_join_83 : decode c_R_join 83 = .ok (.ifCond .ge 7, 3) := by decide +kernel
theorem d_R_join_86 : decode c_R_join 86 = .ok (.iconst 1, 1) := by decide +kernel
theorem d_R_join_87 : decode c_R_join 87 = .ok (.goto 19, 3) := by decide +kernel
theorem d_R_join_90 : decode c_R_join 90 = .ok (.iconst 0, 1) := by decide +kernel
theorem d_R_join_91 : decode c_R_join 91 = .ok (.goto 15, 3) := by decide +kernel
theorem d_R_join_94 : decode c_R_join 94 = .ok (.lload_n 2, 1) := by decide +kernel
theorem d_R_join_95 : decode c_R_join 95 = .ok (.lload 4, 2) := by decide +kernel
theorem d_R_join_97 : decode c_R_join 97 = .ok (.lcmp, 1) := by decide +kernel
theorem d_R_join_98 : decode c_R_join 98 = .ok (.ifCond .ge 7, 3) := by decide +kernel
theorem d_R_join_101 : decode c_R_join 101 = .ok (.iconst 1, 1) := by decide +kernel
theorem d_R_join_102 : decode c_R_join 102 = .ok (.goto 4, 3) := by decide +kernel
theorem d_R_join_105 : decode c_R_join 105 = .ok (.iconst 0, 1) := by decide +kernel
theorem d_R_join_106 : decode c_R_join 106 = .ok (.istore 10, 2) := by decide +kernel
theorem d_R_join_108 : decode c_R_join 108 = .ok (.iload_n 1, 1) := by decide +kernel
theorem d_R_join_109 : decode c_R_join 109 = .ok (.tableswitch 268 0 15 #[79, 98, 117, 122, 127, 132, 145, 158, 169, 187, 205, 216, 226, 253, 258, 263], 79) := by decide +kernel
theorem d_R_join_188 : decode c_R_join 188 = .ok (.lload_n 2, 1) := by decide +kernel
theorem d_R_join_189 : decode c_R_join 189 = .ok (.lconst 0, 1) := by decide +kernel
theorem d_R_join_190 : decode c_R_join 190 = .ok (.lcmp, 1) := by decide +kernel
theorem d_R_join_191 : decode c_R_join 191 = .ok (.ifCond .ne 10, 3) := by decide +kernel
theorem d_R_join_194 : decode c_R_join 194 = .ok (.lload 4, 2) := by decide +kernel
theorem d_R_join_196 : decode c_R_join 196 = .ok (.lconst 0, 1) := by decide +kernel
theorem d_R_join_197 : decode c_R_join 197 = .ok (.lcmp, 1) := by decide +kernel
theorem d_R_join_198 : decode c_R_join 198 = .ok (.ifCond .eq 7, 3) := by decide +kernel
theorem d_R_join_201 : decode c_R_join 201 = .ok (.lconst 1, 1) := by decide +kernel
theorem d_R_join_202 : decode c_R_join 202 = .ok (.goto 4, 3) := by decide +kernel
theorem d_R_join_205 : decode c_R_join 205 = .ok (.lconst 0, 1) := by decide +kernel
theorem d_R_join_206 : decode c_R_join 206 = .ok (.lreturn, 1) := by decide +kernel
theorem d_R_join_207 : decode c_R_join 207 = .ok (.lload_n 2, 1) := by decide +kernel
theorem d_R_join_208 : decode c_R_join 208 = .ok (.lconst 0, 1) := by decide +kernel
theorem d_R_join_209 : decode c_R_join 209 = .ok (.lcmp, 1) := by decide +kernel
theorem d_R_join_210 : decode c_R_join 210 = .ok (.ifCond .eq 14, 3) := by decide +kernel
theorem d_R_join_213 : decode c_R_join 213 = .ok (.lload 4, 2) := by decide +kernel
theorem d_R_join_215 : decode c_R_join 215 = .ok (.lconst 0, 1) := by decide +kernel
theorem d_R_join_216 : decode c_R_join 216 = .ok (.lcmp, 1) := by decide +kernel
theorem d_R_join_217 : decode c_R_join 217 = .ok (.ifCond .eq 7, 3) := by decide +kernel
theorem d_R_join_220 : decode c_R_join 220 = .ok (.lconst 1, 1) := by decide +kernel
theorem d_R_join_221 : decode c_R_join 221 = .ok (.goto 4, 3) := by decide +kernel
theorem d_R_join_224 : decode c_R_join 224 = .ok (.lconst 0, 1) := by decide +kernel
theorem d_R_join_225 : decode c_R_join 225 = .ok (.lreturn, 1) := by decide +kernel
theorem d_R_join_226 : decode c_R_join 226 = .ok (.lload_n 2, 1) := by decide +kernel
theorem d_R_join_227 : decode c_R_join 227 = .ok (.lload 4, 2) := by decide +kernel
theorem d_R_join_229 : decode c_R_join 229 = .ok (.lor, 1) := by decide +kernel
theorem d_R_join_230 : decode c_R_join 230 = .ok (.lreturn, 1) := by decide +kernel
theorem d_R_join_231 : decode c_R_join 231 = .ok (.lload_n 2, 1) := by decide +kernel
theorem d_R_join_232 : decode c_R_join 232 = .ok (.lload 4, 2) := by decide +kernel
theorem d_R_join_234 : decode c_R_join 234 = .ok (.lxor, 1) := by decide +kernel
theorem d_R_join_235 : decode c_R_join 235 = .ok (.lreturn, 1) := by decide +kernel
theorem d_R_join_236 : decode c_R_join 236 = .ok (.lload_n 2, 1) := by decide +kernel
theorem d_R_join_237 : decode c_R_join 237 = .ok (.lload 4, 2) := by decide +kernel
theorem d_R_join_239 : decode c_R_join 239 = .ok (.land, 1) := by decide +kernel
theorem d_R_join_240 : decode c_R_join 240 = .ok (.lreturn, 1) := by decide +kernel
theorem d_R_join_241 : decode c_R_join 241 = .ok (.lload_n 2, 1) := by decide +kernel
theorem d_R_join_242 : decode c_R_join 242 = .ok (.lload 4, 2) := by decide +kernel
theorem d_R_join_244 : decode c_R_join 244 = .ok (.lcmp, 1) := by decide +kernel
theorem d_R_join_245 : decode c_R_join 245 = .ok (.ifCond .ne 7, 3) := by decide +kernel
theorem d_R_join_248 : decode c_R_join 248 = .ok (.lconst 1, 1) := by decide +kernel
theorem d_R_join_249 : decode c_R_join 249 = .ok (.goto 4, 3) := by decide +kernel
theorem d_R_join_252 : decode c_R_join 252 = .ok (.lconst 0, 1) := by decide +kernel
theorem d_R_join_253 : decode c_R_join 253 = .ok (.lreturn, 1) := by decide +kernel
theorem d_R_join_254 : decode c_R_join 254 = .ok (.lload_n 2, 1) := by decide +kernel
theorem d_R_join_255 : decode c_R_join 255 = .ok (.lload 4, 2) := by decide +kernel
theorem d_R_join_257 : decode c_R_join 257 = .ok (.lcmp, 1) := by decide +kernel
theorem d_R_join_258 : decode c_R_join 258 = .ok (.ifCond .eq 7, 3) := by decide +kernel
theorem d_R_join_261 : decode c_R_join 261 = .ok (.lconst 1, 1) := by decide +kernel
theorem d_R_join_262 : decode c_R_join 262 = .ok (.goto 4, 3) := by decide +kernel
theorem d_R_join_265 : decode c_R_join 265 = .ok (.lconst 0, 1) := by decide +kernel
theorem d_R_join_266 : decode c_R_join 266 = .ok (.lreturn, 1) := by decide +kernel
theorem d_R_join_267 : decode c_R_join 267 = .ok (.iload 10, 2) := by decide +kernel
theorem d_R_join_269 : decode c_R_join 269 = .ok (.ifCond .eq 7, 3) := by decide +kernel
theorem d_R_join_272 : decode c_R_join 272 = .ok (.lconst 1, 1) := by decide +kernel
theorem d_R_join_273 : decode c_R_join 273 = .ok (.goto 4, 3) := by decide +kernel
theorem d_R_join_276 : decode c_R_join 276 = .ok (.lconst 0, 1) := by decide +kernel
theorem d_R_join_277 : decode c_R_join 277 = .ok (.lreturn, 1) := by decide +kernel
theorem d_R_join_278 : decode c_R_join 278 = .ok (.iload 10, 2) := by decide +kernel
theorem d_R_join_280 : decode c_R_join 280 = .ok (.ifCond .ne 14, 3) := by decide +kernel
theorem d_R_join_283 : decode c_R_join 283 = .ok (.lload_n 2, 1) := by decide +kernel
theorem d_R_join_284 : decode c_R_join 284 = .ok (.lload 4, 2) := by decide +kernel
theorem d_R_join_286 : decode c_R_join 286 = .ok (.lcmp, 1) := by decide +kernel
theorem d_R_join_287 : decode c_R_join 287 = .ok (.ifCond .eq 7, 3) := by decide +kernel
theorem d_R_join_290 : decode c_R_join 290 = .ok (.lconst 1, 1) := by decide +kernel
theorem d_R_join_291 : decode c_R_join 291 = .ok (.goto 4, 3) := by decide +kernel
theorem d_R_join_294 : decode c_R_join 294 = .ok (.lconst 0, 1) := by decide +kernel
theorem d_R_join_295 : decode c_R_join 295 = .ok (.lreturn, 1) := by decide +kernel
theorem d_R_join_296 : decode c_R_join 296 = .ok (.iload 10, 2) := by decide +kernel
theorem d_R_join_298 : decode c_R_join 298 = .ok (.ifCond .ne 10, 3) := by decide +kernel
theorem d_R_join_301 : decode c_R_join 301 = .ok (.lload_n 2, 1) := by decide +kernel
theorem d_R_join_302 : decode c_R_join 302 = .ok (.lload 4, 2) := by decide +kernel
theorem d_R_join_304 : decode c_R_join 304 = .ok (.lcmp, 1) := by decide +kernel
theorem d_R_join_305 : decode c_R_join 305 = .ok (.ifCond .ne 7, 3) := by decide +kernel
theorem d_R_join_308 : decode c_R_join 308 = .ok (.lconst 1, 1) := by decide +kernel
theorem d_R_join_309 : decode c_R_join 309 = .ok (.goto 4, 3) := by decide +kernel
theorem d_R_join_312 : decode c_R_join 312 = .ok (.lconst 0, 1) := by decide +kernel
theorem d_R_join_313 : decode c_R_join 313 = .ok (.lreturn, 1) := by decide +kernel
theorem d_R_join_314 : decode c_R_join 314 = .ok (.iload 10, 2) := by decide +kernel
theorem d_R_join_316 : decode c_R_join 316 = .ok (.ifCond .eq 7, 3) := by decide +kernel
theorem d_R_join_319 : decode c_R_join 319 = .ok (.lconst 0, 1) := by decide +kernel
theorem d_R_join_320 : decode c_R_join 320 = .ok (.goto 4, 3) := by decide +kernel
theorem d_R_join_323 : decode c_R_join 323 = .ok (.lconst 1, 1) := by decide +kernel
theorem d_R_join_324 : decode c_R_join 324 = .ok (.lreturn, 1) := by decide +kernel
theorem d_R_join_325 : decode c_R_join 325 = .ok (.lload_n 2, 1) := by decide +kernel
theorem d_R_join_326 : decode c_R_join 326 = .ok (.lload 4, 2) := by decide +kernel
theorem d_R_join_328 : decode c_R_join 328 = .ok (.ldc2_w 210, 3) := by decide +kernel
theorem d_R_join_331 : decode c_R_join 331 = .ok (.land, 1) := by decide +kernel
theorem d_R_join_332 : decode c_R_join 332 = .ok (.l2i, 1) := by decide +kernel
theorem d_R_join_333 : decode c_R_join 333 = .ok (.lshl, 1) := by decide +kernel
theorem d_R_join_334 : decode c_R_join 334 = .ok (.lreturn, 1) := by decide +kernel
theorem d_R_join_335 : decode c_R_join 335 = .ok (.iload 9, 2) := by decide +kernel
theorem d_R_join_337 : decode c_R_join 337 = .ok (.ifCond .eq 15, 3) := by decide +kernel
theorem d_R_join_340 : decode c_R_join 340 = .ok (.lload_n 2, 1) := by decide +kernel
theorem d_R_join_341 : decode c_R_join 341 = .ok (.lload 4, 2) := by decide +kernel
theorem d_R_join_343 : decode c_R_join 343 = .ok (.ldc2_w 210, 3) := by decide +kernel
theorem d_R_join_346 : decode c_R_join 346 = .ok (.land, 1) := by decide +kernel
theorem d_R_join_347 : decode c_R_join 347 = .ok (.l2i, 1) := by decide +kernel
theorem d_R_join_348 : decode c_R_join 348 = .ok (.lushr, 1) := by decide +kernel
theorem d_R_join_349 : decode c_R_join 349 = .ok (.goto 12, 3) := by decide +kernel
theorem d_R_join_352 : decode c_R_join 352 = .ok (.lload_n 2, 1) := by decide +kernel
theorem d_R_join_353 : decode c_R_join 353 = .ok (.lload 4, 2) := by decide +kernel
theorem d_R_join_355 : decode c_R_join 355 = .ok (.ldc2_w 210, 3) := by decide +kernel
theorem d_R_join_358 : decode c_R_join 358 = .ok (.land, 1) := by decide +kernel
theorem d_R_join_359 : decode c_R_join 359 = .ok (.l2i, 1) := by decide +kernel
theorem d_R_join_360 : decode c_R_join 360 = .ok (.lshr, 1) := by decide +kernel
theorem d_R_join_361 : decode c_R_join 361 = .ok (.lreturn, 1) := by decide +kernel
theorem d_R_join_362 : decode c_R_join 362 = .ok (.lload_n 2, 1) := by decide +kernel
theorem d_R_join_363 : decode c_R_join 363 = .ok (.lload 4, 2) := by decide +kernel
theorem d_R_join_365 : decode c_R_join 365 = .ok (.ladd, 1) := by decide +kernel
theorem d_R_join_366 : decode c_R_join 366 = .ok (.lreturn, 1) := by decide +kernel
theorem d_R_join_367 : decode c_R_join 367 = .ok (.lload_n 2, 1) := by decide +kernel
theorem d_R_join_368 : decode c_R_join 368 = .ok (.lload 4, 2) := by decide +kernel
theorem d_R_join_370 : decode c_R_join 370 = .ok (.lsub, 1) := by decide +kernel
theorem d_R_join_371 : decode c_R_join 371 = .ok (.lreturn, 1) := by decide +kernel
theorem d_R_join_372 : decode c_R_join 372 = .ok (.lload_n 2, 1) := by decide +kernel
theorem d_R_join_373 : decode c_R_join 373 = .ok (.lload 4, 2) := by decide +kernel
theorem d_R_join_375 : decode c_R_join 375 = .ok (.lmul, 1) := by decide +kernel
theorem d_R_join_376 : decode c_R_join 376 = .ok (.lreturn, 1) := by decide +kernel
theorem d_R_join_377 : decode c_R_join 377 = .ok (.aload_n 0, 1) := by decide +kernel
theorem d_R_join_378 : decode c_R_join 378 = .ok (.aload_n 0, 1) := by decide +kernel
theorem d_R_join_379 : decode c_R_join 379 = .ok (.getfield 108, 3) := by decide +kernel
theorem d_R_join_382 : decode c_R_join 382 = .ok (.ifCond .ne 15, 3) := by decide +kernel
theorem d_R_join_385 : decode c_R_join 385 = .ok (.iload 7, 2) := by decide +kernel
theorem d_R_join_387 : decode c_R_join 387 = .ok (.ifCond .eq 14, 3) := by decide +kernel
theorem d_R_join_390 : decode c_R_join 390 = .ok (.lload 4, 2) := by decide +kernel
theorem d_R_join_392 : decode c_R_join 392 = .ok (.lconst 0, 1) := by decide +kernel
theorem d_R_join_393 : decode c_R_join 393 = .ok (.lcmp, 1) := by decide +kernel
theorem d_R_join_394 : decode c_R_join 394 = .ok (.ifCond .ne 7, 3) := by decide +kernel
theorem d_R_join_397 : decode c_R_join 397 = .ok (.iconst 1, 1) := by decide +kernel
theorem d_R_join_398 : decode c_R_join 398 = .ok (.goto 4, 3) := by decide +kernel
theorem d_R_join_401 : decode c_R_join 401 = .ok (.iconst 0, 1) := by decide +kernel
theorem d_R_join_402 : decode c_R_join 402 = .ok (.putfield 108, 3) := by decide +kernel
theorem d_R_join_405 : decode c_R_join 405 = .ok (.lload 4, 2) := by decide +kernel
theorem d_R_join_407 : decode c_R_join 407 = .ok (.lconst 0, 1) := by decide +kernel
theorem d_R_join_408 : decode c_R_join 408 = .ok (.lcmp, 1) := by decide +kernel
theorem d_R_join_409 : decode c_R_join 409 = .ok (.ifCond .ne 7, 3) := by decide +kernel
theorem d_R_join_412 : decode c_R_join 412 = .ok (.lconst 0, 1) := by decide +kernel
theorem d_R_join_413 : decode c_R_join 413 = .ok (.goto 33, 3) := by decide +kernel
theorem d_R_join_416 : decode c_R_join 416 = .ok (.iload_n 1, 1) := by decide +kernel
theorem d_R_join_417 : decode c_R_join 417 = .ok (.bipush 16, 2) := by decide +kernel
theorem d_R_join_419 : decode c_R_join 419 = .ok (.if_icmp .ne 14, 3) := by decide +kernel
theorem d_R_join_422 : decode c_R_join 422 = .ok (.lload_n 2, 1) := by decide +kernel
theorem d_R_join_423 : decode c_R_join 423 = .ok (.lload 4, 2) := by decide +kernel
theorem d_R_join_425 : decode c_R_join 425 = .ok (.iload 8, 2) := by decide +kernel
theorem d_R_join_427 : decode c_R_join 427 = .ok (.invokestatic 212, 3) := by decide +kernel
theorem d_R_join_430 : decode c_R_join 430 = .ok (.goto 16, 3) := by decide +kernel
theorem d_R_join_433 : decode c_R_join 433 = .ok (.lload_n 2, 1) := by decide +kernel
theorem d_R_join_434 : decode c_R_join 434 = .ok (.lload 4, 2) := by decide +kernel
theorem d_R_join_436 : decode c_R_join 436 = .ok (.lload_n 2, 1) := by decide +kernel
theorem d_R_join_437 : decode c_R_join 437 = .ok (.lload 4, 2) := by decide +kernel
theorem d_R_join_439 : decode c_R_join 439 = .ok (.iload 8, 2) := by decide +kernel
theorem d_R_join_441 : decode c_R_join 441 = .ok (.invokestatic 212, 3) := by decide +kernel
theorem d_R_join_444 : decode c_R_join 444 = .ok (.lmul, 1) := by decide +kernel
theorem d_R_join_445 : decode c_R_join 445 = .ok (.lsub, 1) := by decide +kernel
theorem d_R_join_446 : decode c_R_join 446 = .ok (.lreturn, 1) := by decide +kernel
theorem d_R_settle_0 : decode c_R_settle 0 = .ok (.aload_n 0, 1) := by decide +kernel
theorem d_R_settle_1 : decode c_R_settle 1 = .ok (.dup, 1) := by decide +kernel
theorem d_R_settle_2 : decode c_R_settle 2 = .ok (.getfield 114, 3) := by decide +kernel
theorem d_R_settle_5 : decode c_R_settle 5 = .ok (.iconst 1, 1) := by decide +kernel
theorem d_R_settle_6 : decode c_R_settle 6 = .ok (.isub, 1) := by decide +kernel
theorem d_R_settle_7 : decode c_R_settle 7 = .ok (.putfield 114, 3) := by decide +kernel
theorem d_R_settle_10 : decode c_R_settle 10 = .ok (.aload_n 0, 1) := by decide +kernel
theorem d_R_settle_11 : decode c_R_settle 11 = .ok (.aload_n 0, 1) := by decide +kernel
theorem d_R_settle_12 : decode c_R_settle 12 = .ok (.getfield 20, 3) := by decide +kernel
theorem d_R_settle_15 : decode c_R_settle 15 = .ok (.aload_n 0, 1) := by decide +kernel
theorem d_R_settle_16 : decode c_R_settle 16 = .ok (.getfield 114, 3) := by decide +kernel
theorem d_R_settle_19 : decode c_R_settle 19 = .ok (.iaload, 1) := by decide +kernel
theorem d_R_settle_20 : decode c_R_settle 20 = .ok (.aload_n 0, 1) := by decide +kernel
theorem d_R_settle_21 : decode c_R_settle 21 = .ok (.getfield 23, 3) := by decide +kernel
theorem d_R_settle_24 : decode c_R_settle 24 = .ok (.aload_n 0, 1) := by decide +kernel
theorem d_R_settle_25 : decode c_R_settle 25 = .ok (.getfield 114, 3) := by decide +kernel
theorem d_R_settle_28 : decode c_R_settle 28 = .ok (.laload, 1) := by decide +kernel
theorem d_R_settle_29 : decode c_R_settle 29 = .ok (.lload_n 1, 1) := by decide +kernel
theorem d_R_settle_30 : decode c_R_settle 30 = .ok (.aload_n 0, 1) := by decide +kernel
theorem d_R_settle_31 : decode c_R_settle 31 = .ok (.getfield 27, 3) := by decide +kernel
theorem d_R_settle_34 : decode c_R_settle 34 = .ok (.aload_n 0, 1) := by decide +kernel
theorem d_R_settle_35 : decode c_R_settle 35 = .ok (.getfield 114, 3) := by decide +kernel
theorem d_R_settle_38 : decode c_R_settle 38 = .ok (.baload, 1) := by decide +kernel
theorem d_R_settle_39 : decode c_R_settle 39 = .ok (.aload_n 0, 1) := by decide +kernel
theorem d_R_settle_40 : decode c_R_settle 40 = .ok (.iload_n 3, 1) := by decide +kernel
theorem d_R_settle_41 : decode c_R_settle 41 = .ok (.iload 4, 2) := by decide +kernel
theorem d_R_settle_43 : decode c_R_settle 43 = .ok (.invokevirtual 184, 3) := by decide +kernel
theorem d_R_settle_46 : decode c_R_settle 46 = .ok (.invokevirtual 188, 3) := by decide +kernel
theorem d_R_settle_49 : decode c_R_settle 49 = .ok (.lreturn, 1) := by decide +kernel
theorem d_R_digitOf_0 : decode c_R_digitOf 0 = .ok (.iload_n 0, 1) := by decide +kernel
theorem d_R_digitOf_1 : decode c_R_digitOf 1 = .ok (.invokestatic 65, 3) := by decide +kernel
theorem d_R_digitOf_4 : decode c_R_digitOf 4 = .ok (.ifCond .eq 10, 3) := by decide +kernel
theorem d_R_digitOf_7 : decode c_R_digitOf 7 = .ok (.iload_n 0, 1) := by decide +kernel
theorem d_R_digitOf_8 : decode c_R_digitOf 8 = .ok (.bipush 48, 2) := by decide +kernel
theorem d_R_digitOf_10 : decode c_R_digitOf 10 = .ok (.isub, 1) := by decide +kernel
theorem d_R_digitOf_11 : decode c_R_digitOf 11 = .ok (.goto 43, 3) := by decide +kernel
theorem d_R_digitOf_14 : decode c_R_digitOf 14 = .ok (.iload_n 0, 1) := by decide +kernel
theorem d_R_digitOf_15 : decode c_R_digitOf 15 = .ok (.bipush 97, 2) := by decide +kernel
theorem d_R_digitOf_17 : decode c_R_digitOf 17 = .ok (.if_icmp .lt 16, 3) := by decide +kernel
theorem d_R_digitOf_20 : decode c_R_digitOf 20 = .ok (.iload_n 0, 1) := by decide +kernel
theorem d_R_digitOf_21 : decode c_R_digitOf 21 = .ok (.bipush 102, 2) := by decide +kernel
theorem d_R_digitOf_23 : decode c_R_digitOf 23 = .ok (.if_icmp .gt 10, 3) := by decide +kernel
theorem d_R_digitOf_26 : decode c_R_digitOf 26 = .ok (.iload_n 0, 1) := by decide +kernel
theorem d_R_digitOf_27 : decode c_R_digitOf 27 = .ok (.bipush 87, 2) := by decide +kernel
theorem d_R_digitOf_29 : decode c_R_digitOf 29 = .ok (.isub, 1) := by decide +kernel
theorem d_R_digitOf_30 : decode c_R_digitOf 30 = .ok (.goto 24, 3) := by decide +kernel
theorem d_R_digitOf_33 : decode c_R_digitOf 33 = .ok (.iload_n 0, 1) := by decide +kernel
theorem d_R_digitOf_34 : decode c_R_digitOf 34 = .ok (.bipush 65, 2) := by decide +kernel
theorem d_R_digitOf_36 : decode c_R_digitOf 36 = .ok (.if_icmp .lt 16, 3) := by decide +kernel
theorem d_R_digitOf_39 : decode c_R_digitOf 39 = .ok (.iload_n 0, 1) := by decide +kernel
theorem d_R_digitOf_40 : decode c_R_digitOf 40 = .ok (.bipush 70, 2) := by decide +kernel
theorem d_R_digitOf_42 : decode c_R_digitOf 42 = .ok (.if_icmp .gt 10, 3) := by decide +kernel
theorem d_R_digitOf_45 : decode c_R_digitOf 45 = .ok (.iload_n 0, 1) := by decide +kernel
theorem d_R_digitOf_46 : decode c_R_digitOf 46 = .ok (.bipush 55, 2) := by decide +kernel
theorem d_R_digitOf_48 : decode c_R_digitOf 48 = .ok (.isub, 1) := by decide +kernel
theorem d_R_digitOf_49 : decode c_R_digitOf 49 = .ok (.goto 5, 3) := by decide +kernel
theorem d_R_digitOf_52 : decode c_R_digitOf 52 = .ok (.bipush 99, 2) := by decide +kernel
theorem d_R_digitOf_54 : decode c_R_digitOf 54 = .ok (.ireturn, 1) := by decide +kernel
theorem d_R_numberOf_0 : decode c_R_numberOf 0 = .ok (.aload_n 0, 1) := by decide +kernel
theorem d_R_numberOf_1 : decode c_R_numberOf 1 = .ok (.getfield 17, 3) := by decide +kernel
theorem d_R_numberOf_4 : decode c_R_numberOf 4 = .ok (.iload_n 1, 1) := by decide +kernel
theorem d_R_numberOf_5 : decode c_R_numberOf 5 = .ok (.iaload, 1) := by decide +kernel
theorem d_R_numberOf_6 : decode c_R_numberOf 6 = .ok (.istore_n 2, 1) := by decide +kernel
theorem d_R_numberOf_7 : decode c_R_numberOf 7 = .ok (.iload_n 2, 1) := by decide +kernel
theorem d_R_numberOf_8 : decode c_R_numberOf 8 = .ok (.iconst 2, 1) := by decide +kernel
theorem d_R_numberOf_9 : decode c_R_numberOf 9 = .ok (.if_icmp .le 32, 3) := by decide +kernel
theorem d_R_numberOf_12 : decode c_R_numberOf 12 = .ok (.aload_n 0, 1) := by decide +kernel
theorem d_R_numberOf_13 : decode c_R_numberOf 13 = .ok (.iload_n 1, 1) := by decide +kernel
theorem d_R_numberOf_14 : decode c_R_numberOf 14 = .ok (.iconst 0, 1) := by decide +kernel
theorem d_R_numberOf_15 : decode c_R_numberOf 15 = .ok (.invokevirtual 82, 3) := by decide +kernel
theorem d_R_numberOf_18 : decode c_R_numberOf 18 = .ok (.bipush 48, 2) := by decide +kernel
theorem d_R_numberOf_20 : decode c_R_numberOf 20 = .ok (.if_icmp .ne 21, 3) := by decide +kernel
theorem d_R_numberOf_23 : decode c_R_numberOf 23 = .ok (.aload_n 0, 1) := by decide +kernel
theorem d_R_numberOf_24 : decode c_R_numberOf 24 = .ok (.iload_n 1, 1) := by decide +kernel
theorem d_R_numberOf_25 : decode c_R_numberOf 25 = .ok (.iconst 1, 1) := by decide +kernel
theorem d_R_numberOf_26 : decode c_R_numberOf 26 = .ok (.invokevirtual 82, 3) := by decide +kernel
theorem d_R_numberOf_29 : decode c_R_numberOf 29 = .ok (.bipush 32, 2) := by decide +kernel
theorem d_R_numberOf_31 : decode c_R_numberOf 31 = .ok (.ior, 1) := by decide +kernel
theorem d_R_numberOf_32 : decode c_R_numberOf 32 = .ok (.bipush 120, 2) := by decide +kernel
theorem d_R_numberOf_34 : decode c_R_numberOf 34 = .ok (.if_icmp .ne 7, 3) := by decide +kernel
theorem d_R_numberOf_37 : decode c_R_numberOf 37 = .ok (.iconst 1, 1) := by decide +kernel
theorem d_R_numberOf_38 : decode c_R_numberOf 38 = .ok (.goto 4, 3) := by decide +kernel
theorem d_R_numberOf_41 : decode c_R_numberOf 41 = .ok (.iconst 0, 1) := by decide +kernel
theorem d_R_numberOf_42 : decode c_R_numberOf 42 = .ok (.istore_n 3, 1) := by decide +kernel
theorem d_R_numberOf_43 : decode c_R_numberOf 43 = .ok (.iload_n 3, 1) := by decide +kernel
theorem d_R_numberOf_44 : decode c_R_numberOf 44 = .ok (.ifCond .eq 8, 3) := by decide +kernel
theorem d_R_numberOf_47 : decode c_R_numberOf 47 = .ok (.bipush 16, 2) := by decide +kernel
theorem d_R_numberOf_49 : decode c_R_numberOf 49 = .ok (.goto 21, 3) := by decide +kernel
theorem d_R_numberOf_52 : decode c_R_numberOf 52 = .ok (.aload_n 0, 1) := by decide +kernel
theorem d_R_numberOf_53 : decode c_R_numberOf 53 = .ok (.iload_n 1, 1) := by decide +kernel
theorem d_R_numberOf_54 : decode c_R_numberOf 54 = .ok (.iconst 0, 1) := by decide +kernel
theorem d_R_numberOf_55 : decode c_R_numberOf 55 = .ok (.invokevirtual 82, 3) := by decide +kernel
theorem d_R_numberOf_58 : decode c_R_numberOf 58 = .ok (.bipush 48, 2) := by decide +kernel
theorem d_R_numberOf_60 : decode c_R_numberOf 60 = .ok (.if_icmp .ne 8, 3) := by decide +kernel
theorem d_R_numberOf_63 : decode c_R_numberOf 63 = .ok (.bipush 8, 2) := by decide +kernel
theorem d_R_numberOf_65 : decode c_R_numberOf 65 = .ok (.goto 5, 3) := by decide +kernel
theorem d_R_numberOf_68 : decode c_R_numberOf 68 = .ok (.bipush 10, 2) := by decide +kernel
theorem d_R_numberOf_70 : decode c_R_numberOf 70 = .ok (.istore 4, 2) := by decide +kernel
theorem d_R_numberOf_72 : decode c_R_numberOf 72 = .ok (.iload_n 3, 1) := by decide +kernel
theorem d_R_numberOf_73 : decode c_R_numberOf 73 = .ok (.ifCond .eq 7, 3) := by decide +kernel
theorem d_R_numberOf_76 : decode c_R_numberOf 76 = .ok (.iconst 2, 1) := by decide +kernel
theorem d_R_numberOf_77 : decode c_R_numberOf 77 = .ok (.goto 4, 3) := by decide +kernel
theorem d_R_numberOf_80 : decode c_R_numberOf 80 = .ok (.iconst 0, 1) := by decide +kernel
theorem d_R_numberOf_81 : decode c_R_numberOf 81 = .ok (.istore 5, 2) := by decide +kernel
theorem d_R_numberOf_83 : decode c_R_numberOf 83 = .ok (.iload 5, 2) := by decide +kernel
theorem d_R_numberOf_85 : decode c_R_numberOf 85 = .ok (.istore 6, 2) := by decide +kernel
theorem d_R_numberOf_87 : decode c_R_numberOf 87 = .ok (.lconst 0, 1) := by decide +kernel
theorem d_R_numberOf_88 : decode c_R_numberOf 88 = .ok (.lstore 7, 2) := by decide +kernel
theorem d_R_numberOf_90 : decode c_R_numberOf 90 = .ok (.iconst 0, 1) := by decide +kernel
theorem d_R_numberOf_91 : decode c_R_numberOf 91 = .ok (.istore 9, 2) := by decide +kernel
theorem d_R_numberOf_93 : decode c_R_numberOf 93 = .ok (.iload 5, 2) := by decide +kernel
theorem d_R_numberOf_95 : decode c_R_numberOf 95 = .ok (.iload_n 2, 1) := by decide +kernel
theorem d_R_numberOf_96 : decode c_R_numberOf 96 = .ok (.if_icmp .ge 116, 3) := by decide +kernel
theorem d_R_numberOf_99 : decode c_R_numberOf 99 = .ok (.aload_n 0, 1) := by decide +kernel
theorem d_R_numberOf_100 : decode c_R_numberOf 100 = .ok (.iload_n 1, 1) := by decide +kernel
theorem d_R_numberOf_101 : decode c_R_numberOf 101 = .ok (.iload 5, 2) := by decide +kernel
theorem d_R_numberOf_103 : decode c_R_numberOf 103 = .ok (.invokevirtual 82, 3) := by decide +kernel
theorem d_R_numberOf_106 : decode c_R_numberOf 106 = .ok (.invokestatic 233, 3) := by decide +kernel
theorem d_R_numberOf_109 : decode c_R_numberOf 109 = .ok (.iload 4, 2) := by decide +kernel
theorem d_R_numberOf_111 : decode c_R_numberOf 111 = .ok (.if_icmp .ge 101, 3) := by decide +kernel
theorem d_R_numberOf_114 : decode c_R_numberOf 114 = .ok (.ldc2_w 231, 3) := by decide +kernel
theorem d_R_numberOf_117 : decode c_R_numberOf 117 = .ok (.iload 4, 2) := by decide +kernel
theorem d_R_numberOf_119 : decode c_R_numberOf 119 = .ok (.i2l, 1) := by decide +kernel
theorem d_R_numberOf_120 : decode c_R_numberOf 120 = .ok (.iconst 1, 1) := by decide +kernel
theorem d_R_numberOf_121 : decode c_R_numberOf 121 = .ok (.invokestatic 212, 3) := by decide +kernel
theorem d_R_numberOf_124 : decode c_R_numberOf 124 = .ok (.lstore 10, 2) := by decide +kernel
theorem d_R_numberOf_126 : decode c_R_numberOf 126 = .ok (.aload_n 0, 1) := by decide +kernel
theorem d_R_numberOf_127 : decode c_R_numberOf 127 = .ok (.iload_n 1, 1) := by decide +kernel
theorem d_R_numberOf_128 : decode c_R_numberOf 128 = .ok (.iload 5, 2) := by decide +kernel
theorem d_R_numberOf_130 : decode c_R_numberOf 130 = .ok (.invokevirtual 82, 3) := by decide +kernel
theorem d_R_numberOf_133 : decode c_R_numberOf 133 = .ok (.invokestatic 233, 3) := by decide +kernel
theorem d_R_numberOf_136 : decode c_R_numberOf 136 = .ok (.istore 12, 2) := by decide +kernel
theorem d_R_numberOf_138 : decode c_R_numberOf 138 = .ok (.iload 9, 2) := by decide +kernel
theorem d_R_numberOf_140 : decode c_R_numberOf 140 = .ok (.ifCond .ne 47, 3) := by decide +kernel
theorem d_R_numberOf_143 : decode c_R_numberOf 143 = .ok (.lload 7, 2) := by decide +kernel
theorem d_R_numberOf_145 : decode c_R_numberOf 145 = .ok (.ldc2_w 208, 3) := by decide +kernel
theorem d_R_numberOf_148 : decode c_R_numberOf 148 = .ok (.ladd, 1) := by decide +kernel
theorem d_R_numberOf_149 : decode c_R_numberOf 149 = .ok (.lload 10, 2) := by decide +kernel
theorem d_R_numberOf_151 : decode c_R_numberOf 151 = .ok (.ldc2_w 208, 3) := by decide +kernel
theorem d_R_numberOf_154 : decode c_R_numberOf 154 = .ok (.ladd, 1) := by decide +kernel
theorem d_R_numberOf_155 : decode c_R_numberOf 155 = .ok (.lcmp, 1) := by decide +kernel
theorem d_R_numberOf_156 : decode c_R_numberOf 156 = .ok (.ifCond .gt 31, 3) := by decide +kernel
theorem d_R_numberOf_159 : decode c_R_numberOf 159 = .ok (.lload 7, 2) := by decide +kernel
theorem d_R_numberOf_161 : decode c_R_numberOf 161 = .ok (.lload 10, 2) := by decide +kernel
theorem d_R_numberOf_163 : decode c_R_numberOf 163 = .ok (.lcmp, 1) := by decide +kernel
theorem d_R_numberOf_164 : decode c_R_numberOf 164 = .ok (.ifCond .ne 27, 3) := by decide +kernel
theorem d_R_numberOf_167 : decode c_R_numberOf 167 = .ok (.iload 12, 2) := by decide +kernel
theorem d_R_numberOf_169 : decode c_R_numberOf 169 = .ok (.iload 4, 2) := by decide +kernel
theorem d_R_numberOf_171 : decode c_R_numberOf 171 = .ok (.bipush 10, 2) := by decide +kernel
theorem d_R_numberOf_173 : decode c_R_numberOf 173 = .ok (.if_icmp .ne 7, 3) := by decide +kernel
theorem d_R_numberOf_176 : decode c_R_numberOf 176 = .ok (.iconst 5, 1) := by decide +kernel
theorem d_R_numberOf_177 : decode c_R_numberOf 177 = .ok (.goto 7, 3) := by decide +kernel
theorem d_R_numberOf_180 : decode c_R_numberOf 180 = .ok (.iload 4, 2) := by decide +kernel
theorem d_R_numberOf_182 : decode c_R_numberOf 182 = .ok (.iconst 1, 1) := by decide +kernel
theorem d_R_numberOf_183 : decode c_R_numberOf 183 = .ok (.isub, 1) := by decide +kernel
theorem d_R_numberOf_184 : decode c_R_numberOf 184 = .ok (.if_icmp .le 7, 3) := by decide +kernel
theorem d_R_numberOf_187 : decode c_R_numberOf 187 = .ok (.iconst 1, 1) := by decide +kernel
theorem d_R_numberOf_188 : decode c_R_numberOf 188 = .ok (.goto 4, 3) := by decide +kernel
theorem d_R_numberOf_191 : decode c_R_numberOf 191 = .ok (.iconst 0, 1) := by decide +kernel
theorem d_R_numberOf_192 : decode c_R_numberOf 192 = .ok (.istore 9, 2) := by decide +kernel
theorem d_R_numberOf_194 : decode c_R_numberOf 194 = .ok (.lload 7, 2) := by decide +kernel
theorem d_R_numberOf_196 : decode c_R_numberOf 196 = .ok (.iload 4, 2) := by decide +kernel
theorem d_R_numberOf_198 : decode c_R_numberOf 198 = .ok (.i2l, 1) := by decide +kernel
theorem d_R_numberOf_199 : decode c_R_numberOf 199 = .ok (.lmul, 1) := by decide +kernel
theorem d_R_numberOf_200 : decode c_R_numberOf 200 = .ok (.iload 12, 2) := by decide +kernel
theorem d_R_numberOf_202 : decode c_R_numberOf 202 = .ok (.i2l, 1) := by decide +kernel
theorem d_R_numberOf_203 : decode c_R_numberOf 203 = .ok (.ladd, 1) := by decide +kernel
theorem d_R_numberOf_204 : decode c_R_numberOf 204 = .ok (.lstore 7, 2) := by decide +kernel
theorem d_R_numberOf_206 : decode c_R_numberOf 206 = .ok (.iinc 5 1, 3) := by decide +kernel
theorem d_R_numberOf_209 : decode c_R_numberOf 209 = .ok (.goto (-116), 3) := by decide +kernel
theorem d_R_numberOf_212 : decode c_R_numberOf 212 = .ok (.iload 5, 2) := by decide +kernel
theorem d_R_numberOf_214 : decode c_R_numberOf 214 = .ok (.iload 6, 2) := by decide +kernel
theorem d_R_numberOf_216 : decode c_R_numberOf 216 = .ok (.if_icmp .ne 7, 3) := by decide +kernel
theorem d_R_numberOf_219 : decode c_R_numberOf 219 = .ok (.iconst 1, 1) := by decide +kernel
theorem d_R_numberOf_220 : decode c_R_numberOf 220 = .ok (.goto 4, 3) := by decide +kernel
theorem d_R_numberOf_223 : decode c_R_numberOf 223 = .ok (.iconst 0, 1) := by decide +kernel
theorem d_R_numberOf_224 : decode c_R_numberOf 224 = .ok (.istore 10, 2) := by decide +kernel
theorem d_R_numberOf_226 : decode c_R_numberOf 226 = .ok (.iconst 0, 1) := by decide +kernel
theorem d_R_numberOf_227 : decode c_R_numberOf 227 = .ok (.istore 11, 2) := by decide +kernel
theorem d_R_numberOf_229 : decode c_R_numberOf 229 = .ok (.iconst 0, 1) := by decide +kernel
theorem d_R_numberOf_230 : decode c_R_numberOf 230 = .ok (.istore 12, 2) := by decide +kernel
theorem d_R_numberOf_232 : decode c_R_numberOf 232 = .ok (.iconst 1, 1) := by decide +kernel
theorem d_R_numberOf_233 : decode c_R_numberOf 233 = .ok (.istore 13, 2) := by decide +kernel
theorem d_R_numberOf_235 : decode c_R_numberOf 235 = .ok (.iload 5, 2) := by decide +kernel
theorem d_R_numberOf_237 : decode c_R_numberOf 237 = .ok (.iload_n 2, 1) := by decide +kernel
theorem d_R_numberOf_238 : decode c_R_numberOf 238 = .ok (.if_icmp .ge 101, 3) := by decide +kernel
theorem d_R_numberOf_241 : decode c_R_numberOf 241 = .ok (.iload 13, 2) := by decide +kernel
theorem d_R_numberOf_243 : decode c_R_numberOf 243 = .ok (.ifCond .eq 96, 3) := by decide +kernel
theorem d_R_numberOf_246 : decode c_R_numberOf 246 = .ok (.aload_n 0, 1) := by decide +kernel
theorem d_R_numberOf_247 : decode c_R_numberOf 247 = .ok (.iload_n 1, 1) := by decide +kernel
theorem d_R_numberOf_248 : decode c_R_numberOf 248 = .ok (.iload 5, 2) := by decide +kernel
theorem d_R_numberOf_250 : decode c_R_numberOf 250 = .ok (.invokevirtual 82, 3) := by decide +kernel
theorem d_R_numberOf_253 : decode c_R_numberOf 253 = .ok (.istore 14, 2) := by decide +kernel
theorem d_R_numberOf_255 : decode c_R_numberOf 255 = .ok (.iload 14, 2) := by decide +kernel
theorem d_R_numberOf_257 : decode c_R_numberOf 257 = .ok (.bipush 32, 2) := by decide +kernel
theorem d_R_numberOf_259 : decode c_R_numberOf 259 = .ok (.ior, 1) := by decide +kernel
theorem d_R_numberOf_260 : decode c_R_numberOf 260 = .ok (.bipush 117, 2) := by decide +kernel
theorem d_R_numberOf_262 : decode c_R_numberOf 262 = .ok (.if_icmp .ne 17, 3) := by decide +kernel
theorem d_R_numberOf_265 : decode c_R_numberOf 265 = .ok (.iload 11, 2) := by decide +kernel
theorem d_R_numberOf_267 : decode c_R_numberOf 267 = .ok (.ifCond .ne 12, 3) := by decide +kernel
theorem d_R_numberOf_270 : decode c_R_numberOf 270 = .ok (.iconst 1, 1) := by decide +kernel
theorem d_R_numberOf_271 : decode c_R_numberOf 271 = .ok (.istore 11, 2) := by decide +kernel
theorem d_R_numberOf_273 : decode c_R_numberOf 273 = .ok (.iinc 5 1, 3) := by decide +kernel
theorem d_R_numberOf_276 : decode c_R_numberOf 276 = .ok (.goto 60, 3) := by decide +kernel
theorem d_R_numberOf_279 : decode c_R_numberOf 279 = .ok (.iload 14, 2) := by decide +kernel
theorem d_R_numberOf_281 : decode c_R_numberOf 281 = .ok (.bipush 32, 2) := by decide +kernel
theorem d_R_numberOf_283 : decode c_R_numberOf 283 = .ok (.ior, 1) := by decide +kernel
theorem d_R_numberOf_284 : decode c_R_numberOf 284 = .ok (.bipush 108, 2) := by decide +kernel
theorem d_R_numberOf_286 : decode c_R_numberOf 286 = .ok (.if_icmp .ne 47, 3) := by decide +kernel
theorem d_R_numberOf_289 : decode c_R_numberOf 289 = .ok (.iload 12, 2) := by decide +kernel
theorem d_R_numberOf_291 : decode c_R_numberOf 291 = .ok (.ifCond .ne 42, 3) := by decide +kernel
theorem d_R_numberOf_294 : decode c_R_numberOf 294 = .ok (.iload 5, 2) := by decide +kernel
theorem d_R_numberOf_296 : decode c_R_numberOf 296 = .ok (.iconst 1, 1) := by decide +kernel
theorem d_R_numberOf_297 : decode c_R_numberOf 297 = .ok (.iadd, 1) := by decide +kernel
theorem d_R_numberOf_298 : decode c_R_numberOf 298 = .ok (.iload_n 2, 1) := by decide +kernel
theorem d_R_numberOf_299 : decode c_R_numberOf 299 = .ok (.if_icmp .ge 21, 3) := by decide +kernel
theorem d_R_numberOf_302 : decode c_R_numberOf 302 = .ok (.aload_n 0, 1) := by decide +kernel
theorem d_R_numberOf_303 : decode c_R_numberOf 303 = .ok (.iload_n 1, 1) := by decide +kernel
theorem d_R_numberOf_304 : decode c_R_numberOf 304 = .ok (.iload 5, 2) := by decide +kernel
theorem d_R_numberOf_306 : decode c_R_numberOf 306 = .ok (.iconst 1, 1) := by decide +kernel
theorem d_R_numberOf_307 : decode c_R_numberOf 307 = .ok (.iadd, 1) := by decide +kernel
theorem d_R_numberOf_308 : decode c_R_numberOf 308 = .ok (.invokevirtual 82, 3) := by decide +kernel
theorem d_R_numberOf_311 : decode c_R_numberOf 311 = .ok (.iload 14, 2) := by decide +kernel
theorem d_R_numberOf_313 : decode c_R_numberOf 313 = .ok (.if_icmp .ne 7, 3) := by decide +kernel
theorem d_R_numberOf_316 : decode c_R_numberOf 316 = .ok (.iconst 2, 1) := by decide +kernel
theorem d_R_numberOf_317 : decode c_R_numberOf 317 = .ok (.goto 4, 3) := by decide +kernel
theorem d_R_numberOf_320 : decode c_R_numberOf 320 = .ok (.iconst 1, 1) := by decide +kernel
theorem d_R_numberOf_321 : decode c_R_numberOf 321 = .ok (.istore 12, 2) := by decide +kernel
theorem d_R_numberOf_323 : decode c_R_numberOf 323 = .ok (.iload 5, 2) := by decide +kernel
theorem d_R_numberOf_325 : decode c_R_numberOf 325 = .ok (.iload 12, 2) := by decide +kernel
theorem d_R_numberOf_327 : decode c_R_numberOf 327 = .ok (.iadd, 1) := by decide +kernel
theorem d_R_numberOf_328 : decode c_R_numberOf 328 = .ok (.istore 5, 2) := by decide +kernel
theorem d_R_numberOf_330 : decode c_R_numberOf 330 = .ok (.goto 6, 3) := by decide +kernel
theorem d_R_numberOf_333 : decode c_R_numberOf 333 = .ok (.iconst 0, 1) := by decide +kernel
theorem d_R_numberOf_334 : decode c_R_numberOf 334 = .ok (.istore 13, 2) := by decide +kernel
theorem d_R_numberOf_336 : decode c_R_numberOf 336 = .ok (.goto (-101), 3) := by decide +kernel
theorem d_R_numberOf_339 : decode c_R_numberOf 339 = .ok (.aload_n 0, 1) := by decide +kernel
theorem d_R_numberOf_340 : decode c_R_numberOf 340 = .ok (.iload 11, 2) := by decide +kernel
theorem d_R_numberOf_342 : decode c_R_numberOf 342 = .ok (.ifCond .ne 10, 3) := by decide +kernel
theorem d_R_numberOf_345 : decode c_R_numberOf 345 = .ok (.lload 7, 2) := by decide +kernel
theorem d_R_numberOf_347 : decode c_R_numberOf 347 = .ok (.lconst 0, 1) := by decide +kernel
theorem d_R_numberOf_348 : decode c_R_numberOf 348 = .ok (.lcmp, 1) := by decide +kernel
theorem d_R_numberOf_349 : decode c_R_numberOf 349 = .ok (.ifCond .ge 7, 3) := by decide +kernel
theorem d_R_numberOf_352 : decode c_R_numberOf 352 = .ok (.iconst 1, 1) := by decide +kernel
theorem d_R_numberOf_353 : decode c_R_numberOf 353 = .ok (.goto 4, 3) := by decide +kernel
theorem d_R_numberOf_356 : decode c_R_numberOf 356 = .ok (.iconst 0, 1) := by decide +kernel
theorem d_R_numberOf_357 : decode c_R_numberOf 357 = .ok (.putfield 121, 3) := by decide +kernel
theorem d_R_numberOf_360 : decode c_R_numberOf 360 = .ok (.aload_n 0, 1) := by decide +kernel
theorem d_R_numberOf_361 : decode c_R_numberOf 361 = .ok (.aload_n 0, 1) := by decide +kernel
theorem d_R_numberOf_362 : decode c_R_numberOf 362 = .ok (.getfield 105, 3) := by decide +kernel
theorem d_R_numberOf_365 : decode c_R_numberOf 365 = .ok (.ifCond .ne 37, 3) := by decide +kernel
theorem d_R_numberOf_368 : decode c_R_numberOf 368 = .ok (.iload 10, 2) := by decide +kernel
theorem d_R_numberOf_370 : decode c_R_numberOf 370 = .ok (.ifCond .ne 32, 3) := by decide +kernel
theorem d_R_numberOf_373 : decode c_R_numberOf 373 = .ok (.iload 13, 2) := by decide +kernel
theorem d_R_numberOf_375 : decode c_R_numberOf 375 = .ok (.ifCond .eq 27, 3) := by decide +kernel
theorem d_R_numberOf_378 : decode c_R_numberOf 378 = .ok (.iload 9, 2) := by decide +kernel
theorem d_R_numberOf_380 : decode c_R_numberOf 380 = .ok (.ifCond .ne 22, 3) := by decide +kernel
theorem d_R_numberOf_383 : decode c_R_numberOf 383 = .ok (.lload 7, 2) := by decide +kernel
theorem d_R_numberOf_385 : decode c_R_numberOf 385 = .ok (.lconst 0, 1) := by decide +kernel
theorem d_R_numberOf_386 : decode c_R_numberOf 386 = .ok (.lcmp, 1) := by decide +kernel
theorem d_R_numberOf_387 : decode c_R_numberOf 387 = .ok (.ifCond .ge 19, 3) := by decide +kernel
theorem d_R_numberOf_390 : decode c_R_numberOf 390 = .ok (.iload 11, 2) := by decide +kernel
theorem d_R_numberOf_392 : decode c_R_numberOf 392 = .ok (.ifCond .ne 14, 3) := by decide +kernel
theorem d_R_numberOf_395 : decode c_R_numberOf 395 = .ok (.iload 4, 2) := by decide +kernel
theorem d_R_numberOf_397 : decode c_R_numberOf 397 = .ok (.bipush 10, 2) := by decide +kernel
theorem d_R_numberOf_399 : decode c_R_numberOf 399 = .ok (.if_icmp .ne 7, 3) := by decide +kernel
theorem d_R_numberOf_402 : decode c_R_numberOf 402 = .ok (.iconst 1, 1) := by decide +kernel
theorem d_R_numberOf_403 : decode c_R_numberOf 403 = .ok (.goto 4, 3) := by decide +kernel
theorem d_R_numberOf_406 : decode c_R_numberOf 406 = .ok (.iconst 0, 1) := by decide +kernel
theorem d_R_numberOf_407 : decode c_R_numberOf 407 = .ok (.putfield 105, 3) := by decide +kernel
theorem d_R_numberOf_410 : decode c_R_numberOf 410 = .ok (.lload 7, 2) := by decide +kernel
theorem d_R_numberOf_412 : decode c_R_numberOf 412 = .ok (.lreturn, 1) := by decide +kernel
theorem d_R_characterOf_0 : decode c_R_characterOf 0 = .ok (.aload_n 0, 1) := by decide +kernel
theorem d_R_characterOf_1 : decode c_R_characterOf 1 = .ok (.getfield 17, 3) := by decide +kernel
theorem d_R_characterOf_4 : decode c_R_characterOf 4 = .ok (.iload_n 1, 1) := by decide +kernel
theorem d_R_characterOf_5 : decode c_R_characterOf 5 = .ok (.iaload, 1) := by decide +kernel
theorem d_R_characterOf_6 : decode c_R_characterOf 6 = .ok (.istore_n 2, 1) := by decide +kernel
theorem d_R_characterOf_7 : decode c_R_characterOf 7 = .ok (.iload_n 2, 1) := by decide +kernel
theorem d_R_characterOf_8 : decode c_R_characterOf 8 = .ok (.iconst 3, 1) := by decide +kernel
theorem d_R_characterOf_9 : decode c_R_characterOf 9 = .ok (.if_icmp .ne 29, 3) := by decide +kernel
theorem d_R_characterOf_12 : decode c_R_characterOf 12 = .ok (.aload_n 0, 1) := by decide +kernel
theorem d_R_characterOf_13 : decode c_R_characterOf 13 = .ok (.iload_n 1, 1) := by decide +kernel
theorem d_R_characterOf_14 : decode c_R_characterOf 14 = .ok (.iconst 0, 1) := by decide +kernel
theorem d_R_characterOf_15 : decode c_R_characterOf 15 = .ok (.invokevirtual 82, 3) := by decide +kernel
theorem d_R_characterOf_18 : decode c_R_characterOf 18 = .ok (.bipush 39, 2) := by decide +kernel
theorem d_R_characterOf_20 : decode c_R_characterOf 20 = .ok (.if_icmp .ne 18, 3) := by decide +kernel
theorem d_R_characterOf_23 : decode c_R_characterOf 23 = .ok (.aload_n 0, 1) := by decide +kernel
theorem d_R_characterOf_24 : decode c_R_characterOf 24 = .ok (.iload_n 1, 1) := by decide +kernel
theorem d_R_characterOf_25 : decode c_R_characterOf 25 = .ok (.iconst 1, 1) := by decide +kernel
theorem d_R_characterOf_26 : decode c_R_characterOf 26 = .ok (.invokevirtual 82, 3) := by decide +kernel
theorem d_R_characterOf_29 : decode c_R_characterOf 29 = .ok (.bipush 92, 2) := by decide +kernel
theorem d_R_characterOf_31 : decode c_R_characterOf 31 = .ok (.if_icmp .eq 7, 3) := by decide +kernel
theorem d_R_characterOf_34 : decode c_R_characterOf 34 = .ok (.iconst 1, 1) := by decide +kernel
theorem d_R_characterOf_35 : decode c_R_characterOf 35 = .ok (.goto 4, 3) := by decide +kernel
theorem d_R_characterOf_38 : decode c_R_characterOf 38 = .ok (.iconst 0, 1) := by decide +kernel
theorem d_R_characterOf_39 : decode c_R_characterOf 39 = .ok (.istore_n 3, 1) := by decide +kernel
theorem d_R_characterOf_40 : decode c_R_characterOf 40 = .ok (.iload_n 3, 1) := by decide +kernel
theorem d_R_characterOf_41 : decode c_R_characterOf 41 = .ok (.ifCond .eq 11, 3) := by decide +kernel
theorem d_R_characterOf_44 : decode c_R_characterOf 44 = .ok (.aload_n 0, 1) := by decide +kernel
theorem d_R_characterOf_45 : decode c_R_characterOf 45 = .ok (.iload_n 1, 1) := by decide +kernel
theorem d_R_characterOf_46 : decode c_R_characterOf 46 = .ok (.iconst 1, 1) := by decide +kernel
theorem d_R_characterOf_47 : decode c_R_characterOf 47 = .ok (.invokevirtual 82, 3) := by decide +kernel
theorem d_R_characterOf_50 : decode c_R_characterOf 50 = .ok (.i2l, 1) := by decide +kernel
theorem d_R_characterOf_51 : decode c_R_characterOf 51 = .ok (.lreturn, 1) := by decide +kernel
theorem d_R_characterOf_52 : decode c_R_characterOf 52 = .ok (.iload_n 2, 1) := by decide +kernel
theorem d_R_characterOf_53 : decode c_R_characterOf 53 = .ok (.iconst 4, 1) := by decide +kernel
theorem d_R_characterOf_54 : decode c_R_characterOf 54 = .ok (.if_icmp .ne 34, 3) := by decide +kernel
theorem d_R_characterOf_57 : decode c_R_characterOf 57 = .ok (.aload_n 0, 1) := by decide +kernel
theorem d_R_characterOf_58 : decode c_R_characterOf 58 = .ok (.iload_n 1, 1) := by decide +kernel
theorem d_R_characterOf_59 : decode c_R_characterOf 59 = .ok (.iconst 0, 1) := by decide +kernel
theorem d_R_characterOf_60 : decode c_R_characterOf 60 = .ok (.invokevirtual 82, 3) := by decide +kernel
theorem d_R_characterOf_63 : decode c_R_characterOf 63 = .ok (.bipush 39, 2) := by decide +kernel
theorem d_R_characterOf_65 : decode c_R_characterOf 65 = .ok (.if_icmp .ne 23, 3) := by decide +kernel
theorem d_R_characterOf_68 : decode c_R_characterOf 68 = .ok (.aload_n 0, 1) := by decide +kernel
theorem d_R_characterOf_69 : decode c_R_characterOf 69 = .ok (.iload_n 1, 1) := by decide +kernel
theorem d_R_characterOf_70 : decode c_R_characterOf 70 = .ok (.iconst 1, 1) := by decide +kernel
theorem d_R_characterOf_71 : decode c_R_characterOf 71 = .ok (.invokevirtual 82, 3) := by decide +kernel
theorem d_R_characterOf_74 : decode c_R_characterOf 74 = .ok (.bipush 92, 2) := by decide +kernel
theorem d_R_characterOf_76 : decode c_R_characterOf 76 = .ok (.if_icmp .ne 12, 3) := by decide +kernel
theorem d_R_characterOf_79 : decode c_R_characterOf 79 = .ok (.aload_n 0, 1) := by decide +kernel
theorem d_R_characterOf_80 : decode c_R_characterOf 80 = .ok (.iload_n 1, 1) := by decide +kernel
theorem d_R_characterOf_81 : decode c_R_characterOf 81 = .ok (.iconst 2, 1) := by decide +kernel
theorem d_R_characterOf_82 : decode c_R_characterOf 82 = .ok (.invokevirtual 82, 3) := by decide +kernel
theorem d_R_characterOf_85 : decode c_R_characterOf 85 = .ok (.goto 4, 3) := by decide +kernel
theorem d_R_characterOf_88 : decode c_R_characterOf 88 = .ok (.iconst (-1), 1) := by decide +kernel
theorem d_R_characterOf_89 : decode c_R_characterOf 89 = .ok (.istore 4, 2) := by decide +kernel
theorem d_R_characterOf_91 : decode c_R_characterOf 91 = .ok (.iload 4, 2) := by decide +kernel
theorem d_R_characterOf_93 : decode c_R_characterOf 93 = .ok (.lookupswitch 141 #[(34, 137), (39, 137), (48, 135), (63, 137), (92, 137), (97, 119), (98, 123), (102, 127), (110, 107), (114, 115), (116, 111), (118, 131)], 107) := by decide +kernel
theorem d_R_characterOf_200 : decode c_R_characterOf 200 = .ok (.ldc2_w 236, 3) := by decide +kernel
theorem d_R_characterOf_203 : decode c_R_characterOf 203 = .ok (.lreturn, 1) := by decide +kernel
theorem d_R_characterOf_204 : decode c_R_characterOf 204 = .ok (.ldc2_w 238, 3) := by decide +kernel
theorem d_R_characterOf_207 : decode c_R_characterOf 207 = .ok (.lreturn, 1) := by decide +kernel
theorem d_R_characterOf_208 : decode c_R_characterOf 208 = .ok (.ldc2_w 240, 3) := by decide +kernel
theorem d_R_characterOf_211 : decode c_R_characterOf 211 = .ok (.lreturn, 1) := by decide +kernel
theorem d_R_characterOf_212 : decode c_R_characterOf 212 = .ok (.ldc2_w 242, 3) := by decide +kernel
theorem d_R_characterOf_215 : decode c_R_characterOf 215 = .ok (.lreturn, 1) := by decide +kernel
theorem d_R_characterOf_216 : decode c_R_characterOf 216 = .ok (.ldc2_w 244, 3) := by decide +kernel
theorem d_R_characterOf_219 : decode c_R_characterOf 219 = .ok (.lreturn, 1) := by decide +kernel
theorem d_R_characterOf_220 : decode c_R_characterOf 220 = .ok (.ldc2_w 246, 3) := by decide +kernel
theorem d_R_characterOf_223 : decode c_R_characterOf 223 = .ok (.lreturn, 1) := by decide +kernel
theorem d_R_characterOf_224 : decode c_R_characterOf 224 = .ok (.ldc2_w 248, 3) := by decide +kernel
theorem d_R_characterOf_227 : decode c_R_characterOf 227 = .ok (.lreturn, 1) := by decide +kernel
theorem d_R_characterOf_228 : decode c_R_characterOf 228 = .ok (.lconst 0, 1) := by decide +kernel
theorem d_R_characterOf_229 : decode c_R_characterOf 229 = .ok (.lreturn, 1) := by decide +kernel
theorem d_R_characterOf_230 : decode c_R_characterOf 230 = .ok (.iload 4, 2) := by decide +kernel
theorem d_R_characterOf_232 : decode c_R_characterOf 232 = .ok (.i2l, 1) := by decide +kernel
theorem d_R_characterOf_233 : decode c_R_characterOf 233 = .ok (.lreturn, 1) := by decide +kernel
theorem d_R_characterOf_234 : decode c_R_characterOf 234 = .ok (.aload_n 0, 1) := by decide +kernel
theorem d_R_characterOf_235 : decode c_R_characterOf 235 = .ok (.iconst 1, 1) := by decide +kernel
theorem d_R_characterOf_236 : decode c_R_characterOf 236 = .ok (.putfield 105, 3) := by decide +kernel
theorem d_R_characterOf_239 : decode c_R_characterOf 239 = .ok (.lconst 0, 1) := by decide +kernel
theorem d_R_characterOf_240 : decode c_R_characterOf 240 = .ok (.lreturn, 1) := by decide +kernel
theorem d_R_feed_0 : decode c_R_feed 0 = .ok (.iload_n 3, 1) := by decide +kernel
theorem d_R_feed_1 : decode c_R_feed 1 = .ok (.iconst 1, 1) := by decide +kernel
theorem d_R_feed_2 : decode c_R_feed 2 = .ok (.if_icmp .lt 9, 3) := by decide +kernel
theorem d_R_feed_5 : decode c_R_feed 5 = .ok (.iload_n 3, 1) := by decide +kernel
theorem d_R_feed_6 : decode c_R_feed 6 = .ok (.bipush 8, 2) := by decide +kernel
theorem d_R_feed_8 : decode c_R_feed 8 = .ok (.if_icmp .le 5, 3) := by decide +kernel
theorem d_R_feed_11 : decode c_R_feed 11 = .ok (.iconst (-1), 1) := by decide +kernel
theorem d_R_feed_12 : decode c_R_feed 12 = .ok (.ireturn, 1) := by decide +kernel
theorem d_R_feed_13 : decode c_R_feed 13 = .ok (.aload_n 0, 1) := by decide +kernel
theorem d_R_feed_14 : decode c_R_feed 14 = .ok (.getfield 31, 3) := by decide +kernel
theorem d_R_feed_17 : decode c_R_feed 17 = .ok (.iload_n 3, 1) := by decide +kernel
theorem d_R_feed_18 : decode c_R_feed 18 = .ok (.iadd, 1) := by decide +kernel
theorem d_R_feed_19 : decode c_R_feed 19 = .ok (.sipush 4096, 3) := by decide +kernel
theorem d_R_feed_22 : decode c_R_feed 22 = .ok (.if_icmp .le 6, 3) := by decide +kernel
theorem d_R_feed_25 : decode c_R_feed 25 = .ok (.bipush (-2), 2) := by decide +kernel
theorem d_R_feed_27 : decode c_R_feed 27 = .ok (.ireturn, 1) := by decide +kernel
theorem d_R_feed_28 : decode c_R_feed 28 = .ok (.iconst 0, 1) := by decide +kernel
theorem d_R_feed_29 : decode c_R_feed 29 = .ok (.istore 4, 2) := by decide +kernel
theorem d_R_feed_31 : decode c_R_feed 31 = .ok (.iload 4, 2) := by decide +kernel
theorem d_R_feed_33 : decode c_R_feed 33 = .ok (.iload_n 3, 1) := by decide +kernel
theorem d_R_feed_34 : decode c_R_feed 34 = .ok (.if_icmp .ge 37, 3) := by decide +kernel
theorem d_R_feed_37 : decode c_R_feed 37 = .ok (.aload_n 0, 1) := by decide +kernel
theorem d_R_feed_38 : decode c_R_feed 38 = .ok (.getfield 9, 3) := by decide +kernel
theorem d_R_feed_41 : decode c_R_feed 41 = .ok (.aload_n 0, 1) := by decide +kernel
theorem d_R_feed_42 : decode c_R_feed 42 = .ok (.getfield 31, 3) := by decide +kernel
theorem d_R_feed_45 : decode c_R_feed 45 = .ok (.lload_n 1, 1) := by decide +kernel
theorem d_R_feed_46 : decode c_R_feed 46 = .ok (.bipush 8, 2) := by decide +kernel
theorem d_R_feed_48 : decode c_R_feed 48 = .ok (.iload 4, 2) := by decide +kernel
theorem d_R_feed_50 : decode c_R_feed 50 = .ok (.imul, 1) := by decide +kernel
theorem d_R_feed_51 : decode c_R_feed 51 = .ok (.lshr, 1) := by decide +kernel
theorem d_R_feed_52 : decode c_R_feed 52 = .ok (.l2i, 1) := by decide +kernel
theorem d_R_feed_53 : decode c_R_feed 53 = .ok (.i2b, 1) := by decide +kernel
theorem d_R_feed_54 : decode c_R_feed 54 = .ok (.bastore, 1) := by decide +kernel
theorem d_R_feed_55 : decode c_R_feed 55 = .ok (.aload_n 0, 1) := by decide +kernel
theorem d_R_feed_56 : decode c_R_feed 56 = .ok (.dup, 1) := by decide +kernel
theorem d_R_feed_57 : decode c_R_feed 57 = .ok (.getfield 31, 3) := by decide +kernel
theorem d_R_feed_60 : decode c_R_feed 60 = .ok (.iconst 1, 1) := by decide +kernel
theorem d_R_feed_61 : decode c_R_feed 61 = .ok (.iadd, 1) := by decide +kernel
theorem d_R_feed_62 : decode c_R_feed 62 = .ok (.putfield 31, 3) := by decide +kernel
theorem d_R_feed_65 : decode c_R_feed 65 = .ok (.iinc 4 1, 3) := by decide +kernel
theorem d_R_feed_68 : decode c_R_feed 68 = .ok (.goto (-37), 3) := by decide +kernel
theorem d_R_feed_71 : decode c_R_feed 71 = .ok (.aload_n 0, 1) := by decide +kernel
theorem d_R_feed_72 : decode c_R_feed 72 = .ok (.getfield 31, 3) := by decide +kernel
theorem d_R_feed_75 : decode c_R_feed 75 = .ok (.ireturn, 1) := by decide +kernel
theorem d_R_cut_0 : decode c_R_cut 0 = .ok (.iload_n 1, 1) := by decide +kernel
theorem d_R_cut_1 : decode c_R_cut 1 = .ok (.ifCond .lt 11, 3) := by decide +kernel
theorem d_R_cut_4 : decode c_R_cut 4 = .ok (.iload_n 1, 1) := by decide +kernel
theorem d_R_cut_5 : decode c_R_cut 5 = .ok (.aload_n 0, 1) := by decide +kernel
theorem d_R_cut_6 : decode c_R_cut 6 = .ok (.getfield 31, 3) := by decide +kernel
theorem d_R_cut_9 : decode c_R_cut 9 = .ok (.if_icmp .le 5, 3) := by decide +kernel
theorem d_R_cut_12 : decode c_R_cut 12 = .ok (.iconst (-1), 1) := by decide +kernel
theorem d_R_cut_13 : decode c_R_cut 13 = .ok (.ireturn, 1) := by decide +kernel
theorem d_R_cut_14 : decode c_R_cut 14 = .ok (.aload_n 0, 1) := by decide +kernel
theorem d_R_cut_15 : decode c_R_cut 15 = .ok (.getfield 31, 3) := by decide +kernel
theorem d_R_cut_18 : decode c_R_cut 18 = .ok (.iload_n 1, 1) := by decide +kernel
theorem d_R_cut_19 : decode c_R_cut 19 = .ok (.isub, 1) := by decide +kernel
theorem d_R_cut_20 : decode c_R_cut 20 = .ok (.istore_n 2, 1) := by decide +kernel
theorem d_R_cut_21 : decode c_R_cut 21 = .ok (.aload_n 0, 1) := by decide +kernel
theorem d_R_cut_22 : decode c_R_cut 22 = .ok (.iload_n 1, 1) := by decide +kernel
theorem d_R_cut_23 : decode c_R_cut 23 = .ok (.putfield 31, 3) := by decide +kernel
theorem d_R_cut_26 : decode c_R_cut 26 = .ok (.iload_n 2, 1) := by decide +kernel
theorem d_R_cut_27 : decode c_R_cut 27 = .ok (.ireturn, 1) := by decide +kernel
theorem d_R_tokens_0 : decode c_R_tokens 0 = .ok (.aload_n 0, 1) := by decide +kernel
theorem d_R_tokens_1 : decode c_R_tokens 1 = .ok (.invokevirtual 87, 3) := by decide +kernel
theorem d_R_tokens_4 : decode c_R_tokens 4 = .ok (.aload_n 0, 1) := by decide +kernel
theorem d_R_tokens_5 : decode c_R_tokens 5 = .ok (.getfield 73, 3) := by decide +kernel
theorem d_R_tokens_8 : decode c_R_tokens 8 = .ok (.ireturn, 1) := by decide +kernel
theorem d_R_token_0 : decode c_R_token 0 = .ok (.aload_n 0, 1) := by decide +kernel
theorem d_R_token_1 : decode c_R_token 1 = .ok (.invokevirtual 87, 3) := by decide +kernel
theorem d_R_token_4 : decode c_R_token 4 = .ok (.iload_n 1, 1) := by decide +kernel
theorem d_R_token_5 : decode c_R_token 5 = .ok (.ifCond .lt 20, 3) := by decide +kernel
theorem d_R_token_8 : decode c_R_token 8 = .ok (.iload_n 1, 1) := by decide +kernel
theorem d_R_token_9 : decode c_R_token 9 = .ok (.aload_n 0, 1) := by decide +kernel
theorem d_R_token_10 : decode c_R_token 10 = .ok (.getfield 73, 3) := by decide +kernel
theorem d_R_token_13 : decode c_R_token 13 = .ok (.if_icmp .ge 12, 3) := by decide +kernel
theorem d_R_token_16 : decode c_R_token 16 = .ok (.iload_n 2, 1) := by decide +kernel
theorem d_R_token_17 : decode c_R_token 17 = .ok (.ifCond .lt 8, 3) := by decide +kernel
theorem d_R_token_20 : decode c_R_token 20 = .ok (.iload_n 2, 1) := by decide +kernel
theorem d_R_token_21 : decode c_R_token 21 = .ok (.iconst 2, 1) := by decide +kernel
theorem d_R_token_22 : decode c_R_token 22 = .ok (.if_icmp .le 5, 3) := by decide +kernel
theorem d_R_token_25 : decode c_R_token 25 = .ok (.iconst (-1), 1) := by decide +kernel
theorem d_R_token_26 : decode c_R_token 26 = .ok (.ireturn, 1) := by decide +kernel
theorem d_R_token_27 : decode c_R_token 27 = .ok (.iload_n 2, 1) := by decide +kernel
theorem d_R_token_28 : decode c_R_token 28 = .ok (.ifCond .ne 12, 3) := by decide +kernel
theorem d_R_token_31 : decode c_R_token 31 = .ok (.aload_n 0, 1) := by decide +kernel
theorem d_R_token_32 : decode c_R_token 32 = .ok (.getfield 13, 3) := by decide +kernel
theorem d_R_token_35 : decode c_R_token 35 = .ok (.iload_n 1, 1) := by decide +kernel
theorem d_R_token_36 : decode c_R_token 36 = .ok (.iaload, 1) := by decide +kernel
theorem d_R_token_37 : decode c_R_token 37 = .ok (.goto 22, 3) := by decide +kernel
theorem d_R_token_40 : decode c_R_token 40 = .ok (.iload_n 2, 1) := by decide +kernel
theorem d_R_token_41 : decode c_R_token 41 = .ok (.iconst 1, 1) := by decide +kernel
theorem d_R_token_42 : decode c_R_token 42 = .ok (.if_icmp .ne 12, 3) := by decide +kernel
theorem d_R_token_45 : decode c_R_token 45 = .ok (.aload_n 0, 1) := by decide +kernel
theorem d_R_token_46 : decode c_R_token 46 = .ok (.getfield 17, 3) := by decide +kernel
theorem d_R_token_49 : decode c_R_token 49 = .ok (.iload_n 1, 1) := by decide +kernel
theorem d_R_token_50 : decode c_R_token 50 = .ok (.iaload, 1) := by decide +kernel
theorem d_R_token_51 : decode c_R_token 51 = .ok (.goto 8, 3) := by decide +kernel
theorem d_R_token_54 : decode c_R_token 54 = .ok (.aload_n 0, 1) := by decide +kernel
theorem d_R_token_55 : decode c_R_token 55 = .ok (.iload_n 1, 1) := by decide +kernel
theorem d_R_token_56 : decode c_R_token 56 = .ok (.invokevirtual 90, 3) := by decide +kernel
theorem d_R_token_59 : decode c_R_token 59 = .ok (.ireturn, 1) := by decide +kernel
theorem d_R_value_0 : decode c_R_value 0 = .ok (.aload_n 0, 1) := by decide +kernel
theorem d_R_value_1 : decode c_R_value 1 = .ok (.getfield 94, 3) := by decide +kernel
theorem d_R_value_4 : decode c_R_value 4 = .ok (.lreturn, 1) := by decide +kernel
theorem d_R_isPlain_0 : decode c_R_isPlain 0 = .ok (.aload_n 0, 1) := by decide +kernel
theorem d_R_isPlain_1 : decode c_R_isPlain 1 = .ok (.getfield 98, 3) := by decide +kernel
theorem d_R_isPlain_4 : decode c_R_isPlain 4 = .ok (.ireturn, 1) := by decide +kernel
