theorem d_T_at_0 : decode c_T_at 0 = .ok (.iload_n 1, 1) := by decide +kernel
theorem d_T_at_1 : decode c_T_at 1 = .ok (.ifCond .lt 18, 3) := by decide +kernel
theorem d_T_at_4 : decode c_T_at 4 = .ok (.iload_n 1, 1) := by decide +kernel
theorem d_T_at_5 : decode c_T_at 5 = .ok (.aload_n 0, 1) := by decide +kernel
theorem d_T_at_6 : decode c_T_at 6 = .ok (.getfield 15, 3) := by decide +kernel
theorem d_T_at_9 : decode c_T_at 9 = .ok (.if_icmp .ge 10, 3) := by decide +kernel
theorem d_T_at_12 : decode c_T_at 12 = .ok (.iload_n 1, 1) := by decide +kernel
theorem d_T_at_13 : decode c_T_at 13 = .ok (.sipush 4096, 3) := by decide +kernel
theorem d_T_at_16 : decode c_T_at 16 = .ok (.if_icmp .lt 7, 3) := by decide +kernel
theorem d_T_at_19 : decode c_T_at 19 = .ok (.iconst (-1), 1) := by decide +kernel
theorem d_T_at_20 : decode c_T_at 20 = .ok (.goto 13, 3) := by decide +kernel
theorem d_T_at_23 : decode c_T_at 23 = .ok (.aload_n 0, 1) := by decide +kernel
theorem d_T_at_24 : decode c_T_at 24 = .ok (.getfield 9, 3) := by decide +kernel
theorem d_T_at_27 : decode c_T_at 27 = .ok (.iload_n 1, 1) := by decide +kernel
theorem d_T_at_28 : decode c_T_at 28 = .ok (.baload, 1) := by decide +kernel
theorem d_T_at_29 : decode c_T_at 29 = .ok (.sipush 255, 3) := by decide +kernel
theorem d_T_at_32 : decode c_T_at 32 = .ok (.iand, 1) := by decide +kernel
theorem d_T_at_33 : decode c_T_at 33 = .ok (.ireturn, 1) := by decide +kernel
theorem d_T_append_0 : decode c_T_append 0 = .ok (.iconst 0, 1) := by decide +kernel
theorem d_T_append_1 : decode c_T_append 1 = .ok (.istore 4, 2) := by decide +kernel
theorem d_T_append_3 : decode c_T_append 3 = .ok (.iload 4, 2) := by decide +kernel
theorem d_T_append_5 : decode c_T_append 5 = .ok (.iload_n 3, 1) := by decide +kernel
theorem d_T_append_6 : decode c_T_append 6 = .ok (.if_icmp .ge 47, 3) := by decide +kernel
theorem d_T_append_9 : decode c_T_append 9 = .ok (.aload_n 0, 1) := by decide +kernel
theorem d_T_append_10 : decode c_T_append 10 = .ok (.getfield 15, 3) := by decide +kernel
theorem d_T_append_13 : decode c_T_append 13 = .ok (.sipush 4096, 3) := by decide +kernel
theorem d_T_append_16 : decode c_T_append 16 = .ok (.if_icmp .ge 37, 3) := by decide +kernel
theorem d_T_append_19 : decode c_T_append 19 = .ok (.aload_n 0, 1) := by decide +kernel
theorem d_T_append_20 : decode c_T_append 20 = .ok (.getfield 9, 3) := by decide +kernel
theorem d_T_append_23 : decode c_T_append 23 = .ok (.aload_n 0, 1) := by decide +kernel
theorem d_T_append_24 : decode c_T_append 24 = .ok (.getfield 15, 3) := by decide +kernel
theorem d_T_append_27 : decode c_T_append 27 = .ok (.lload_n 1, 1) := by decide +kernel
theorem d_T_append_28 : decode c_T_append 28 = .ok (.bipush 8, 2) := by decide +kernel
theorem d_T_append_30 : decode c_T_append 30 = .ok (.iload 4, 2) := by decide +kernel
theorem d_T_append_32 : decode c_T_append 32 = .ok (.imul, 1) := by decide +kernel
theorem d_T_append_33 : decode c_T_append 33 = .ok (.lushr, 1) := by decide +kernel
theorem d_T_append_34 : decode c_T_append 34 = .ok (.l2i, 1) := by decide +kernel
theorem d_T_append_35 : decode c_T_append 35 = .ok (.i2b, 1) := by decide +kernel
theorem d_T_append_36 : decode c_T_append 36 = .ok (.bastore, 1) := by decide +kernel
theorem d_T_append_37 : decode c_T_append 37 = .ok (.aload_n 0, 1) := by decide +kernel
theorem d_T_append_38 : decode c_T_append 38 = .ok (.dup, 1) := by decide +kernel
theorem d_T_append_39 : decode c_T_append 39 = .ok (.getfield 15, 3) := by decide +kernel
theorem d_T_append_42 : decode c_T_append 42 = .ok (.iconst 1, 1) := by decide +kernel
theorem d_T_append_43 : decode c_T_append 43 = .ok (.iadd, 1) := by decide +kernel
theorem d_T_append_44 : decode c_T_append 44 = .ok (.putfield 15, 3) := by decide +kernel
theorem d_T_append_47 : decode c_T_append 47 = .ok (.iinc 4 1, 3) := by decide +kernel
theorem d_T_append_50 : decode c_T_append 50 = .ok (.goto (-47), 3) := by decide +kernel
theorem d_T_append_53 : decode c_T_append 53 = .ok (.return_, 1) := by decide +kernel
theorem d_W_isBlank_0 : decode c_W_isBlank 0 = .ok (.iload_n 0, 1) := by decide +kernel
theorem d_W_isBlank_1 : decode c_W_isBlank 1 = .ok (.bipush 32, 2) := by decide +kernel
theorem d_W_isBlank_3 : decode c_W_isBlank 3 = .ok (.if_icmp .eq 15, 3) := by decide +kernel
theorem d_W_isBlank_6 : decode c_W_isBlank 6 = .ok (.iload_n 0, 1) := by decide +kernel
theorem d_W_isBlank_7 : decode c_W_isBlank 7 = .ok (.bipush 9, 2) := by decide +kernel
theorem d_W_isBlank_9 : decode c_W_isBlank 9 = .ok (.if_icmp .lt 13, 3) := by decide +kernel
theorem d_W_isBlank_12 : decode c_W_isBlank 12 = .ok (.iload_n 0, 1) := by decide +kernel
theorem d_W_isBlank_13 : decode c_W_isBlank 13 = .ok (.bipush 13, 2) := by decide +kernel
theorem d_W_isBlank_15 : decode c_W_isBlank 15 = .ok (.if_icmp .gt 7, 3) := by decide +kernel
theorem d_W_isBlank_18 : decode c_W_isBlank 18 = .ok (.iconst 1, 1) := by decide +kernel
theorem d_W_isBlank_19 : decode c_W_isBlank 19 = .ok (.goto 4, 3) := by decide +kernel
theorem d_W_isBlank_22 : decode c_W_isBlank 22 = .ok (.iconst 0, 1) := by decide +kernel
theorem d_W_isBlank_23 : decode c_W_isBlank 23 = .ok (.ireturn, 1) := by decide +kernel
theorem d_W_isDigit_0 : decode c_W_isDigit 0 = .ok (.iload_n 0, 1) := by decide +kernel
theorem d_W_isDigit_1 : decode c_W_isDigit 1 = .ok (.bipush 48, 2) := by decide +kernel
theorem d_W_isDigit_3 : decode c_W_isDigit 3 = .ok (.if_icmp .lt 13, 3) := by decide +kernel
theorem d_W_isDigit_6 : decode c_W_isDigit 6 = .ok (.iload_n 0, 1) := by decide +kernel
theorem d_W_isDigit_7 : decode c_W_isDigit 7 = .ok (.bipush 57, 2) := by decide +kernel
theorem d_W_isDigit_9 : decode c_W_isDigit 9 = .ok (.if_icmp .gt 7, 3) := by decide +kernel
theorem d_W_isDigit_12 : decode c_W_isDigit 12 = .ok (.iconst 1, 1) := by decide +kernel
theorem d_W_isDigit_13 : decode c_W_isDigit 13 = .ok (.goto 4, 3) := by decide +kernel
theorem d_W_isDigit_16 : decode c_W_isDigit 16 = .ok (.iconst 0, 1) := by decide +kernel
theorem d_W_isDigit_17 : decode c_W_isDigit 17 = .ok (.ireturn, 1) := by decide +kernel
theorem d_W_isLetter_0 : decode c_W_isLetter 0 = .ok (.iload_n 0, 1) := by decide +kernel
theorem d_W_isLetter_1 : decode c_W_isLetter 1 = .ok (.bipush 97, 2) := by decide +kernel
theorem d_W_isLetter_3 : decode c_W_isLetter 3 = .ok (.if_icmp .lt 9, 3) := by decide +kernel
theorem d_W_isLetter_6 : decode c_W_isLetter 6 = .ok (.iload_n 0, 1) := by decide +kernel
theorem d_W_isLetter_7 : decode c_W_isLetter 7 = .ok (.bipush 122, 2) := by decide +kernel
theorem d_W_isLetter_9 : decode c_W_isLetter 9 = .ok (.if_icmp .le 21, 3) := by decide +kernel
theorem d_W_isLetter_12 : decode c_W_isLetter 12 = .ok (.iload_n 0, 1) := by decide +kernel
theorem d_W_isLetter_13 : decode c_W_isLetter 13 = .ok (.bipush 65, 2) := by decide +kernel
theorem d_W_isLetter_15 : decode c_W_isLetter 15 = .ok (.if_icmp .lt 9, 3) := by decide +kernel
theorem d_W_isLetter_18 : decode c_W_isLetter 18 = .ok (.iload_n 0, 1) := by decide +kernel
theorem d_W_isLetter_19 : decode c_W_isLetter 19 = .ok (.bipush 90, 2) := by decide +kernel
theorem d_W_isLetter_21 : decode c_W_isLetter 21 = .ok (.if_icmp .le 9, 3) := by decide +kernel
theorem d_W_isLetter_24 : decode c_W_isLetter 24 = .ok (.iload_n 0, 1) := by decide +kernel
theorem d_W_isLetter_25 : decode c_W_isLetter 25 = .ok (.bipush 95, 2) := by decide +kernel
theorem d_W_isLetter_27 : decode c_W_isLetter 27 = .ok (.if_icmp .ne 7, 3) := by decide +kernel
theorem d_W_isLetter_30 : decode c_W_isLetter 30 = .ok (.iconst 1, 1) := by decide +kernel
theorem d_W_isLetter_31 : decode c_W_isLetter 31 = .ok (.goto 4, 3) := by decide +kernel
theorem d_W_isLetter_34 : decode c_W_isLetter 34 = .ok (.iconst 0, 1) := by decide +kernel
theorem d_W_isLetter_35 : decode c_W_isLetter 35 = .ok (.ireturn, 1) := by decide +kernel
theorem d_W_take_0 : decode c_W_take 0 = .ok (.aload_n 0, 1) := by decide +kernel
theorem d_W_take_1 : decode c_W_take 1 = .ok (.iload_n 1, 1) := by decide +kernel
theorem d_W_take_2 : decode c_W_take 2 = .ok (.putfield 22, 3) := by decide +kernel
theorem d_W_take_5 : decode c_W_take 5 = .ok (.aload_n 0, 1) := by decide +kernel
theorem d_W_take_6 : decode c_W_take 6 = .ok (.iload_n 2, 1) := by decide +kernel
theorem d_W_take_7 : decode c_W_take 7 = .ok (.putfield 19, 3) := by decide +kernel
theorem d_W_take_10 : decode c_W_take 10 = .ok (.return_, 1) := by decide +kernel
theorem d_W_goesOnNumber_0 : decode c_W_goesOnNumber 0 = .ok (.iload_n 1, 1) := by decide +kernel
theorem d_W_goesOnNumber_1 : decode c_W_goesOnNumber 1 = .ok (.bipush 43, 2) := by decide +kernel
theorem d_W_goesOnNumber_3 : decode c_W_goesOnNumber 3 = .ok (.if_icmp .eq 9, 3) := by decide +kernel
theorem d_W_goesOnNumber_6 : decode c_W_goesOnNumber 6 = .ok (.iload_n 1, 1) := by decide +kernel
theorem d_W_goesOnNumber_7 : decode c_W_goesOnNumber 7 = .ok (.bipush 45, 2) := by decide +kernel
theorem d_W_goesOnNumber_9 : decode c_W_goesOnNumber 9 = .ok (.if_icmp .ne 33, 3) := by decide +kernel
theorem d_W_goesOnNumber_12 : decode c_W_goesOnNumber 12 = .ok (.iload_n 0, 1) := by decide +kernel
theorem d_W_goesOnNumber_13 : decode c_W_goesOnNumber 13 = .ok (.bipush 101, 2) := by decide +kernel
theorem d_W_goesOnNumber_15 : decode c_W_goesOnNumber 15 = .ok (.if_icmp .eq 21, 3) := by decide +kernel
theorem d_W_goesOnNumber_18 : decode c_W_goesOnNumber 18 = .ok (.iload_n 0, 1) := by decide +kernel
theorem d_W_goesOnNumber_19 : decode c_W_goesOnNumber 19 = .ok (.bipush 69, 2) := by decide +kernel
theorem d_W_goesOnNumber_21 : decode c_W_goesOnNumber 21 = .ok (.if_icmp .eq 15, 3) := by decide +kernel
theorem d_W_goesOnNumber_24 : decode c_W_goesOnNumber 24 = .ok (.iload_n 0, 1) := by decide +kernel
theorem d_W_goesOnNumber_25 : decode c_W_goesOnNumber 25 = .ok (.bipush 112, 2) := by decide +kernel
theorem d_W_goesOnNumber_27 : decode c_W_goesOnNumber 27 = .ok (.if_icmp .eq 9, 3) := by decide +kernel
theorem d_W_goesOnNumber_30 : decode c_W_goesOnNumber 30 = .ok (.iload_n 0, 1) := by decide +kernel
theorem d_W_goesOnNumber_31 : decode c_W_goesOnNumber 31 = .ok (.bipush 80, 2) := by decide +kernel
theorem d_W_goesOnNumber_33 : decode c_W_goesOnNumber 33 = .ok (.if_icmp .ne 7, 3) := by decide +kernel
theorem d_W_goesOnNumber_36 : decode c_W_goesOnNumber 36 = .ok (.iconst 1, 1) := by decide +kernel
theorem d_W_goesOnNumber_37 : decode c_W_goesOnNumber 37 = .ok (.goto 4, 3) := by decide +kernel
theorem d_W_goesOnNumber_40 : decode c_W_goesOnNumber 40 = .ok (.iconst 0, 1) := by decide +kernel
theorem d_W_goesOnNumber_41 : decode c_W_goesOnNumber 41 = .ok (.ireturn, 1) := by decide +kernel
theorem d_W_goesOnNumber_42 : decode c_W_goesOnNumber 42 = .ok (.iload_n 1, 1) := by decide +kernel
theorem d_W_goesOnNumber_43 : decode c_W_goesOnNumber 43 = .ok (.invokestatic 68, 3) := by decide +kernel
theorem d_W_goesOnNumber_46 : decode c_W_goesOnNumber 46 = .ok (.ifCond .ne 16, 3) := by decide +kernel
theorem d_W_goesOnNumber_49 : decode c_W_goesOnNumber 49 = .ok (.iload_n 1, 1) := by decide +kernel
theorem d_W_goesOnNumber_50 : decode c_W_goesOnNumber 50 = .ok (.invokestatic 65, 3) := by decide +kernel
theorem d_W_goesOnNumber_53 : decode c_W_goesOnNumber 53 = .ok (.ifCond .ne 9, 3) := by decide +kernel
theorem d_W_goesOnNumber_56 : decode c_W_goesOnNumber 56 = .ok (.iload_n 1, 1) := by decide +kernel
theorem d_W_goesOnNumber_57 : decode c_W_goesOnNumber 57 = .ok (.bipush 46, 2) := by decide +kernel
theorem d_W_goesOnNumber_59 : decode c_W_goesOnNumber 59 = .ok (.if_icmp .ne 7, 3) := by decide +kernel
theorem d_W_goesOnNumber_62 : decode c_W_goesOnNumber 62 = .ok (.iconst 1, 1) := by decide +kernel
theorem d_W_goesOnNumber_63 : decode c_W_goesOnNumber 63 = .ok (.goto 4, 3) := by decide +kernel
theorem d_W_goesOnNumber_66 : decode c_W_goesOnNumber 66 = .ok (.iconst 0, 1) := by decide +kernel
theorem d_W_goesOnNumber_67 : decode c_W_goesOnNumber 67 = .ok (.ireturn, 1) := by decide +kernel
theorem d_W_isTriple_0 : decode c_W_isTriple 0 = .ok (.iload_n 0, 1) := by decide +kernel
theorem d_W_isTriple_1 : decode c_W_isTriple 1 = .ok (.iload_n 1, 1) := by decide +kernel
theorem d_W_isTriple_2 : decode c_W_isTriple 2 = .ok (.if_icmp .eq 5, 3) := by decide +kernel
theorem d_W_isTriple_5 : decode c_W_isTriple 5 = .ok (.iconst 0, 1) := by decide +kernel
theorem d_W_isTriple_6 : decode c_W_isTriple 6 = .ok (.ireturn, 1) := by decide +kernel
theorem d_W_isTriple_7 : decode c_W_isTriple 7 = .ok (.iload_n 0, 1) := by decide +kernel
theorem d_W_isTriple_8 : decode c_W_isTriple 8 = .ok (.bipush 46, 2) := by decide +kernel
theorem d_W_isTriple_10 : decode c_W_isTriple 10 = .ok (.if_icmp .ne 17, 3) := by decide +kernel
theorem d_W_isTriple_13 : decode c_W_isTriple 13 = .ok (.iload_n 2, 1) := by decide +kernel
theorem d_W_isTriple_14 : decode c_W_isTriple 14 = .ok (.bipush 46, 2) := by decide +kernel
theorem d_W_isTriple_16 : decode c_W_isTriple 16 = .ok (.if_icmp .ne 7, 3) := by decide +kernel
theorem d_W_isTriple_19 : decode c_W_isTriple 19 = .ok (.iconst 1, 1) := by decide +kernel
theorem d_W_isTriple_20 : decode c_W_isTriple 20 = .ok (.goto 30, 3) := by decide +kernel
theorem d_W_isTriple_23 : decode c_W_isTriple 23 = .ok (.iconst 0, 1) := by decide +kernel
theorem d_W_isTriple_24 : decode c_W_isTriple 24 = .ok (.goto 26, 3) := by decide +kernel
theorem d_W_isTriple_27 : decode c_W_isTriple 27 = .ok (.iload_n 0, 1) := by decide +kernel
theorem d_W_isTriple_28 : decode c_W_isTriple 28 = .ok (.bipush 60, 2) := by decide +kernel
theorem d_W_isTriple_30 : decode c_W_isTriple 30 = .ok (.if_icmp .eq 9, 3) := by decide +kernel
theorem d_W_isTriple_33 : decode c_W_isTriple 33 = .ok (.iload_n 0, 1) := by decide +kernel
theorem d_W_isTriple_34 : decode c_W_isTriple 34 = .ok (.bipush 62, 2) := by decide +kernel
theorem d_W_isTriple_36 : decode c_W_isTriple 36 = .ok (.if_icmp .ne 13, 3) := by decide +kernel
theorem d_W_isTriple_39 : decode c_W_isTriple 39 = .ok (.iload_n 2, 1) := by decide +kernel
theorem d_W_isTriple_40 : decode c_W_isTriple 40 = .ok (.bipush 61, 2) := by decide +kernel
theorem d_W_isTriple_42 : decode c_W_isTriple 42 = .ok (.if_icmp .ne 7, 3) := by decide +kernel
theorem d_W_isTriple_45 : decode c_W_isTriple 45 = .ok (.iconst 1, 1) := by decide +kernel
theorem d_W_isTriple_46 : decode c_W_isTriple 46 = .ok (.goto 4, 3) := by decide +kernel
theorem d_W_isTriple_49 : decode c_W_isTriple 49 = .ok (.iconst 0, 1) := by decide +kernel
theorem d_W_isTriple_50 : decode c_W_isTriple 50 = .ok (.ireturn, 1) := by decide +kernel
theorem d_W_isPair_0 : decode c_W_isPair 0 = .ok (.iload_n 0, 1) := by decide +kernel
theorem d_W_isPair_1 : decode c_W_isPair 1 = .ok (.lookupswitch 180 #[(33, 156), (35, 168), (37, 156), (38, 139), (42, 156), (43, 139), (45, 115), (47, 156), (60, 139), (61, 156), (62, 139), (94, 156), (124, 139)], 115) := by decide +kernel
theorem d_W_isPair_116 : decode c_W_isPair 116 = .ok (.iload_n 1, 1) := by decide +kernel
theorem d_W_isPair_117 : decode c_W_isPair 117 = .ok (.bipush 62, 2) := by decide +kernel
theorem d_W_isPair_119 : decode c_W_isPair 119 = .ok (.if_icmp .eq 15, 3) := by decide +kernel
theorem d_W_isPair_122 : decode c_W_isPair 122 = .ok (.iload_n 1, 1) := by decide +kernel
theorem d_W_isPair_123 : decode c_W_isPair 123 = .ok (.bipush 45, 2) := by decide +kernel
theorem d_W_isPair_125 : decode c_W_isPair 125 = .ok (.if_icmp .eq 9, 3) := by decide +kernel
theorem d_W_isPair_128 : decode c_W_isPair 128 = .ok (.iload_n 1, 1) := by decide +kernel
theorem d_W_isPair_129 : decode c_W_isPair 129 = .ok (.bipush 61, 2) := by decide +kernel
theorem d_W_isPair_131 : decode c_W_isPair 131 = .ok (.if_icmp .ne 7, 3) := by decide +kernel
theorem d_W_isPair_134 : decode c_W_isPair 134 = .ok (.iconst 1, 1) := by decide +kernel
theorem d_W_isPair_135 : decode c_W_isPair 135 = .ok (.goto 4, 3) := by decide +kernel
theorem d_W_isPair_138 : decode c_W_isPair 138 = .ok (.iconst 0, 1) := by decide +kernel
theorem d_W_isPair_139 : decode c_W_isPair 139 = .ok (.ireturn, 1) := by decide +kernel
theorem d_W_isPair_140 : decode c_W_isPair 140 = .ok (.iload_n 1, 1) := by decide +kernel
theorem d_W_isPair_141 : decode c_W_isPair 141 = .ok (.iload_n 0, 1) := by decide +kernel
theorem d_W_isPair_142 : decode c_W_isPair 142 = .ok (.if_icmp .eq 9, 3) := by decide +kernel
theorem d_W_isPair_145 : decode c_W_isPair 145 = .ok (.iload_n 1, 1) := by decide +kernel
theorem d_W_isPair_146 : decode c_W_isPair 146 = .ok (.bipush 61, 2) := by decide +kernel
theorem d_W_isPair_148 : decode c_W_isPair 148 = .ok (.if_icmp .ne 7, 3) := by decide +kernel
theorem d_W_isPair_151 : decode c_W_isPair 151 = .ok (.iconst 1, 1) := by decide +kernel
theorem d_W_isPair_152 : decode c_W_isPair 152 = .ok (.goto 4, 3) := by decide +kernel
theorem d_W_isPair_155 : decode c_W_isPair 155 = .ok (.iconst 0, 1) := by decide +kernel
theorem d_W_isPair_156 : decode c_W_isPair 156 = .ok (.ireturn, 1) := by decide +kernel
theorem d_W_isPair_157 : decode c_W_isPair 157 = .ok (.iload_n 1, 1) := by decide +kernel
theorem d_W_isPair_158 : decode c_W_isPair 158 = .ok (.bipush 61, 2) := by decide +kernel
theorem d_W_isPair_160 : decode c_W_isPair 160 = .ok (.if_icmp .ne 7, 3) := by decide +kernel
theorem d_W_isPair_163 : decode c_W_isPair 163 = .ok (.iconst 1, 1) := by decide +kernel
theorem d_W_isPair_164 : decode c_W_isPair 164 = .ok (.goto 4, 3) := by decide +kernel
theorem d_W_isPair_167 : decode c_W_isPair 167 = .ok (.iconst 0, 1) := by decide +kernel
theorem d_W_isPair_168 : decode c_W_isPair 168 = .ok (.ireturn, 1) := by decide +kernel
theorem d_W_isPair_169 : decode c_W_isPair 169 = .ok (.iload_n 1, 1) := by decide +kernel
theorem d_W_isPair_170 : decode c_W_isPair 170 = .ok (.bipush 35, 2) := by decide +kernel
theorem d_W_isPair_172 : decode c_W_isPair 172 = .ok (.if_icmp .ne 7, 3) := by decide +kernel
theorem d_W_isPair_175 : decode c_W_isPair 175 = .ok (.iconst 1, 1) := by decide +kernel
theorem d_W_isPair_176 : decode c_W_isPair 176 = .ok (.goto 4, 3) := by decide +kernel
theorem d_W_isPair_179 : decode c_W_isPair 179 = .ok (.iconst 0, 1) := by decide +kernel
theorem d_W_isPair_180 : decode c_W_isPair 180 = .ok (.ireturn, 1) := by decide +kernel
theorem d_W_isPair_181 : decode c_W_isPair 181 = .ok (.iconst 0, 1) := by decide +kernel
theorem d_W_isPair_182 : decode c_W_isPair 182 = .ok (.ireturn, 1) := by decide +kernel
theorem d_W_restart_0 : decode c_W_restart 0 = .ok (.aload_n 0, 1) := by decide +kernel
theorem d_W_restart_1 : decode c_W_restart 1 = .ok (.iconst 0, 1) := by decide +kernel
theorem d_W_restart_2 : decode c_W_restart 2 = .ok (.putfield 15, 3) := by decide +kernel
theorem d_W_restart_5 : decode c_W_restart 5 = .ok (.aload_n 0, 1) := by decide +kernel
theorem d_W_restart_6 : decode c_W_restart 6 = .ok (.iconst 0, 1) := by decide +kernel
theorem d_W_restart_7 : decode c_W_restart 7 = .ok (.putfield 19, 3) := by decide +kernel
theorem d_W_restart_10 : decode c_W_restart 10 = .ok (.aload_n 0, 1) := by decide +kernel
theorem d_W_restart_11 : decode c_W_restart 11 = .ok (.bipush 6, 2) := by decide +kernel
theorem d_W_restart_13 : decode c_W_restart 13 = .ok (.putfield 22, 3) := by decide +kernel
theorem d_W_restart_16 : decode c_W_restart 16 = .ok (.aload_n 0, 1) := by decide +kernel
theorem d_W_restart_17 : decode c_W_restart 17 = .ok (.iconst 0, 1) := by decide +kernel
theorem d_W_restart_18 : decode c_W_restart 18 = .ok (.putfield 25, 3) := by decide +kernel
theorem d_W_restart_21 : decode c_W_restart 21 = .ok (.aload_n 0, 1) := by decide +kernel
theorem d_W_restart_22 : decode c_W_restart 22 = .ok (.iconst 0, 1) := by decide +kernel
theorem d_W_restart_23 : decode c_W_restart 23 = .ok (.putfield 28, 3) := by decide +kernel
theorem d_W_restart_26 : decode c_W_restart 26 = .ok (.return_, 1) := by decide +kernel
theorem d_W_signCode_0 : decode c_W_signCode 0 = .ok (.iconst 0, 1) := by decide +kernel
theorem d_W_signCode_1 : decode c_W_signCode 1 = .ok (.istore_n 1, 1) := by decide +kernel
theorem d_W_signCode_2 : decode c_W_signCode 2 = .ok (.iconst 0, 1) := by decide +kernel
theorem d_W_signCode_3 : decode c_W_signCode 3 = .ok (.istore_n 2, 1) := by decide +kernel
theorem d_W_signCode_4 : decode c_W_signCode 4 = .ok (.iload_n 2, 1) := by decide +kernel
theorem d_W_signCode_5 : decode c_W_signCode 5 = .ok (.iconst 3, 1) := by decide +kernel
theorem d_W_signCode_6 : decode c_W_signCode 6 = .ok (.if_icmp .ge 43, 3) := by decide +kernel
theorem d_W_signCode_9 : decode c_W_signCode 9 = .ok (.aload_n 0, 1) := by decide +kernel
theorem d_W_signCode_10 : decode c_W_signCode 10 = .ok (.getfield 15, 3) := by decide +kernel
theorem d_W_signCode_13 : decode c_W_signCode 13 = .ok (.iload_n 2, 1) := by decide +kernel
theorem d_W_signCode_14 : decode c_W_signCode 14 = .ok (.iadd, 1) := by decide +kernel
theorem d_W_signCode_15 : decode c_W_signCode 15 = .ok (.aload_n 0, 1) := by decide +kernel
theorem d_W_signCode_16 : decode c_W_signCode 16 = .ok (.getfield 19, 3) := by decide +kernel
theorem d_W_signCode_19 : decode c_W_signCode 19 = .ok (.if_icmp .ge 30, 3) := by decide +kernel
theorem d_W_signCode_22 : decode c_W_signCode 22 = .ok (.iload_n 1, 1) := by decide +kernel
theorem d_W_signCode_23 : decode c_W_signCode 23 = .ok (.aload_n 0, 1) := by decide +kernel
theorem d_W_signCode_24 : decode c_W_signCode 24 = .ok (.getfield 9, 3) := by decide +kernel
theorem d_W_signCode_27 : decode c_W_signCode 27 = .ok (.aload_n 0, 1) := by decide +kernel
theorem d_W_signCode_28 : decode c_W_signCode 28 = .ok (.getfield 15, 3) := by decide +kernel
theorem d_W_signCode_31 : decode c_W_signCode 31 = .ok (.iload_n 2, 1) := by decide +kernel
theorem d_W_signCode_32 : decode c_W_signCode 32 = .ok (.iadd, 1) := by decide +kernel
theorem d_W_signCode_33 : decode c_W_signCode 33 = .ok (.invokevirtual 36, 3) := by decide +kernel
theorem d_W_signCode_36 : decode c_W_signCode 36 = .ok (.bipush 8, 2) := by decide +kernel
theorem d_W_signCode_38 : decode c_W_signCode 38 = .ok (.iload_n 2, 1) := by decide +kernel
theorem d_W_signCode_39 : decode c_W_signCode 39 = .ok (.imul, 1) := by decide +kernel
theorem d_W_signCode_40 : decode c_W_signCode 40 = .ok (.ishl, 1) := by decide +kernel
theorem d_W_signCode_41 : decode c_W_signCode 41 = .ok (.ior, 1) := by decide +kernel
theorem d_W_signCode_42 : decode c_W_signCode 42 = .ok (.istore_n 1, 1) := by decide +kernel
theorem d_W_signCode_43 : decode c_W_signCode 43 = .ok (.iinc 2 1, 3) := by decide +kernel
theorem d_W_signCode_46 : decode c_W_signCode 46 = .ok (.goto (-42), 3) := by decide +kernel
theorem d_W_signCode_49 : decode c_W_signCode 49 = .ok (.iload_n 1, 1) := by decide +kernel
theorem d_W_signCode_50 : decode c_W_signCode 50 = .ok (.ireturn, 1) := by decide +kernel
theorem d_W_closeOf_0 : decode c_W_closeOf 0 = .ok (.iload_n 1, 1) := by decide +kernel
theorem d_W_closeOf_1 : decode c_W_closeOf 1 = .ok (.iload_n 2, 1) := by decide +kernel
theorem d_W_closeOf_2 : decode c_W_closeOf 2 = .ok (.bipush 34, 2) := by decide +kernel
theorem d_W_closeOf_4 : decode c_W_closeOf 4 = .ok (.if_icmp .ne 10, 3) := by decide +kernel
theorem d_W_closeOf_7 : decode c_W_closeOf 7 = .ok (.aload_n 0, 1) := by decide +kernel
theorem d_W_closeOf_8 : decode c_W_closeOf 8 = .ok (.getfield 25, 3) := by decide +kernel
theorem d_W_closeOf_11 : decode c_W_closeOf 11 = .ok (.goto 7, 3) := by decide +kernel
theorem d_W_closeOf_14 : decode c_W_closeOf 14 = .ok (.aload_n 0, 1) := by decide +kernel
theorem d_W_closeOf_15 : decode c_W_closeOf 15 = .ok (.getfield 28, 3) := by decide +kernel
theorem d_W_closeOf_18 : decode c_W_closeOf 18 = .ok (.if_icmp .ge 5, 3) := by decide +kernel
theorem d_W_closeOf_21 : decode c_W_closeOf 21 = .ok (.iconst (-1), 1) := by decide +kernel
theorem d_W_closeOf_22 : decode c_W_closeOf 22 = .ok (.ireturn, 1) := by decide +kernel
theorem d_W_closeOf_23 : decode c_W_closeOf 23 = .ok (.iload_n 1, 1) := by decide +kernel
theorem d_W_closeOf_24 : decode c_W_closeOf 24 = .ok (.iconst 1, 1) := by decide +kernel
theorem d_W_closeOf_25 : decode c_W_closeOf 25 = .ok (.iadd, 1) := by decide +kernel
theorem d_W_closeOf_26 : decode c_W_closeOf 26 = .ok (.istore_n 3, 1) := by decide +kernel
theorem d_W_closeOf_27 : decode c_W_closeOf 27 = .ok (.iload_n 3, 1) := by decide +kernel
theorem d_W_closeOf_28 : decode c_W_closeOf 28 = .ok (.aload_n 0, 1) := by decide +kernel
theorem d_W_closeOf_29 : decode c_W_closeOf 29 = .ok (.getfield 9, 3) := by decide +kernel
theorem d_W_closeOf_32 : decode c_W_closeOf 32 = .ok (.getfield 31, 3) := by decide +kernel
theorem d_W_closeOf_35 : decode c_W_closeOf 35 = .ok (.if_icmp .ge 64, 3) := by decide +kernel
theorem d_W_closeOf_38 : decode c_W_closeOf 38 = .ok (.aload_n 0, 1) := by decide +kernel
theorem d_W_closeOf_39 : decode c_W_closeOf 39 = .ok (.getfield 9, 3) := by decide +kernel
theorem d_W_closeOf_42 : decode c_W_closeOf 42 = .ok (.iload_n 3, 1) := by decide +kernel
theorem d_W_closeOf_43 : decode c_W_closeOf 43 = .ok (.invokevirtual 36, 3) := by decide +kernel
theorem d_W_closeOf_46 : decode c_W_closeOf 46 = .ok (.istore 4, 2) := by decide +kernel
theorem d_W_closeOf_48 : decode c_W_closeOf 48 = .ok (.iload 4, 2) := by decide +kernel
theorem d_W_closeOf_50 : decode c_W_closeOf 50 = .ok (.iload_n 2, 1) := by decide +kernel
theorem d_W_closeOf_51 : decode c_W_closeOf 51 = .ok (.if_icmp .ne 5, 3) := by decide +kernel
theorem d_W_closeOf_54 : decode c_W_closeOf 54 = .ok (.iload_n 3, 1) := by decide +kernel
theorem d_W_closeOf_55 : decode c_W_closeOf 55 = .ok (.ireturn, 1) := by decide +kernel
theorem d_W_closeOf_56 : decode c_W_closeOf 56 = .ok (.iload 4, 2) := by decide +kernel
theorem d_W_closeOf_58 : decode c_W_closeOf 58 = .ok (.bipush 10, 2) := by decide +kernel
theorem d_W_closeOf_60 : decode c_W_closeOf 60 = .ok (.if_icmp .ne 6, 3) := by decide +kernel
theorem d_W_closeOf_63 : decode c_W_closeOf 63 = .ok (.goto 36, 3) := by decide +kernel
theorem d_W_closeOf_66 : decode c_W_closeOf 66 = .ok (.iload_n 3, 1) := by decide +kernel
theorem d_W_closeOf_67 : decode c_W_closeOf 67 = .ok (.iload 4, 2) := by decide +kernel
theorem d_W_closeOf_69 : decode c_W_closeOf 69 = .ok (.bipush 92, 2) := by decide +kernel
theorem d_W_closeOf_71 : decode c_W_closeOf 71 = .ok (.if_icmp .ne 22, 3) := by decide +kernel
theorem d_W_closeOf_74 : decode c_W_closeOf 74 = .ok (.aload_n 0, 1) := by decide +kernel
theorem d_W_closeOf_75 : decode c_W_closeOf 75 = .ok (.getfield 9, 3) := by decide +kernel
theorem d_W_closeOf_78 : decode c_W_closeOf 78 = .ok (.iload_n 3, 1) := by decide +kernel
theorem d_W_closeOf_79 : decode c_W_closeOf 79 = .ok (.iconst 1, 1) := by decide +kernel
theorem d_W_closeOf_80 : decode c_W_closeOf 80 = .ok (.iadd, 1) := by decide +kernel
theorem d_W_closeOf_81 : decode c_W_closeOf 81 = .ok (.invokevirtual 36, 3) := by decide +kernel
theorem d_W_closeOf_84 : decode c_W_closeOf 84 = .ok (.bipush 10, 2) := by decide +kernel
theorem d_W_closeOf_86 : decode c_W_closeOf 86 = .ok (.if_icmp .eq 7, 3) := by decide +kernel
theorem d_W_closeOf_89 : decode c_W_closeOf 89 = .ok (.iconst 2, 1) := by decide +kernel
theorem d_W_closeOf_90 : decode c_W_closeOf 90 = .ok (.goto 4, 3) := by decide +kernel
theorem d_W_closeOf_93 : decode c_W_closeOf 93 = .ok (.iconst 1, 1) := by decide +kernel
theorem d_W_closeOf_94 : decode c_W_closeOf 94 = .ok (.iadd, 1) := by decide +kernel
theorem d_W_closeOf_95 : decode c_W_closeOf 95 = .ok (.istore_n 3, 1) := by decide +kernel
theorem d_W_closeOf_96 : decode c_W_closeOf 96 = .ok (.goto (-69), 3) := by decide +kernel
theorem d_W_closeOf_99 : decode c_W_closeOf 99 = .ok (.iload_n 2, 1) := by decide +kernel
theorem d_W_closeOf_100 : decode c_W_closeOf 100 = .ok (.bipush 34, 2) := by decide +kernel
theorem d_W_closeOf_102 : decode c_W_closeOf 102 = .ok (.if_icmp .ne 11, 3) := by decide +kernel
theorem d_W_closeOf_105 : decode c_W_closeOf 105 = .ok (.aload_n 0, 1) := by decide +kernel
theorem d_W_closeOf_106 : decode c_W_closeOf 106 = .ok (.iload_n 3, 1) := by decide +kernel
theorem d_W_closeOf_107 : decode c_W_closeOf 107 = .ok (.putfield 25, 3) := by decide +kernel
theorem d_W_closeOf_110 : decode c_W_closeOf 110 = .ok (.goto 8, 3) := by decide +kernel
theorem d_W_closeOf_113 : decode c_W_closeOf 113 = .ok (.aload_n 0, 1) := by decide +kernel
theorem d_W_closeOf_114 : decode c_W_closeOf 114 = .ok (.iload_n 3, 1) := by decide +kernel
theorem d_W_closeOf_115 : decode c_W_closeOf 115 = .ok (.putfield 28, 3) := by decide +kernel
theorem d_W_closeOf_118 : decode c_W_closeOf 118 = .ok (.iconst (-1), 1) := by decide +kernel
theorem d_W_closeOf_119 : decode c_W_closeOf 119 = .ok (.ireturn, 1) := by decide +kernel
theorem d_W_takeQuoted_0 : decode c_W_takeQuoted 0 = .ok (.aload_n 0, 1) := by decide +kernel
theorem d_W_takeQuoted_1 : decode c_W_takeQuoted 1 = .ok (.getfield 9, 3) := by decide +kernel
theorem d_W_takeQuoted_4 : decode c_W_takeQuoted 4 = .ok (.aload_n 0, 1) := by decide +kernel
theorem d_W_takeQuoted_5 : decode c_W_takeQuoted 5 = .ok (.getfield 15, 3) := by decide +kernel
theorem d_W_takeQuoted_8 : decode c_W_takeQuoted 8 = .ok (.invokevirtual 36, 3) := by decide +kernel
theorem d_W_takeQuoted_11 : decode c_W_takeQuoted 11 = .ok (.bipush 76, 2) := by decide +kernel
theorem d_W_takeQuoted_13 : decode c_W_takeQuoted 13 = .ok (.if_icmp .ne 12, 3) := by decide +kernel
theorem d_W_takeQuoted_16 : decode c_W_takeQuoted 16 = .ok (.aload_n 0, 1) := by decide +kernel
theorem d_W_takeQuoted_17 : decode c_W_takeQuoted 17 = .ok (.getfield 15, 3) := by decide +kernel
theorem d_W_takeQuoted_20 : decode c_W_takeQuoted 20 = .ok (.iconst 1, 1) := by decide +kernel
theorem d_W_takeQuoted_21 : decode c_W_takeQuoted 21 = .ok (.iadd, 1) := by decide +kernel
theorem d_W_takeQuoted_22 : decode c_W_takeQuoted 22 = .ok (.goto 7, 3) := by decide +kernel
theorem d_W_takeQuoted_25 : decode c_W_takeQuoted 25 = .ok (.aload_n 0, 1) := by decide +kernel
theorem d_W_takeQuoted_26 : decode c_W_takeQuoted 26 = .ok (.getfield 15, 3) := by decide +kernel
theorem d_W_takeQuoted_29 : decode c_W_takeQuoted 29 = .ok (.istore_n 1, 1) := by decide +kernel
theorem d_W_takeQuoted_30 : decode c_W_takeQuoted 30 = .ok (.aload_n 0, 1) := by decide +kernel
theorem d_W_takeQuoted_31 : decode c_W_takeQuoted 31 = .ok (.getfield 9, 3) := by decide +kernel
theorem d_W_takeQuoted_34 : decode c_W_takeQuoted 34 = .ok (.iload_n 1, 1) := by decide +kernel
theorem d_W_takeQuoted_35 : decode c_W_takeQuoted 35 = .ok (.invokevirtual 36, 3) := by decide +kernel
theorem d_W_takeQuoted_38 : decode c_W_takeQuoted 38 = .ok (.istore_n 2, 1) := by decide +kernel
theorem d_W_takeQuoted_39 : decode c_W_takeQuoted 39 = .ok (.iload_n 2, 1) := by decide +kernel
theorem d_W_takeQuoted_40 : decode c_W_takeQuoted 40 = .ok (.bipush 34, 2) := by decide +kernel
theorem d_W_takeQuoted_42 : decode c_W_takeQuoted 42 = .ok (.if_icmp .eq 11, 3) := by decide +kernel
theorem d_W_takeQuoted_45 : decode c_W_takeQuoted 45 = .ok (.iload_n 2, 1) := by decide +kernel
theorem d_W_takeQuoted_46 : decode c_W_takeQuoted 46 = .ok (.bipush 39, 2) := by decide +kernel
theorem d_W_takeQuoted_48 : decode c_W_takeQuoted 48 = .ok (.if_icmp .eq 5, 3) := by decide +kernel
theorem d_W_takeQuoted_51 : decode c_W_takeQuoted 51 = .ok (.iconst 0, 1) := by decide +kernel
theorem d_W_takeQuoted_52 : decode c_W_takeQuoted 52 = .ok (.ireturn, 1) := by decide +kernel
theorem d_W_takeQuoted_53 : decode c_W_takeQuoted 53 = .ok (.aload_n 0, 1) := by decide +kernel
theorem d_W_takeQuoted_54 : decode c_W_takeQuoted 54 = .ok (.iload_n 1, 1) := by decide +kernel
theorem d_W_takeQuoted_55 : decode c_W_takeQuoted 55 = .ok (.iload_n 2, 1) := by decide +kernel
theorem d_W_takeQuoted_56 : decode c_W_takeQuoted 56 = .ok (.invokevirtual 61, 3) := by decide +kernel
theorem d_W_takeQuoted_59 : decode c_W_takeQuoted 59 = .ok (.istore_n 3, 1) := by decide +kernel
theorem d_W_takeQuoted_60 : decode c_W_takeQuoted 60 = .ok (.iload_n 3, 1) := by decide +kernel
theorem d_W_takeQuoted_61 : decode c_W_takeQuoted 61 = .ok (.iconst (-1), 1) := by decide +kernel
theorem d_W_takeQuoted_62 : decode c_W_takeQuoted 62 = .ok (.if_icmp .ne 5, 3) := by decide +kernel
theorem d_W_takeQuoted_65 : decode c_W_takeQuoted 65 = .ok (.iconst 0, 1) := by decide +kernel
theorem d_W_takeQuoted_66 : decode c_W_takeQuoted 66 = .ok (.ireturn, 1) := by decide +kernel
theorem d_W_takeQuoted_67 : decode c_W_takeQuoted 67 = .ok (.aload_n 0, 1) := by decide +kernel
theorem d_W_takeQuoted_68 : decode c_W_takeQuoted 68 = .ok (.iload_n 2, 1) := by decide +kernel
theorem d_W_takeQuoted_69 : decode c_W_takeQuoted 69 = .ok (.bipush 34, 2) := by decide +kernel
theorem d_W_takeQuoted_71 : decode c_W_takeQuoted 71 = .ok (.if_icmp .ne 7, 3) := by decide +kernel
theorem d_W_takeQuoted_74 : decode c_W_takeQuoted 74 = .ok (.iconst 3, 1) := by decide +kernel
theorem d_W_takeQuoted_75 : decode c_W_takeQuoted 75 = .ok (.goto 4, 3) := by decide +kernel
theorem d_W_takeQuoted_78 : decode c_W_takeQuoted 78 = .ok (.iconst 4, 1) := by decide +kernel
theorem d_W_takeQuoted_79 : decode c_W_takeQuoted 79 = .ok (.iload_n 3, 1) := by decide +kernel
theorem d_W_takeQuoted_80 : decode c_W_takeQuoted 80 = .ok (.iconst 1, 1) := by decide +kernel
theorem d_W_takeQuoted_81 : decode c_W_takeQuoted 81 = .ok (.iadd, 1) := by decide +kernel
theorem d_W_takeQuoted_82 : decode c_W_takeQuoted 82 = .ok (.invokevirtual 57, 3) := by decide +kernel
theorem d_W_takeQuoted_85 : decode c_W_takeQuoted 85 = .ok (.iconst 1, 1) := by decide +kernel
theorem d_W_takeQuoted_86 : decode c_W_takeQuoted 86 = .ok (.ireturn, 1) := by decide +kernel
theorem d_W_takeName_0 : decode c_W_takeName 0 = .ok (.aload_n 0, 1) := by decide +kernel
theorem d_W_takeName_1 : decode c_W_takeName 1 = .ok (.getfield 9, 3) := by decide +kernel
theorem d_W_takeName_4 : decode c_W_takeName 4 = .ok (.aload_n 0, 1) := by decide +kernel
theorem d_W_takeName_5 : decode c_W_takeName 5 = .ok (.getfield 15, 3) := by decide +kernel
theorem d_W_takeName_8 : decode c_W_takeName 8 = .ok (.invokevirtual 36, 3) := by decide +kernel
theorem d_W_takeName_11 : decode c_W_takeName 11 = .ok (.invokestatic 65, 3) := by decide +kernel
theorem d_W_takeName_14 : decode c_W_takeName 14 = .ok (.ifCond .ne 5, 3) := by decide +kernel
theorem d_W_takeName_17 : decode c_W_takeName 17 = .ok (.iconst 0, 1) := by decide +kernel
theorem d_W_takeName_18 : decode c_W_takeName 18 = .ok (.ireturn, 1) := by decide +kernel
theorem d_W_takeName_19 : decode c_W_takeName 19 = .ok (.aload_n 0, 1) := by decide +kernel
theorem d_W_takeName_20 : decode c_W_takeName 20 = .ok (.getfield 15, 3) := by decide +kernel
theorem d_W_takeName_23 : decode c_W_takeName 23 = .ok (.iconst 1, 1) := by decide +kernel
theorem d_W_takeName_24 : decode c_W_takeName 24 = .ok (.iadd, 1) := by decide +kernel
theorem d_W_takeName_25 : decode c_W_takeName 25 = .ok (.istore_n 1, 1) := by decide +kernel
theorem d_W_takeName_26 : decode c_W_takeName 26 = .ok (.iload_n 1, 1) := by decide +kernel
theorem d_W_takeName_27 : decode c_W_takeName 27 = .ok (.aload_n 0, 1) := by decide +kernel
theorem d_W_takeName_28 : decode c_W_takeName 28 = .ok (.getfield 9, 3) := by decide +kernel
theorem d_W_takeName_31 : decode c_W_takeName 31 = .ok (.getfield 31, 3) := by decide +kernel
theorem d_W_takeName_34 : decode c_W_takeName 34 = .ok (.if_icmp .ge 37, 3) := by decide +kernel
theorem d_W_takeName_37 : decode c_W_takeName 37 = .ok (.aload_n 0, 1) := by decide +kernel
theorem d_W_takeName_38 : decode c_W_takeName 38 = .ok (.getfield 9, 3) := by decide +kernel
theorem d_W_takeName_41 : decode c_W_takeName 41 = .ok (.iload_n 1, 1) := by decide +kernel
theorem d_W_takeName_42 : decode c_W_takeName 42 = .ok (.invokevirtual 36, 3) := by decide +kernel
theorem d_W_takeName_45 : decode c_W_takeName 45 = .ok (.invokestatic 65, 3) := by decide +kernel
theorem d_W_takeName_48 : decode c_W_takeName 48 = .ok (.ifCond .ne 17, 3) := by decide +kernel
theorem d_W_takeName_51 : decode c_W_takeName 51 = .ok (.aload_n 0, 1) := by decide +kernel
theorem d_W_takeName_52 : decode c_W_takeName 52 = .ok (.getfield 9, 3) := by decide +kernel
theorem d_W_takeName_55 : decode c_W_takeName 55 = .ok (.iload_n 1, 1) := by decide +kernel
theorem d_W_takeName_56 : decode c_W_takeName 56 = .ok (.invokevirtual 36, 3) := by decide +kernel
theorem d_W_takeName_59 : decode c_W_takeName 59 = .ok (.invokestatic 68, 3) := by decide +kernel
theorem d_W_takeName_62 : decode c_W_takeName 62 = .ok (.ifCond .eq 9, 3) := by decide +kernel
theorem d_W_takeName_65 : decode c_W_takeName 65 = .ok (.iinc 1 1, 3) := by decide +kernel
theorem d_W_takeName_68 : decode c_W_takeName 68 = .ok (.goto (-42), 3) := by decide +kernel
theorem d_W_takeName_71 : decode c_W_takeName 71 = .ok (.aload_n 0, 1) := by decide +kernel
theorem d_W_takeName_72 : decode c_W_takeName 72 = .ok (.iconst 1, 1) := by decide +kernel
theorem d_W_takeName_73 : decode c_W_takeName 73 = .ok (.iload_n 1, 1) := by decide +kernel
theorem d_W_takeName_74 : decode c_W_takeName 74 = .ok (.invokevirtual 57, 3) := by decide +kernel
theorem d_W_takeName_77 : decode c_W_takeName 77 = .ok (.iconst 1, 1) := by decide +kernel
theorem d_W_takeName_78 : decode c_W_takeName 78 = .ok (.ireturn, 1) := by decide +kernel
theorem d_W_takeNumber_0 : decode c_W_takeNumber 0 = .ok (.aload_n 0, 1) := by decide +kernel
theorem d_W_takeNumber_1 : decode c_W_takeNumber 1 = .ok (.getfield 9, 3) := by decide +kernel
theorem d_W_takeNumber_4 : decode c_W_takeNumber 4 = .ok (.aload_n 0, 1) := by decide +kernel
theorem d_W_takeNumber_5 : decode c_W_takeNumber 5 = .ok (.getfield 15, 3) := by decide +kernel
theorem d_W_takeNumber_8 : decode c_W_takeNumber 8 = .ok (.invokevirtual 36, 3) := by decide +kernel
theorem d_W_takeNumber_11 : decode c_W_takeNumber 11 = .ok (.istore_n 1, 1) := by decide +kernel
theorem d_W_takeNumber_12 : decode c_W_takeNumber 12 = .ok (.iload_n 1, 1) := by decide +kernel
theorem d_W_takeNumber_13 : decode c_W_takeNumber 13 = .ok (.invokestatic 68, 3) := by decide +kernel
theorem d_W_takeNumber_16 : decode c_W_takeNumber 16 = .ok (.ifCond .ne 30, 3) := by decide +kernel
theorem d_W_takeNumber_19 : decode c_W_takeNumber 19 = .ok (.iload_n 1, 1) := by decide +kernel
theorem d_W_takeNumber_20 : decode c_W_takeNumber 20 = .ok (.bipush 46, 2) := by decide +kernel
theorem d_W_takeNumber_22 : decode c_W_takeNumber 22 = .ok (.if_icmp .ne 22, 3) := by decide +kernel
theorem d_W_takeNumber_25 : decode c_W_takeNumber 25 = .ok (.aload_n 0, 1) := by decide +kernel
theorem d_W_takeNumber_26 : decode c_W_takeNumber 26 = .ok (.getfield 9, 3) := by decide +kernel
theorem d_W_takeNumber_29 : decode c_W_takeNumber 29 = .ok (.aload_n 0, 1) := by decide +kernel
theorem d_W_takeNumber_30 : decode c_W_takeNumber 30 = .ok (.getfield 15, 3) := by decide +kernel
theorem d_W_takeNumber_33 : decode c_W_takeNumber 33 = .ok (.iconst 1, 1) := by decide +kernel
theorem d_W_takeNumber_34 : decode c_W_takeNumber 34 = .ok (.iadd, 1) := by decide +kernel
theorem d_W_takeNumber_35 : decode c_W_takeNumber 35 = .ok (.invokevirtual 36, 3) := by decide +kernel
theorem d_W_takeNumber_38 : decode c_W_takeNumber 38 = .ok (.invokestatic 68, 3) := by decide +kernel
theorem d_W_takeNumber_41 : decode c_W_takeNumber 41 = .ok (.ifCond .ne 5, 3) := by decide +kernel
theorem d_W_takeNumber_44 : decode c_W_takeNumber 44 = .ok (.iconst 0, 1) := by decide +kernel
theorem d_W_takeNumber_45 : decode c_W_takeNumber 45 = .ok (.ireturn, 1) := by decide +kernel
theorem d_W_takeNumber_46 : decode c_W_takeNumber 46 = .ok (.aload_n 0, 1) := by decide +kernel
theorem d_W_takeNumber_47 : decode c_W_takeNumber 47 = .ok (.getfield 15, 3) := by decide +kernel
theorem d_W_takeNumber_50 : decode c_W_takeNumber 50 = .ok (.iconst 1, 1) := by decide +kernel
theorem d_W_takeNumber_51 : decode c_W_takeNumber 51 = .ok (.iadd, 1) := by decide +kernel
theorem d_W_takeNumber_52 : decode c_W_takeNumber 52 = .ok (.istore_n 2, 1) := by decide +kernel
theorem d_W_takeNumber_53 : decode c_W_takeNumber 53 = .ok (.iload_n 2, 1) := by decide +kernel
theorem d_W_takeNumber_54 : decode c_W_takeNumber 54 = .ok (.aload_n 0, 1) := by decide +kernel
theorem d_W_takeNumber_55 : decode c_W_takeNumber 55 = .ok (.getfield 9, 3) := by decide +kernel
theorem d_W_takeNumber_58 : decode c_W_takeNumber 58 = .ok (.getfield 31, 3) := by decide +kernel
theorem d_W_takeNumber_61 : decode c_W_takeNumber 61 = .ok (.if_icmp .ge 33, 3) := by decide +kernel
theorem d_W_takeNumber_64 : decode c_W_takeNumber 64 = .ok (.aload_n 0, 1) := by decide +kernel
theorem d_W_takeNumber_65 : decode c_W_takeNumber 65 = .ok (.getfield 9, 3) := by decide +kernel
theorem d_W_takeNumber_68 : decode c_W_takeNumber 68 = .ok (.iload_n 2, 1) := by decide +kernel
theorem d_W_takeNumber_69 : decode c_W_takeNumber 69 = .ok (.iconst 1, 1) := by decide +kernel
theorem d_W_takeNumber_70 : decode c_W_takeNumber 70 = .ok (.isub, 1) := by decide +kernel
theorem d_W_takeNumber_71 : decode c_W_takeNumber 71 = .ok (.invokevirtual 36, 3) := by decide +kernel
theorem d_W_takeNumber_74 : decode c_W_takeNumber 74 = .ok (.aload_n 0, 1) := by decide +kernel
theorem d_W_takeNumber_75 : decode c_W_takeNumber 75 = .ok (.getfield 9, 3) := by decide +kernel
theorem d_W_takeNumber_78 : decode c_W_takeNumber 78 = .ok (.iload_n 2, 1) := by decide +kernel
theorem d_W_takeNumber_79 : decode c_W_takeNumber 79 = .ok (.invokevirtual 36, 3) := by decide +kernel
theorem d_W_takeNumber_82 : decode c_W_takeNumber 82 = .ok (.invokestatic 71, 3) := by decide +kernel
theorem d_W_takeNumber_85 : decode c_W_takeNumber 85 = .ok (.ifCond .eq 9, 3) := by decide +kernel
theorem d_W_takeNumber_88 : decode c_W_takeNumber 88 = .ok (.iinc 2 1, 3) := by decide +kernel
theorem d_W_takeNumber_91 : decode c_W_takeNumber 91 = .ok (.goto (-38), 3) := by decide +kernel
theorem d_W_takeNumber_94 : decode c_W_takeNumber 94 = .ok (.aload_n 0, 1) := by decide +kernel
theorem d_W_takeNumber_95 : decode c_W_takeNumber 95 = .ok (.iconst 2, 1) := by decide +kernel
theorem d_W_takeNumber_96 : decode c_W_takeNumber 96 = .ok (.iload_n 2, 1) := by decide +kernel
theorem d_W_takeNumber_97 : decode c_W_takeNumber 97 = .ok (.invokevirtual 57, 3) := by decide +kernel
theorem d_W_takeNumber_100 : decode c_W_takeNumber 100 = .ok (.iconst 1, 1) := by decide +kernel
theorem d_W_takeNumber_101 : decode c_W_takeNumber 101 = .ok (.ireturn, 1) := by decide +kernel
theorem d_JL_canEncode_0 : decode c_JL_canEncode 0 = .ok (.iload_n 0, 1) := by decide +kernel
theorem d_JL_canEncode_1 : decode c_JL_canEncode 1 = .ok (.ifCond .lt 14, 3) := by decide +kernel
theorem d_JL_canEncode_4 : decode c_JL_canEncode 4 = .ok (.iload_n 0, 1) := by decide +kernel
theorem d_JL_canEncode_5 : decode c_JL_canEncode 5 = .ok (.sipush 255, 3) := by decide +kernel
theorem d_JL_canEncode_8 : decode c_JL_canEncode 8 = .ok (.if_icmp .gt 7, 3) := by decide +kernel
theorem d_JL_canEncode_11 : decode c_JL_canEncode 11 = .ok (.iconst 1, 1) := by decide +kernel
theorem d_JL_canEncode_12 : decode c_JL_canEncode 12 = .ok (.goto 4, 3) := by decide +kernel
theorem d_JL_canEncode_15 : decode c_JL_canEncode 15 = .ok (.iconst 0, 1) := by decide +kernel
theorem d_JL_canEncode_16 : decode c_JL_canEncode 16 = .ok (.ireturn, 1) := by decide +kernel
theorem d_JL_indexOfChar_0 : decode c_JL_indexOfChar 0 = .ok (.iload_n 1, 1) := by decide +kernel
theorem d_JL_indexOfChar_1 : decode c_JL_indexOfChar 1 = .ok (.i2b, 1) := by decide +kernel
theorem d_JL_indexOfChar_2 : decode c_JL_indexOfChar 2 = .ok (.istore 4, 2) := by decide +kernel
theorem d_JL_indexOfChar_4 : decode c_JL_indexOfChar 4 = .ok (.iload_n 2, 1) := by decide +kernel
theorem d_JL_indexOfChar_5 : decode c_JL_indexOfChar 5 = .ok (.istore 5, 2) := by decide +kernel
theorem d_JL_indexOfChar_7 : decode c_JL_indexOfChar 7 = .ok (.iload 5, 2) := by decide +kernel
theorem d_JL_indexOfChar_9 : decode c_JL_indexOfChar 9 = .ok (.iload_n 3, 1) := by decide +kernel
theorem d_JL_indexOfChar_10 : decode c_JL_indexOfChar 10 = .ok (.if_icmp .ge 21, 3) := by decide +kernel
theorem d_JL_indexOfChar_13 : decode c_JL_indexOfChar 13 = .ok (.aload_n 0, 1) := by decide +kernel
theorem d_JL_indexOfChar_14 : decode c_JL_indexOfChar 14 = .ok (.iload 5, 2) := by decide +kernel
theorem d_JL_indexOfChar_16 : decode c_JL_indexOfChar 16 = .ok (.baload, 1) := by decide +kernel
theorem d_JL_indexOfChar_17 : decode c_JL_indexOfChar 17 = .ok (.iload 4, 2) := by decide +kernel
theorem d_JL_indexOfChar_19 : decode c_JL_indexOfChar 19 = .ok (.if_icmp .ne 6, 3) := by decide +kernel
theorem d_JL_indexOfChar_22 : decode c_JL_indexOfChar 22 = .ok (.iload 5, 2) := by decide +kernel
theorem d_JL_indexOfChar_24 : decode c_JL_indexOfChar 24 = .ok (.ireturn, 1) := by decide +kernel
theorem d_JL_indexOfChar_25 : decode c_JL_indexOfChar 25 = .ok (.iinc 5 1, 3) := by decide +kernel
theorem d_JL_indexOfChar_28 : decode c_JL_indexOfChar 28 = .ok (.goto (-21), 3) := by decide +kernel
theorem d_JL_indexOfChar_31 : decode c_JL_indexOfChar 31 = .ok (.iconst (-1), 1) := by decide +kernel
theorem d_JL_indexOfChar_32 : decode c_JL_indexOfChar 32 = .ok (.ireturn, 1) := by decide +kernel
theorem d_JL_indexOf_0 : decode c_JL_indexOf 0 = .ok (.iload_n 1, 1) := by decide +kernel
theorem d_JL_indexOf_1 : decode c_JL_indexOf 1 = .ok (.invokestatic 88, 3) := by decide +kernel
theorem d_JL_indexOf_4 : decode c_JL_indexOf 4 = .ok (.ifCond .ne 5, 3) := by decide +kernel
theorem d_JL_indexOf_7 : decode c_JL_indexOf 7 = .ok (.iconst (-1), 1) := by decide +kernel
theorem d_JL_indexOf_8 : decode c_JL_indexOf 8 = .ok (.ireturn, 1) := by decide +kernel
theorem d_JL_indexOf_9 : decode c_JL_indexOf 9 = .ok (.iload_n 2, 1) := by decide +kernel
theorem d_JL_indexOf_10 : decode c_JL_indexOf 10 = .ok (.iconst 0, 1) := by decide +kernel
theorem d_JL_indexOf_11 : decode c_JL_indexOf 11 = .ok (.invokestatic 92, 3) := by decide +kernel
theorem d_JL_indexOf_14 : decode c_JL_indexOf 14 = .ok (.istore_n 2, 1) := by decide +kernel
theorem d_JL_indexOf_15 : decode c_JL_indexOf 15 = .ok (.iload_n 3, 1) := by decide +kernel
theorem d_JL_indexOf_16 : decode c_JL_indexOf 16 = .ok (.aload_n 0, 1) := by decide +kernel
theorem d_JL_indexOf_17 : decode c_JL_indexOf 17 = .ok (.arraylength, 1) := by decide +kernel
theorem d_JL_indexOf_18 : decode c_JL_indexOf 18 = .ok (.invokestatic 38, 3) := by decide +kernel
theorem d_JL_indexOf_21 : decode c_JL_indexOf 21 = .ok (.istore_n 3, 1) := by decide +kernel
theorem d_JL_indexOf_22 : decode c_JL_indexOf 22 = .ok (.iload_n 2, 1) := by decide +kernel
theorem d_JL_indexOf_23 : decode c_JL_indexOf 23 = .ok (.iload_n 3, 1) := by decide +kernel
theorem d_JL_indexOf_24 : decode c_JL_indexOf 24 = .ok (.if_icmp .lt 5, 3) := by decide +kernel
theorem d_JL_indexOf_27 : decode c_JL_indexOf 27 = .ok (.iconst (-1), 1) := by decide +kernel
theorem d_JL_indexOf_28 : decode c_JL_indexOf 28 = .ok (.ireturn, 1) := by decide +kernel
theorem d_JL_indexOf_29 : decode c_JL_indexOf 29 = .ok (.aload_n 0, 1) := by decide +kernel
theorem d_JL_indexOf_30 : decode c_JL_indexOf 30 = .ok (.iload_n 1, 1) := by decide +kernel
theorem d_JL_indexOf_31 : decode c_JL_indexOf 31 = .ok (.iload_n 2, 1) := by decide +kernel
theorem d_JL_indexOf_32 : decode c_JL_indexOf 32 = .ok (.iload_n 3, 1) := by decide +kernel
theorem d_JL_indexOf_33 : decode c_JL_indexOf 33 = .ok (.invokestatic 95, 3) := by decide +kernel
theorem d_JL_indexOf_36 : decode c_JL_indexOf 36 = .ok (.ireturn, 1) := by decide +kernel
theorem d_JM_max_0 : decode c_JM_max 0 = .ok (.iload_n 0, 1) := by decide +kernel
theorem d_JM_max_1 : decode c_JM_max 1 = .ok (.iload_n 1, 1) := by decide +kernel
theorem d_JM_max_2 : decode c_JM_max 2 = .ok (.if_icmp .lt 7, 3) := by decide +kernel
theorem d_JM_max_5 : decode c_JM_max 5 = .ok (.iload_n 0, 1) := by decide +kernel
theorem d_JM_max_6 : decode c_JM_max 6 = .ok (.goto 4, 3) := by decide +kernel
theorem d_JM_max_9 : decode c_JM_max 9 = .ok (.iload_n 1, 1) := by decide +kernel
theorem d_JM_max_10 : decode c_JM_max 10 = .ok (.ireturn, 1) := by decide +kernel
theorem d_JM_min_0 : decode c_JM_min 0 = .ok (.iload_n 0, 1) := by decide +kernel
theorem d_JM_min_1 : decode c_JM_min 1 = .ok (.iload_n 1, 1) := by decide +kernel
theorem d_JM_min_2 : decode c_JM_min 2 = .ok (.if_icmp .gt 7, 3) := by decide +kernel
theorem d_JM_min_5 : decode c_JM_min 5 = .ok (.iload_n 0, 1) := by decide +kernel
theorem d_JM_min_6 : decode c_JM_min 6 = .ok (.goto 4, 3) := by decide +kernel
theorem d_JM_min_9 : decode c_JM_min 9 = .ok (.iload_n 1, 1) := by decide +kernel
theorem d_JM_min_10 : decode c_JM_min 10 = .ok (.ireturn, 1) := by decide +kernel
theorem d_JS_isLatin1_0 : decode c_JS_isLatin1 0 = .ok (.getstatic 38, 3) := by decide +kernel
theorem d_JS_isLatin1_3 : decode c_JS_isLatin1 3 = .ok (.ifCond .eq 14, 3) := by decide +kernel
theorem d_JS_isLatin1_6 : decode c_JS_isLatin1 6 = .ok (.aload_n 0, 1) := by decide +kernel
theorem d_JS_isLatin1_7 : decode c_JS_isLatin1 7 = .ok (.getfield 15, 3) := by decide +kernel
theorem d_JS_isLatin1_10 : decode c_JS_isLatin1 10 = .ok (.ifCond .ne 7, 3) := by decide +kernel
theorem d_JS_isLatin1_13 : decode c_JS_isLatin1 13 = .ok (.iconst 1, 1) := by decide +kernel
theorem d_JS_isLatin1_14 : decode c_JS_isLatin1 14 = .ok (.goto 4, 3) := by decide +kernel
theorem d_JS_isLatin1_17 : decode c_JS_isLatin1 17 = .ok (.iconst 0, 1) := by decide +kernel
theorem d_JS_isLatin1_18 : decode c_JS_isLatin1 18 = .ok (.ireturn, 1) := by decide +kernel
theorem d_JS_coder_0 : decode c_JS_coder 0 = .ok (.getstatic 38, 3) := by decide +kernel
theorem d_JS_coder_3 : decode c_JS_coder 3 = .ok (.ifCond .eq 10, 3) := by decide +kernel
theorem d_JS_coder_6 : decode c_JS_coder 6 = .ok (.aload_n 0, 1) := by decide +kernel
theorem d_JS_coder_7 : decode c_JS_coder 7 = .ok (.getfield 15, 3) := by decide +kernel
theorem d_JS_coder_10 : decode c_JS_coder 10 = .ok (.goto 4, 3) := by decide +kernel
theorem d_JS_coder_13 : decode c_JS_coder 13 = .ok (.iconst 1, 1) := by decide +kernel
theorem d_JS_coder_14 : decode c_JS_coder 14 = .ok (.ireturn, 1) := by decide +kernel
theorem d_JS_length_0 : decode c_JS_length 0 = .ok (.aload_n 0, 1) := by decide +kernel
theorem d_JS_length_1 : decode c_JS_length 1 = .ok (.getfield 9, 3) := by decide +kernel
theorem d_JS_length_4 : decode c_JS_length 4 = .ok (.arraylength, 1) := by decide +kernel
theorem d_JS_length_5 : decode c_JS_length 5 = .ok (.aload_n 0, 1) := by decide +kernel
theorem d_JS_length_6 : decode c_JS_length 6 = .ok (.invokevirtual 335, 3) := by decide +kernel
theorem d_JS_length_9 : decode c_JS_length 9 = .ok (.ishr, 1) := by decide +kernel
theorem d_JS_length_10 : decode c_JS_length 10 = .ok (.ireturn, 1) := by decide +kernel
theorem d_JS_indexOf_0 : decode c_JS_indexOf 0 = .ok (.aload_n 0, 1) := by decide +kernel
theorem d_JS_indexOf_1 : decode c_JS_indexOf 1 = .ok (.invokevirtual 492, 3) := by decide +kernel
theorem d_JS_indexOf_4 : decode c_JS_indexOf 4 = .ok (.ifCond .eq 19, 3) := by decide +kernel
theorem d_JS_indexOf_7 : decode c_JS_indexOf 7 = .ok (.aload_n 0, 1) := by decide +kernel
theorem d_JS_indexOf_8 : decode c_JS_indexOf 8 = .ok (.getfield 9, 3) := by decide +kernel
theorem d_JS_indexOf_11 : decode c_JS_indexOf 11 = .ok (.iload_n 1, 1) := by decide +kernel
theorem d_JS_indexOf_12 : decode c_JS_indexOf 12 = .ok (.iload_n 2, 1) := by decide +kernel
theorem d_JS_indexOf_13 : decode c_JS_indexOf 13 = .ok (.aload_n 0, 1) := by decide +kernel
theorem d_JS_indexOf_14 : decode c_JS_indexOf 14 = .ok (.invokevirtual 505, 3) := by decide +kernel
theorem d_JS_indexOf_17 : decode c_JS_indexOf 17 = .ok (.invokestatic 637, 3) := by decide +kernel
theorem d_JS_indexOf_20 : decode c_JS_indexOf 20 = .ok (.goto 16, 3) := by decide +kernel
theorem d_JS_indexOf_23 : decode c_JS_indexOf 23 = .ok (.aload_n 0, 1) := by decide +kernel
theorem d_JS_indexOf_24 : decode c_JS_indexOf 24 = .ok (.getfield 9, 3) := by decide +kernel
theorem d_JS_indexOf_27 : decode c_JS_indexOf 27 = .ok (.iload_n 1, 1) := by decide +kernel
theorem d_JS_indexOf_28 : decode c_JS_indexOf 28 = .ok (.iload_n 2, 1) := by decide +kernel
theorem d_JS_indexOf_29 : decode c_JS_indexOf 29 = .ok (.aload_n 0, 1) := by decide +kernel
theorem d_JS_indexOf_30 : decode c_JS_indexOf 30 = .ok (.invokevirtual 505, 3) := by decide +kernel
theorem d_JS_indexOf_33 : decode c_JS_indexOf 33 = .ok (.invokestatic 640, 3) := by decide +kernel
theorem d_JS_indexOf_36 : decode c_JS_indexOf 36 = .ok (.ireturn, 1) := by decide +kernel
theorem d_JS_indexOf2_0 : decode c_JS_indexOf2 0 = .ok (.aload_n 0, 1) := by decide +kernel
theorem d_JS_indexOf2_1 : decode c_JS_indexOf2 1 = .ok (.iload_n 1, 1) := by decide +kernel
theorem d_JS_indexOf2_2 : decode c_JS_indexOf2 2 = .ok (.iconst 0, 1) := by decide +kernel
theorem d_JS_indexOf2_3 : decode c_JS_indexOf2 3 = .ok (.invokevirtual 633, 3) := by decide +kernel
theorem d_JS_indexOf2_6 : decode c_JS_indexOf2 6 = .ok (.ireturn, 1) := by decide +kernel
theorem d_W_takeSign_0 : decode c_W_takeSign 0 = .ok (.aload_n 0, 1) := by decide +kernel
theorem d_W_takeSign_1 : decode c_W_takeSign 1 = .ok (.getfield 9, 3) := by decide +kernel
theorem d_W_takeSign_4 : decode c_W_takeSign 4 = .ok (.aload_n 0, 1) := by decide +kernel
theorem d_W_takeSign_5 : decode c_W_takeSign 5 = .ok (.getfield 15, 3) := by decide +kernel
theorem d_W_takeSign_8 : decode c_W_takeSign 8 = .ok (.invokevirtual 36, 3) := by decide +kernel
theorem d_W_takeSign_11 : decode c_W_takeSign 11 = .ok (.istore_n 1, 1) := by decide +kernel
theorem d_W_takeSign_12 : decode c_W_takeSign 12 = .ok (.aload_n 0, 1) := by decide +kernel
theorem d_W_takeSign_13 : decode c_W_takeSign 13 = .ok (.getfield 9, 3) := by decide +kernel
theorem d_W_takeSign_16 : decode c_W_takeSign 16 = .ok (.aload_n 0, 1) := by decide +kernel
theorem d_W_takeSign_17 : decode c_W_takeSign 17 = .ok (.getfield 15, 3) := by decide +kernel
theorem d_W_takeSign_20 : decode c_W_takeSign 20 = .ok (.iconst 1, 1) := by decide +kernel
theorem d_W_takeSign_21 : decode c_W_takeSign 21 = .ok (.iadd, 1) := by decide +kernel
theorem d_W_takeSign_22 : decode c_W_takeSign 22 = .ok (.invokevirtual 36, 3) := by decide +kernel
theorem d_W_takeSign_25 : decode c_W_takeSign 25 = .ok (.istore_n 2, 1) := by decide +kernel
theorem d_W_takeSign_26 : decode c_W_takeSign 26 = .ok (.aload_n 0, 1) := by decide +kernel
theorem d_W_takeSign_27 : decode c_W_takeSign 27 = .ok (.getfield 9, 3) := by decide +kernel
theorem d_W_takeSign_30 : decode c_W_takeSign 30 = .ok (.aload_n 0, 1) := by decide +kernel
theorem d_W_takeSign_31 : decode c_W_takeSign 31 = .ok (.getfield 15, 3) := by decide +kernel
theorem d_W_takeSign_34 : decode c_W_takeSign 34 = .ok (.iconst 2, 1) := by decide +kernel
theorem d_W_takeSign_35 : decode c_W_takeSign 35 = .ok (.iadd, 1) := by decide +kernel
theorem d_W_takeSign_36 : decode c_W_takeSign 36 = .ok (.invokevirtual 36, 3) := by decide +kernel
theorem d_W_takeSign_39 : decode c_W_takeSign 39 = .ok (.istore_n 3, 1) := by decide +kernel
theorem d_W_takeSign_40 : decode c_W_takeSign 40 = .ok (.iload_n 1, 1) := by decide +kernel
theorem d_W_takeSign_41 : decode c_W_takeSign 41 = .ok (.iload_n 2, 1) := by decide +kernel
theorem d_W_takeSign_42 : decode c_W_takeSign 42 = .ok (.iload_n 3, 1) := by decide +kernel
theorem d_W_takeSign_43 : decode c_W_takeSign 43 = .ok (.invokestatic 75, 3) := by decide +kernel
theorem d_W_takeSign_46 : decode c_W_takeSign 46 = .ok (.ifCond .eq 17, 3) := by decide +kernel
theorem d_W_takeSign_49 : decode c_W_takeSign 49 = .ok (.aload_n 0, 1) := by decide +kernel
theorem d_W_takeSign_50 : decode c_W_takeSign 50 = .ok (.iconst 5, 1) := by decide +kernel
theorem d_W_takeSign_51 : decode c_W_takeSign 51 = .ok (.aload_n 0, 1) := by decide +kernel
theorem d_W_takeSign_52 : decode c_W_takeSign 52 = .ok (.getfield 15, 3) := by decide +kernel
theorem d_W_takeSign_55 : decode c_W_takeSign 55 = .ok (.iconst 3, 1) := by decide +kernel
theorem d_W_takeSign_56 : decode c_W_takeSign 56 = .ok (.iadd, 1) := by decide +kernel
theorem d_W_takeSign_57 : decode c_W_takeSign 57 = .ok (.invokevirtual 57, 3) := by decide +kernel
theorem d_W_takeSign_60 : decode c_W_takeSign 60 = .ok (.goto 51, 3) := by decide +kernel
theorem d_W_takeSign_63 : decode c_W_takeSign 63 = .ok (.iload_n 1, 1) := by decide +kernel
theorem d_W_takeSign_64 : decode c_W_takeSign 64 = .ok (.iload_n 2, 1) := by decide +kernel
theorem d_W_takeSign_65 : decode c_W_takeSign 65 = .ok (.invokestatic 79, 3) := by decide +kernel
theorem d_W_takeSign_68 : decode c_W_takeSign 68 = .ok (.ifCond .eq 17, 3) := by decide +kernel
theorem d_W_takeSign_71 : decode c_W_takeSign 71 = .ok (.aload_n 0, 1) := by decide +kernel
theorem d_W_takeSign_72 : decode c_W_takeSign 72 = .ok (.iconst 5, 1) := by decide +kernel
theorem d_W_takeSign_73 : decode c_W_takeSign 73 = .ok (.aload_n 0, 1) := by decide +kernel
theorem d_W_takeSign_74 : decode c_W_takeSign 74 = .ok (.getfield 15, 3) := by decide +kernel
theorem d_W_takeSign_77 : decode c_W_takeSign 77 = .ok (.iconst 2, 1) := by decide +kernel
theorem d_W_takeSign_78 : decode c_W_takeSign 78 = .ok (.iadd, 1) := by decide +kernel
theorem d_W_takeSign_79 : decode c_W_takeSign 79 = .ok (.invokevirtual 57, 3) := by decide +kernel
theorem d_W_takeSign_82 : decode c_W_takeSign 82 = .ok (.goto 29, 3) := by decide +kernel
theorem d_W_takeSign_85 : decode c_W_takeSign 85 = .ok (.ldc 82, 2) := by decide +kernel
theorem d_W_takeSign_87 : decode c_W_takeSign 87 = .ok (.iload_n 1, 1) := by decide +kernel
theorem d_W_takeSign_88 : decode c_W_takeSign 88 = .ok (.i2c, 1) := by decide +kernel
theorem d_W_takeSign_89 : decode c_W_takeSign 89 = .ok (.invokevirtual 84, 3) := by decide +kernel
theorem d_W_takeSign_92 : decode c_W_takeSign 92 = .ok (.ifCond .lt 17, 3) := by decide +kernel
theorem d_W_takeSign_95 : decode c_W_takeSign 95 = .ok (.aload_n 0, 1) := by decide +kernel
theorem d_W_takeSign_96 : decode c_W_takeSign 96 = .ok (.iconst 5, 1) := by decide +kernel
theorem d_W_takeSign_97 : decode c_W_takeSign 97 = .ok (.aload_n 0, 1) := by decide +kernel
theorem d_W_takeSign_98 : decode c_W_takeSign 98 = .ok (.getfield 15, 3) := by decide +kernel
theorem d_W_takeSign_101 : decode c_W_takeSign 101 = .ok (.iconst 1, 1) := by decide +kernel
theorem d_W_takeSign_102 : decode c_W_takeSign 102 = .ok (.iadd, 1) := by decide +kernel
theorem d_W_takeSign_103 : decode c_W_takeSign 103 = .ok (.invokevirtual 57, 3) := by decide +kernel
theorem d_W_takeSign_106 : decode c_W_takeSign 106 = .ok (.goto 5, 3) := by decide +kernel
theorem d_W_takeSign_109 : decode c_W_takeSign 109 = .ok (.iconst 0, 1) := by decide +kernel
theorem d_W_takeSign_110 : decode c_W_takeSign 110 = .ok (.ireturn, 1) := by decide +kernel
theorem d_W_takeSign_111 : decode c_W_takeSign 111 = .ok (.iconst 1, 1) := by decide +kernel
theorem d_W_takeSign_112 : decode c_W_takeSign 112 = .ok (.ireturn, 1) := by decide +kernel
theorem d_W_step_0 : decode c_W_step 0 = .ok (.aload_n 0, 1) := by decide +kernel
theorem d_W_step_1 : decode c_W_step 1 = .ok (.getfield 19, 3) := by decide +kernel
theorem d_W_step_4 : decode c_W_step 4 = .ok (.istore_n 1, 1) := by decide +kernel
theorem d_W_step_5 : decode c_W_step 5 = .ok (.iload_n 1, 1) := by decide +kernel
theorem d_W_step_6 : decode c_W_step 6 = .ok (.aload_n 0, 1) := by decide +kernel
theorem d_W_step_7 : decode c_W_step 7 = .ok (.getfield 9, 3) := by decide +kernel
theorem d_W_step_10 : decode c_W_step 10 = .ok (.getfield 31, 3) := by decide +kernel
theorem d_W_step_13 : decode c_W_step 13 = .ok (.if_icmp .ge 23, 3) := by decide +kernel
theorem d_W_step_16 : decode c_W_step 16 = .ok (.aload_n 0, 1) := by decide +kernel
theorem d_W_step_17 : decode c_W_step 17 = .ok (.getfield 9, 3) := by decide +kernel
theorem d_W_step_20 : decode c_W_step 20 = .ok (.iload_n 1, 1) := by decide +kernel
theorem d_W_step_21 : decode c_W_step 21 = .ok (.invokevirtual 36, 3) := by decide +kernel
theorem d_W_step_24 : decode c_W_step 24 = .ok (.invokestatic 40, 3) := by decide +kernel
theorem d_W_step_27 : decode c_W_step 27 = .ok (.ifCond .eq 9, 3) := by decide +kernel
theorem d_W_step_30 : decode c_W_step 30 = .ok (.iinc 1 1, 3) := by decide +kernel
theorem d_W_step_33 : decode c_W_step 33 = .ok (.goto (-28), 3) := by decide +kernel
theorem d_W_step_36 : decode c_W_step 36 = .ok (.aload_n 0, 1) := by decide +kernel
theorem d_W_step_37 : decode c_W_step 37 = .ok (.iload_n 1, 1) := by decide +kernel
theorem d_W_step_38 : decode c_W_step 38 = .ok (.putfield 15, 3) := by decide +kernel
theorem d_W_step_41 : decode c_W_step 41 = .ok (.aload_n 0, 1) := by decide +kernel
theorem d_W_step_42 : decode c_W_step 42 = .ok (.iload_n 1, 1) := by decide +kernel
theorem d_W_step_43 : decode c_W_step 43 = .ok (.putfield 19, 3) := by decide +kernel
theorem d_W_step_46 : decode c_W_step 46 = .ok (.iload_n 1, 1) := by decide +kernel
theorem d_W_step_47 : decode c_W_step 47 = .ok (.aload_n 0, 1) := by decide +kernel
theorem d_W_step_48 : decode c_W_step 48 = .ok (.getfield 9, 3) := by decide +kernel
theorem d_W_step_51 : decode c_W_step 51 = .ok (.getfield 31, 3) := by decide +kernel
theorem d_W_step_54 : decode c_W_step 54 = .ok (.if_icmp .lt 5, 3) := by decide +kernel
theorem d_W_step_57 : decode c_W_step 57 = .ok (.iconst 0, 1) := by decide +kernel
theorem d_W_step_58 : decode c_W_step 58 = .ok (.ireturn, 1) := by decide +kernel
theorem d_W_step_59 : decode c_W_step 59 = .ok (.aload_n 0, 1) := by decide +kernel
theorem d_W_step_60 : decode c_W_step 60 = .ok (.invokevirtual 44, 3) := by decide +kernel
theorem d_W_step_63 : decode c_W_step 63 = .ok (.ifCond .ne 36, 3) := by decide +kernel
theorem d_W_step_66 : decode c_W_step 66 = .ok (.aload_n 0, 1) := by decide +kernel
theorem d_W_step_67 : decode c_W_step 67 = .ok (.invokevirtual 48, 3) := by decide +kernel
theorem d_W_step_70 : decode c_W_step 70 = .ok (.ifCond .ne 29, 3) := by decide +kernel
theorem d_W_step_73 : decode c_W_step 73 = .ok (.aload_n 0, 1) := by decide +kernel
theorem d_W_step_74 : decode c_W_step 74 = .ok (.invokevirtual 51, 3) := by decide +kernel
theorem d_W_step_77 : decode c_W_step 77 = .ok (.ifCond .ne 22, 3) := by decide +kernel
theorem d_W_step_80 : decode c_W_step 80 = .ok (.aload_n 0, 1) := by decide +kernel
theorem d_W_step_81 : decode c_W_step 81 = .ok (.invokevirtual 54, 3) := by decide +kernel
theorem d_W_step_84 : decode c_W_step 84 = .ok (.ifCond .ne 15, 3) := by decide +kernel
theorem d_W_step_87 : decode c_W_step 87 = .ok (.aload_n 0, 1) := by decide +kernel
theorem d_W_step_88 : decode c_W_step 88 = .ok (.bipush 6, 2) := by decide +kernel
theorem d_W_step_90 : decode c_W_step 90 = .ok (.aload_n 0, 1) := by decide +kernel
theorem d_W_step_91 : decode c_W_step 91 = .ok (.getfield 15, 3) := by decide +kernel
theorem d_W_step_94 : decode c_W_step 94 = .ok (.iconst 1, 1) := by decide +kernel
theorem d_W_step_95 : decode c_W_step 95 = .ok (.iadd, 1) := by decide +kernel
theorem d_W_step_96 : decode c_W_step 96 = .ok (.invokevirtual 57, 3) := by decide +kernel
theorem d_W_step_99 : decode c_W_step 99 = .ok (.iconst 1, 1) := by decide +kernel
theorem d_W_step_100 : decode c_W_step 100 = .ok (.ireturn, 1) := by decide +kernel
theorem d_L_digitOf_0 : decode c_L_digitOf 0 = .ok (.iload_n 0, 1) := by decide +kernel
theorem d_L_digitOf_1 : decode c_L_digitOf 1 = .ok (.bipush 48, 2) := by decide +kernel
theorem d_L_digitOf_3 : decode c_L_digitOf 3 = .ok (.if_icmp .lt 14, 3) := by decide +kernel
theorem d_L_digitOf_6 : decode c_L_digitOf 6 = .ok (.iload_n 0, 1) := by decide +kernel
theorem d_L_digitOf_7 : decode c_L_digitOf 7 = .ok (.bipush 57, 2) := by decide +kernel
theorem d_L_digitOf_9 : decode c_L_digitOf 9 = .ok (.if_icmp .gt 8, 3) := by decide +kernel
theorem d_L_digitOf_12 : decode c_L_digitOf 12 = .ok (.iload_n 0, 1) := by decide +kernel
theorem d_L_digitOf_13 : decode c_L_digitOf 13 = .ok (.bipush 48, 2) := by decide +kernel
theorem d_L_digitOf_15 : decode c_L_digitOf 15 = .ok (.isub, 1) := by decide +kernel
theorem d_L_digitOf_16 : decode c_L_digitOf 16 = .ok (.ireturn, 1) := by decide +kernel
theorem d_L_digitOf_17 : decode c_L_digitOf 17 = .ok (.iload_n 0, 1) := by decide +kernel
theorem d_L_digitOf_18 : decode c_L_digitOf 18 = .ok (.bipush 97, 2) := by decide +kernel
theorem d_L_digitOf_20 : decode c_L_digitOf 20 = .ok (.if_icmp .lt 17, 3) := by decide +kernel
theorem d_L_digitOf_23 : decode c_L_digitOf 23 = .ok (.iload_n 0, 1) := by decide +kernel
theorem d_L_digitOf_24 : decode c_L_digitOf 24 = .ok (.bipush 102, 2) := by decide +kernel
theorem d_L_digitOf_26 : decode c_L_digitOf 26 = .ok (.if_icmp .gt 11, 3) := by decide +kernel
theorem d_L_digitOf_29 : decode c_L_digitOf 29 = .ok (.iload_n 0, 1) := by decide +kernel
theorem d_L_digitOf_30 : decode c_L_digitOf 30 = .ok (.bipush 97, 2) := by decide +kernel
theorem d_L_digitOf_32 : decode c_L_digitOf 32 = .ok (.isub, 1) := by decide +kernel
theorem d_L_digitOf_33 : decode c_L_digitOf 33 = .ok (.bipush 10, 2) := by decide +kernel
theorem d_L_digitOf_35 : decode c_L_digitOf 35 = .ok (.iadd, 1) := by decide +kernel
theorem d_L_digitOf_36 : decode c_L_digitOf 36 = .ok (.ireturn, 1) := by decide +kernel
theorem d_L_digitOf_37 : decode c_L_digitOf 37 = .ok (.iload_n 0, 1) := by decide +kernel
theorem d_L_digitOf_38 : decode c_L_digitOf 38 = .ok (.bipush 65, 2) := by decide +kernel
theorem d_L_digitOf_40 : decode c_L_digitOf 40 = .ok (.if_icmp .lt 19, 3) := by decide +kernel
theorem d_L_digitOf_43 : decode c_L_digitOf 43 = .ok (.iload_n 0, 1) := by decide +kernel
theorem d_L_digitOf_44 : decode c_L_digitOf 44 = .ok (.bipush 70, 2) := by decide +kernel
theorem d_L_digitOf_46 : decode c_L_digitOf 46 = .ok (.if_icmp .gt 13, 3) := by decide +kernel
theorem d_L_digitOf_49 : decode c_L_digitOf 49 = .ok (.iload_n 0, 1) := by decide +kernel
theorem d_L_digitOf_50 : decode c_L_digitOf 50 = .ok (.bipush 65, 2) := by decide +kernel
theorem d_L_digitOf_52 : decode c_L_digitOf 52 = .ok (.isub, 1) := by decide +kernel
theorem d_L_digitOf_53 : decode c_L_digitOf 53 = .ok (.bipush 10, 2) := by decide +kernel
theorem d_L_digitOf_55 : decode c_L_digitOf 55 = .ok (.iadd, 1) := by decide +kernel
theorem d_L_digitOf_56 : decode c_L_digitOf 56 = .ok (.goto 5, 3) := by decide +kernel
theorem d_L_digitOf_59 : decode c_L_digitOf 59 = .ok (.bipush 99, 2) := by decide +kernel
theorem d_L_digitOf_61 : decode c_L_digitOf 61 = .ok (.ireturn, 1) := by decide +kernel
theorem d_L_escaped_0 : decode c_L_escaped 0 = .ok (.iload_n 0, 1) := by decide +kernel
theorem d_L_escaped_1 : decode c_L_escaped 1 = .ok (.lookupswitch 132 #[(34, 130), (39, 130), (48, 128), (63, 130), (92, 130), (97, 116), (98, 119), (102, 122), (110, 107), (114, 113), (116, 110), (118, 125)], 107) := by decide +kernel
theorem d_L_escaped_108 : decode c_L_escaped 108 = .ok (.bipush 10, 2) := by decide +kernel
theorem d_L_escaped_110 : decode c_L_escaped 110 = .ok (.ireturn, 1) := by decide +kernel
theorem d_L_escaped_111 : decode c_L_escaped 111 = .ok (.bipush 9, 2) := by decide +kernel
theorem d_L_escaped_113 : decode c_L_escaped 113 = .ok (.ireturn, 1) := by decide +kernel
theorem d_L_escaped_114 : decode c_L_escaped 114 = .ok (.bipush 13, 2) := by decide +kernel
theorem d_L_escaped_116 : decode c_L_escaped 116 = .ok (.ireturn, 1) := by decide +kernel
theorem d_L_escaped_117 : decode c_L_escaped 117 = .ok (.bipush 7, 2) := by decide +kernel
theorem d_L_escaped_119 : decode c_L_escaped 119 = .ok (.ireturn, 1) := by decide +kernel
theorem d_L_escaped_120 : decode c_L_escaped 120 = .ok (.bipush 8, 2) := by decide +kernel
theorem d_L_escaped_122 : decode c_L_escaped 122 = .ok (.ireturn, 1) := by decide +kernel
theorem d_L_escaped_123 : decode c_L_escaped 123 = .ok (.bipush 12, 2) := by decide +kernel
theorem d_L_escaped_125 : decode c_L_escaped 125 = .ok (.ireturn, 1) := by decide +kernel
theorem d_L_escaped_126 : decode c_L_escaped 126 = .ok (.bipush 11, 2) := by decide +kernel
theorem d_L_escaped_128 : decode c_L_escaped 128 = .ok (.ireturn, 1) := by decide +kernel
theorem d_L_escaped_129 : decode c_L_escaped 129 = .ok (.iconst 0, 1) := by decide +kernel
theorem d_L_escaped_130 : decode c_L_escaped 130 = .ok (.ireturn, 1) := by decide +kernel
theorem d_L_escaped_131 : decode c_L_escaped 131 = .ok (.iload_n 0, 1) := by decide +kernel
theorem d_L_escaped_132 : decode c_L_escaped 132 = .ok (.ireturn, 1) := by decide +kernel
theorem d_L_escaped_133 : decode c_L_escaped 133 = .ok (.iconst (-1), 1) := by decide +kernel
theorem d_L_escaped_134 : decode c_L_escaped 134 = .ok (.ireturn, 1) := by decide +kernel
theorem d_L_baseAt_0 : decode c_L_baseAt 0 = .ok (.aload_n 0, 1) := by decide +kernel
theorem d_L_baseAt_1 : decode c_L_baseAt 1 = .ok (.getfield 9, 3) := by decide +kernel
theorem d_L_baseAt_4 : decode c_L_baseAt 4 = .ok (.iload_n 1, 1) := by decide +kernel
theorem d_L_baseAt_5 : decode c_L_baseAt 5 = .ok (.invokevirtual 34, 3) := by decide +kernel
theorem d_L_baseAt_8 : decode c_L_baseAt 8 = .ok (.bipush 48, 2) := by decide +kernel
theorem d_L_baseAt_10 : decode c_L_baseAt 10 = .ok (.if_icmp .eq 6, 3) := by decide +kernel
theorem d_L_baseAt_13 : decode c_L_baseAt 13 = .ok (.bipush 10, 2) := by decide +kernel
theorem d_L_baseAt_15 : decode c_L_baseAt 15 = .ok (.ireturn, 1) := by decide +kernel
theorem d_L_baseAt_16 : decode c_L_baseAt 16 = .ok (.aload_n 0, 1) := by decide +kernel
theorem d_L_baseAt_17 : decode c_L_baseAt 17 = .ok (.getfield 9, 3) := by decide +kernel
theorem d_L_baseAt_20 : decode c_L_baseAt 20 = .ok (.iload_n 1, 1) := by decide +kernel
theorem d_L_baseAt_21 : decode c_L_baseAt 21 = .ok (.iconst 1, 1) := by decide +kernel
theorem d_L_baseAt_22 : decode c_L_baseAt 22 = .ok (.iadd, 1) := by decide +kernel
theorem d_L_baseAt_23 : decode c_L_baseAt 23 = .ok (.invokevirtual 34, 3) := by decide +kernel
theorem d_L_baseAt_26 : decode c_L_baseAt 26 = .ok (.istore_n 2, 1) := by decide +kernel
theorem d_L_baseAt_27 : decode c_L_baseAt 27 = .ok (.iload_n 2, 1) := by decide +kernel
theorem d_L_baseAt_28 : decode c_L_baseAt 28 = .ok (.bipush 120, 2) := by decide +kernel
theorem d_L_baseAt_30 : decode c_L_baseAt 30 = .ok (.if_icmp .eq 9, 3) := by decide +kernel
theorem d_L_baseAt_33 : decode c_L_baseAt 33 = .ok (.iload_n 2, 1) := by decide +kernel
theorem d_L_baseAt_34 : decode c_L_baseAt 34 = .ok (.bipush 88, 2) := by decide +kernel
theorem d_L_baseAt_36 : decode c_L_baseAt 36 = .ok (.if_icmp .ne 8, 3) := by decide +kernel
theorem d_L_baseAt_39 : decode c_L_baseAt 39 = .ok (.bipush 16, 2) := by decide +kernel
theorem d_L_baseAt_41 : decode c_L_baseAt 41 = .ok (.goto 5, 3) := by decide +kernel
theorem d_L_baseAt_44 : decode c_L_baseAt 44 = .ok (.bipush 8, 2) := by decide +kernel
theorem d_L_baseAt_46 : decode c_L_baseAt 46 = .ok (.ireturn, 1) := by decide +kernel
theorem d_L_fits_0 : decode c_L_fits 0 = .ok (.iload_n 1, 1) := by decide +kernel
theorem d_L_fits_1 : decode c_L_fits 1 = .ok (.bipush 10, 2) := by decide +kernel
theorem d_L_fits_3 : decode c_L_fits 3 = .ok (.if_icmp .ne 45, 3) := by decide +kernel
theorem d_L_fits_6 : decode c_L_fits 6 = .ok (.aload_n 0, 1) := by decide +kernel
theorem d_L_fits_7 : decode c_L_fits 7 = .ok (.getfield 15, 3) := by decide +kernel
theorem d_L_fits_10 : decode c_L_fits 10 = .ok (.lconst 0, 1) := by decide +kernel
theorem d_L_fits_11 : decode c_L_fits 11 = .ok (.lcmp, 1) := by decide +kernel
theorem d_L_fits_12 : decode c_L_fits 12 = .ok (.ifCond .lt 34, 3) := by decide +kernel
theorem d_L_fits_15 : decode c_L_fits 15 = .ok (.aload_n 0, 1) := by decide +kernel
theorem d_L_fits_16 : decode c_L_fits 16 = .ok (.getfield 15, 3) := by decide +kernel
theorem d_L_fits_19 : decode c_L_fits 19 = .ok (.ldc2_w 48, 3) := by decide +kernel
theorem d_L_fits_22 : decode c_L_fits 22 = .ok (.lcmp, 1) := by decide +kernel
theorem d_L_fits_23 : decode c_L_fits 23 = .ok (.ifCond .lt 19, 3) := by decide +kernel
theorem d_L_fits_26 : decode c_L_fits 26 = .ok (.aload_n 0, 1) := by decide +kernel
theorem d_L_fits_27 : decode c_L_fits 27 = .ok (.getfield 15, 3) := by decide +kernel
theorem d_L_fits_30 : decode c_L_fits 30 = .ok (.ldc2_w 48, 3) := by decide +kernel
theorem d_L_fits_33 : decode c_L_fits 33 = .ok (.lcmp, 1) := by decide +kernel
theorem d_L_fits_34 : decode c_L_fits 34 = .ok (.ifCond .ne 12, 3) := by decide +kernel
theorem d_L_fits_37 : decode c_L_fits 37 = .ok (.iload_n 2, 1) := by decide +kernel
theorem d_L_fits_38 : decode c_L_fits 38 = .ok (.iconst 5, 1) := by decide +kernel
theorem d_L_fits_39 : decode c_L_fits 39 = .ok (.if_icmp .gt 7, 3) := by decide +kernel
theorem d_L_fits_42 : decode c_L_fits 42 = .ok (.iconst 1, 1) := by decide +kernel
theorem d_L_fits_43 : decode c_L_fits 43 = .ok (.goto 4, 3) := by decide +kernel
theorem d_L_fits_46 : decode c_L_fits 46 = .ok (.iconst 0, 1) := by decide +kernel
theorem d_L_fits_47 : decode c_L_fits 47 = .ok (.ireturn, 1) := by decide +kernel
theorem d_L_fits_48 : decode c_L_fits 48 = .ok (.aload_n 0, 1) := by decide +kernel
theorem d_L_fits_49 : decode c_L_fits 49 = .ok (.getfield 15, 3) := by decide +kernel
theorem d_L_fits_52 : decode c_L_fits 52 = .ok (.iload_n 1, 1) := by decide +kernel
theorem d_L_fits_53 : decode c_L_fits 53 = .ok (.bipush 16, 2) := by decide +kernel
theorem d_L_fits_55 : decode c_L_fits 55 = .ok (.if_icmp .ne 8, 3) := by decide +kernel
theorem d_L_fits_58 : decode c_L_fits 58 = .ok (.bipush 60, 2) := by decide +kernel
theorem d_L_fits_60 : decode c_L_fits 60 = .ok (.goto 5, 3) := by decide +kernel
theorem d_L_fits_63 : decode c_L_fits 63 = .ok (.bipush 61, 2) := by decide +kernel
theorem d_L_fits_65 : decode c_L_fits 65 = .ok (.lushr, 1) := by decide +kernel
theorem d_L_fits_66 : decode c_L_fits 66 = .ok (.lconst 0, 1) := by decide +kernel
theorem d_L_fits_67 : decode c_L_fits 67 = .ok (.lcmp, 1) := by decide +kernel
theorem d_L_fits_68 : decode c_L_fits 68 = .ok (.ifCond .ne 7, 3) := by decide +kernel
theorem d_L_fits_71 : decode c_L_fits 71 = .ok (.iconst 1, 1) := by decide +kernel
theorem d_L_fits_72 : decode c_L_fits 72 = .ok (.goto 4, 3) := by decide +kernel
theorem d_L_fits_75 : decode c_L_fits 75 = .ok (.iconst 0, 1) := by decide +kernel
theorem d_L_fits_76 : decode c_L_fits 76 = .ok (.ireturn, 1) := by decide +kernel
theorem d_L_readTail_0 : decode c_L_readTail 0 = .ok (.iconst 0, 1) := by decide +kernel
theorem d_L_readTail_1 : decode c_L_readTail 1 = .ok (.istore_n 3, 1) := by decide +kernel
theorem d_L_readTail_2 : decode c_L_readTail 2 = .ok (.iload_n 1, 1) := by decide +kernel
theorem d_L_readTail_3 : decode c_L_readTail 3 = .ok (.istore 4, 2) := by decide +kernel
theorem d_L_readTail_5 : decode c_L_readTail 5 = .ok (.iload 4, 2) := by decide +kernel
theorem d_L_readTail_7 : decode c_L_readTail 7 = .ok (.iload_n 2, 1) := by decide +kernel
theorem d_L_readTail_8 : decode c_L_readTail 8 = .ok (.if_icmp .ge 108, 3) := by decide +kernel
theorem d_L_readTail_11 : decode c_L_readTail 11 = .ok (.aload_n 0, 1) := by decide +kernel
theorem d_L_readTail_12 : decode c_L_readTail 12 = .ok (.getfield 9, 3) := by decide +kernel
theorem d_L_readTail_15 : decode c_L_readTail 15 = .ok (.iload 4, 2) := by decide +kernel
theorem d_L_readTail_17 : decode c_L_readTail 17 = .ok (.invokevirtual 34, 3) := by decide +kernel
theorem d_L_readTail_20 : decode c_L_readTail 20 = .ok (.istore 5, 2) := by decide +kernel
theorem d_L_readTail_22 : decode c_L_readTail 22 = .ok (.iload 5, 2) := by decide +kernel
theorem d_L_readTail_24 : decode c_L_readTail 24 = .ok (.bipush 117, 2) := by decide +kernel
theorem d_L_readTail_26 : decode c_L_readTail 26 = .ok (.if_icmp .eq 10, 3) := by decide +kernel
theorem d_L_readTail_29 : decode c_L_readTail 29 = .ok (.iload 5, 2) := by decide +kernel
theorem d_L_readTail_31 : decode c_L_readTail 31 = .ok (.bipush 85, 2) := by decide +kernel
theorem d_L_readTail_33 : decode c_L_readTail 33 = .ok (.if_icmp .ne 21, 3) := by decide +kernel
theorem d_L_readTail_36 : decode c_L_readTail 36 = .ok (.aload_n 0, 1) := by decide +kernel
theorem d_L_readTail_37 : decode c_L_readTail 37 = .ok (.getfield 19, 3) := by decide +kernel
theorem d_L_readTail_40 : decode c_L_readTail 40 = .ok (.ifCond .ne 14, 3) := by decide +kernel
theorem d_L_readTail_43 : decode c_L_readTail 43 = .ok (.aload_n 0, 1) := by decide +kernel
theorem d_L_readTail_44 : decode c_L_readTail 44 = .ok (.iconst 1, 1) := by decide +kernel
theorem d_L_readTail_45 : decode c_L_readTail 45 = .ok (.putfield 19, 3) := by decide +kernel
theorem d_L_readTail_48 : decode c_L_readTail 48 = .ok (.iinc 4 1, 3) := by decide +kernel
theorem d_L_readTail_51 : decode c_L_readTail 51 = .ok (.goto 62, 3) := by decide +kernel
theorem d_L_readTail_54 : decode c_L_readTail 54 = .ok (.iload 5, 2) := by decide +kernel
theorem d_L_readTail_56 : decode c_L_readTail 56 = .ok (.bipush 108, 2) := by decide +kernel
theorem d_L_readTail_58 : decode c_L_readTail 58 = .ok (.if_icmp .eq 10, 3) := by decide +kernel
theorem d_L_readTail_61 : decode c_L_readTail 61 = .ok (.iload 5, 2) := by decide +kernel
theorem d_L_readTail_63 : decode c_L_readTail 63 = .ok (.bipush 76, 2) := by decide +kernel
theorem d_L_readTail_65 : decode c_L_readTail 65 = .ok (.if_icmp .ne 46, 3) := by decide +kernel
theorem d_L_readTail_68 : decode c_L_readTail 68 = .ok (.iload_n 3, 1) := by decide +kernel
theorem d_L_readTail_69 : decode c_L_readTail 69 = .ok (.ifCond .ne 42, 3) := by decide +kernel
theorem d_L_readTail_72 : decode c_L_readTail 72 = .ok (.iconst 1, 1) := by decide +kernel
theorem d_L_readTail_73 : decode c_L_readTail 73 = .ok (.istore_n 3, 1) := by decide +kernel
theorem d_L_readTail_74 : decode c_L_readTail 74 = .ok (.iload 4, 2) := by decide +kernel
theorem d_L_readTail_76 : decode c_L_readTail 76 = .ok (.iload 4, 2) := by decide +kernel
theorem d_L_readTail_78 : decode c_L_readTail 78 = .ok (.iconst 1, 1) := by decide +kernel
theorem d_L_readTail_79 : decode c_L_readTail 79 = .ok (.iadd, 1) := by decide +kernel
theorem d_L_readTail_80 : decode c_L_readTail 80 = .ok (.iload_n 2, 1) := by decide +kernel
theorem d_L_readTail_81 : decode c_L_readTail 81 = .ok (.if_icmp .ge 23, 3) := by decide +kernel
theorem d_L_readTail_84 : decode c_L_readTail 84 = .ok (.aload_n 0, 1) := by decide +kernel
theorem d_L_readTail_85 : decode c_L_readTail 85 = .ok (.getfield 9, 3) := by decide +kernel
theorem d_L_readTail_88 : decode c_L_readTail 88 = .ok (.iload 4, 2) := by decide +kernel
theorem d_L_readTail_90 : decode c_L_readTail 90 = .ok (.iconst 1, 1) := by decide +kernel
theorem d_L_readTail_91 : decode c_L_readTail 91 = .ok (.iadd, 1) := by decide +kernel
theorem d_L_readTail_92 : decode c_L_readTail 92 = .ok (.invokevirtual 34, 3) := by decide +kernel
theorem d_L_readTail_95 : decode c_L_readTail 95 = .ok (.iload 5, 2) := by decide +kernel
theorem d_L_readTail_97 : decode c_L_readTail 97 = .ok (.if_icmp .ne 7, 3) := by decide +kernel
theorem d_L_readTail_100 : decode c_L_readTail 100 = .ok (.iconst 2, 1) := by decide +kernel
theorem d_L_readTail_101 : decode c_L_readTail 101 = .ok (.goto 4, 3) := by decide +kernel
theorem d_L_readTail_104 : decode c_L_readTail 104 = .ok (.iconst 1, 1) := by decide +kernel
theorem d_L_readTail_105 : decode c_L_readTail 105 = .ok (.iadd, 1) := by decide +kernel
theorem d_L_readTail_106 : decode c_L_readTail 106 = .ok (.istore 4, 2) := by decide +kernel
theorem d_L_readTail_108 : decode c_L_readTail 108 = .ok (.goto 5, 3) := by decide +kernel
theorem d_L_readTail_111 : decode c_L_readTail 111 = .ok (.iconst 0, 1) := by decide +kernel
theorem d_L_readTail_112 : decode c_L_readTail 112 = .ok (.ireturn, 1) := by decide +kernel
theorem d_L_readTail_113 : decode c_L_readTail 113 = .ok (.goto (-108), 3) := by decide +kernel
theorem d_L_readTail_116 : decode c_L_readTail 116 = .ok (.iconst 1, 1) := by decide +kernel
theorem d_L_readTail_117 : decode c_L_readTail 117 = .ok (.ireturn, 1) := by decide +kernel
theorem d_L_readNumber_0 : decode c_L_readNumber 0 = .ok (.aload_n 0, 1) := by decide +kernel
theorem d_L_readNumber_1 : decode c_L_readNumber 1 = .ok (.iload_n 1, 1) := by decide +kernel
theorem d_L_readNumber_2 : decode c_L_readNumber 2 = .ok (.invokevirtual 30, 3) := by decide +kernel
theorem d_L_readNumber_5 : decode c_L_readNumber 5 = .ok (.istore_n 3, 1) := by decide +kernel
theorem d_L_readNumber_6 : decode c_L_readNumber 6 = .ok (.iload_n 3, 1) := by decide +kernel
theorem d_L_readNumber_7 : decode c_L_readNumber 7 = .ok (.bipush 16, 2) := by decide +kernel
theorem d_L_readNumber_9 : decode c_L_readNumber 9 = .ok (.if_icmp .ne 9, 3) := by decide +kernel
theorem d_L_readNumber_12 : decode c_L_readNumber 12 = .ok (.iload_n 1, 1) := by decide +kernel
theorem d_L_readNumber_13 : decode c_L_readNumber 13 = .ok (.iconst 2, 1) := by decide +kernel
theorem d_L_readNumber_14 : decode c_L_readNumber 14 = .ok (.iadd, 1) := by decide +kernel
theorem d_L_readNumber_15 : decode c_L_readNumber 15 = .ok (.goto 4, 3) := by decide +kernel
theorem d_L_readNumber_18 : decode c_L_readNumber 18 = .ok (.iload_n 1, 1) := by decide +kernel
theorem d_L_readNumber_19 : decode c_L_readNumber 19 = .ok (.istore 4, 2) := by decide +kernel
theorem d_L_readNumber_21 : decode c_L_readNumber 21 = .ok (.iload 4, 2) := by decide +kernel
theorem d_L_readNumber_23 : decode c_L_readNumber 23 = .ok (.istore 5, 2) := by decide +kernel
theorem d_L_readNumber_25 : decode c_L_readNumber 25 = .ok (.iload 5, 2) := by decide +kernel
theorem d_L_readNumber_27 : decode c_L_readNumber 27 = .ok (.iload_n 2, 1) := by decide +kernel
theorem d_L_readNumber_28 : decode c_L_readNumber 28 = .ok (.if_icmp .ge 66, 3) := by decide +kernel
theorem d_L_readNumber_31 : decode c_L_readNumber 31 = .ok (.aload_n 0, 1) := by decide +kernel
theorem d_L_readNumber_32 : decode c_L_readNumber 32 = .ok (.getfield 9, 3) := by decide +kernel
theorem d_L_readNumber_35 : decode c_L_readNumber 35 = .ok (.iload 5, 2) := by decide +kernel
theorem d_L_readNumber_37 : decode c_L_readNumber 37 = .ok (.invokevirtual 34, 3) := by decide +kernel
theorem d_L_readNumber_40 : decode c_L_readNumber 40 = .ok (.invokestatic 39, 3) := by decide +kernel
theorem d_L_readNumber_43 : decode c_L_readNumber 43 = .ok (.iload_n 3, 1) := by decide +kernel
theorem d_L_readNumber_44 : decode c_L_readNumber 44 = .ok (.if_icmp .ge 50, 3) := by decide +kernel
theorem d_L_readNumber_47 : decode c_L_readNumber 47 = .ok (.aload_n 0, 1) := by decide +kernel
theorem d_L_readNumber_48 : decode c_L_readNumber 48 = .ok (.getfield 9, 3) := by decide +kernel
theorem d_L_readNumber_51 : decode c_L_readNumber 51 = .ok (.iload 5, 2) := by decide +kernel
theorem d_L_readNumber_53 : decode c_L_readNumber 53 = .ok (.invokevirtual 34, 3) := by decide +kernel
theorem d_L_readNumber_56 : decode c_L_readNumber 56 = .ok (.invokestatic 39, 3) := by decide +kernel
theorem d_L_readNumber_59 : decode c_L_readNumber 59 = .ok (.istore 6, 2) := by decide +kernel
theorem d_L_readNumber_61 : decode c_L_readNumber 61 = .ok (.aload_n 0, 1) := by decide +kernel
theorem d_L_readNumber_62 : decode c_L_readNumber 62 = .ok (.iload_n 3, 1) := by decide +kernel
theorem d_L_readNumber_63 : decode c_L_readNumber 63 = .ok (.iload 6, 2) := by decide +kernel
theorem d_L_readNumber_65 : decode c_L_readNumber 65 = .ok (.invokevirtual 42, 3) := by decide +kernel
theorem d_L_readNumber_68 : decode c_L_readNumber 68 = .ok (.ifCond .ne 5, 3) := by decide +kernel
theorem d_L_readNumber_71 : decode c_L_readNumber 71 = .ok (.iconst 0, 1) := by decide +kernel
theorem d_L_readNumber_72 : decode c_L_readNumber 72 = .ok (.ireturn, 1) := by decide +kernel
theorem d_L_readNumber_73 : decode c_L_readNumber 73 = .ok (.aload_n 0, 1) := by decide +kernel
theorem d_L_readNumber_74 : decode c_L_readNumber 74 = .ok (.aload_n 0, 1) := by decide +kernel
theorem d_L_readNumber_75 : decode c_L_readNumber 75 = .ok (.getfield 15, 3) := by decide +kernel
theorem d_L_readNumber_78 : decode c_L_readNumber 78 = .ok (.iload_n 3, 1) := by decide +kernel
theorem d_L_readNumber_79 : decode c_L_readNumber 79 = .ok (.i2l, 1) := by decide +kernel
theorem d_L_readNumber_80 : decode c_L_readNumber 80 = .ok (.lmul, 1) := by decide +kernel
theorem d_L_readNumber_81 : decode c_L_readNumber 81 = .ok (.iload 6, 2) := by decide +kernel
theorem d_L_readNumber_83 : decode c_L_readNumber 83 = .ok (.i2l, 1) := by decide +kernel
theorem d_L_readNumber_84 : decode c_L_readNumber 84 = .ok (.ladd, 1) := by decide +kernel
theorem d_L_readNumber_85 : decode c_L_readNumber 85 = .ok (.putfield 15, 3) := by decide +kernel
theorem d_L_readNumber_88 : decode c_L_readNumber 88 = .ok (.iinc 5 1, 3) := by decide +kernel
theorem d_L_readNumber_91 : decode c_L_readNumber 91 = .ok (.goto (-66), 3) := by decide +kernel
theorem d_L_readNumber_94 : decode c_L_readNumber 94 = .ok (.iload 5, 2) := by decide +kernel
theorem d_L_readNumber_96 : decode c_L_readNumber 96 = .ok (.iload 4, 2) := by decide +kernel
theorem d_L_readNumber_98 : decode c_L_readNumber 98 = .ok (.if_icmp .eq 13, 3) := by decide +kernel
theorem d_L_readNumber_101 : decode c_L_readNumber 101 = .ok (.aload_n 0, 1) := by decide +kernel
theorem d_L_readNumber_102 : decode c_L_readNumber 102 = .ok (.iload 5, 2) := by decide +kernel
theorem d_L_readNumber_104 : decode c_L_readNumber 104 = .ok (.iload_n 2, 1) := by decide +kernel
theorem d_L_readNumber_105 : decode c_L_readNumber 105 = .ok (.invokevirtual 45, 3) := by decide +kernel
theorem d_L_readNumber_108 : decode c_L_readNumber 108 = .ok (.ifCond .ne 5, 3) := by decide +kernel
theorem d_L_readNumber_111 : decode c_L_readNumber 111 = .ok (.iconst 0, 1) := by decide +kernel
theorem d_L_readNumber_112 : decode c_L_readNumber 112 = .ok (.ireturn, 1) := by decide +kernel
theorem d_L_readNumber_113 : decode c_L_readNumber 113 = .ok (.aload_n 0, 1) := by decide +kernel
theorem d_L_readNumber_114 : decode c_L_readNumber 114 = .ok (.getfield 15, 3) := by decide +kernel
theorem d_L_readNumber_117 : decode c_L_readNumber 117 = .ok (.lconst 0, 1) := by decide +kernel
theorem d_L_readNumber_118 : decode c_L_readNumber 118 = .ok (.lcmp, 1) := by decide +kernel
theorem d_L_readNumber_119 : decode c_L_readNumber 119 = .ok (.ifCond .ge 27, 3) := by decide +kernel
theorem d_L_readNumber_122 : decode c_L_readNumber 122 = .ok (.aload_n 0, 1) := by decide +kernel
theorem d_L_readNumber_123 : decode c_L_readNumber 123 = .ok (.getfield 19, 3) := by decide +kernel
theorem d_L_readNumber_126 : decode c_L_readNumber 126 = .ok (.ifCond .ne 20, 3) := by decide +kernel
theorem d_L_readNumber_129 : decode c_L_readNumber 129 = .ok (.aload_n 0, 1) := by decide +kernel
theorem d_L_readNumber_130 : decode c_L_readNumber 130 = .ok (.iconst 1, 1) := by decide +kernel
theorem d_L_readNumber_131 : decode c_L_readNumber 131 = .ok (.putfield 19, 3) := by decide +kernel
theorem d_L_readNumber_134 : decode c_L_readNumber 134 = .ok (.iload_n 3, 1) := by decide +kernel
theorem d_L_readNumber_135 : decode c_L_readNumber 135 = .ok (.bipush 10, 2) := by decide +kernel
theorem d_L_readNumber_137 : decode c_L_readNumber 137 = .ok (.if_icmp .eq 7, 3) := by decide +kernel
theorem d_L_readNumber_140 : decode c_L_readNumber 140 = .ok (.iconst 1, 1) := by decide +kernel
theorem d_L_readNumber_141 : decode c_L_readNumber 141 = .ok (.goto 4, 3) := by decide +kernel
theorem d_L_readNumber_144 : decode c_L_readNumber 144 = .ok (.iconst 0, 1) := by decide +kernel
theorem d_L_readNumber_145 : decode c_L_readNumber 145 = .ok (.ireturn, 1) := by decide +kernel
theorem d_L_readNumber_146 : decode c_L_readNumber 146 = .ok (.iconst 1, 1) := by decide +kernel
theorem d_L_readNumber_147 : decode c_L_readNumber 147 = .ok (.ireturn, 1) := by decide +kernel
theorem d_L_readCharacter_0 : decode c_L_readCharacter 0 = .ok (.aload_n 0, 1) := by decide +kernel
theorem d_L_readCharacter_1 : decode c_L_readCharacter 1 = .ok (.getfield 9, 3) := by decide +kernel
theorem d_L_readCharacter_4 : decode c_L_readCharacter 4 = .ok (.iload_n 1, 1) := by decide +kernel
theorem d_L_readCharacter_5 : decode c_L_readCharacter 5 = .ok (.invokevirtual 34, 3) := by decide +kernel
theorem d_L_readCharacter_8 : decode c_L_readCharacter 8 = .ok (.bipush 39, 2) := by decide +kernel
theorem d_L_readCharacter_10 : decode c_L_readCharacter 10 = .ok (.if_icmp .eq 5, 3) := by decide +kernel
theorem d_L_readCharacter_13 : decode c_L_readCharacter 13 = .ok (.iconst 0, 1) := by decide +kernel
theorem d_L_readCharacter_14 : decode c_L_readCharacter 14 = .ok (.ireturn, 1) := by decide +kernel
theorem d_L_readCharacter_15 : decode c_L_readCharacter 15 = .ok (.iload_n 2, 1) := by decide +kernel
theorem d_L_readCharacter_16 : decode c_L_readCharacter 16 = .ok (.iload_n 1, 1) := by decide +kernel
theorem d_L_readCharacter_17 : decode c_L_readCharacter 17 = .ok (.isub, 1) := by decide +kernel
theorem d_L_readCharacter_18 : decode c_L_readCharacter 18 = .ok (.iconst 3, 1) := by decide +kernel
theorem d_L_readCharacter_19 : decode c_L_readCharacter 19 = .ok (.if_icmp .ne 20, 3) := by decide +kernel
theorem d_L_readCharacter_22 : decode c_L_readCharacter 22 = .ok (.aload_n 0, 1) := by decide +kernel
theorem d_L_readCharacter_23 : decode c_L_readCharacter 23 = .ok (.aload_n 0, 1) := by decide +kernel
theorem d_L_readCharacter_24 : decode c_L_readCharacter 24 = .ok (.getfield 9, 3) := by decide +kernel
theorem d_L_readCharacter_27 : decode c_L_readCharacter 27 = .ok (.iload_n 1, 1) := by decide +kernel
theorem d_L_readCharacter_28 : decode c_L_readCharacter 28 = .ok (.iconst 1, 1) := by decide +kernel
theorem d_L_readCharacter_29 : decode c_L_readCharacter 29 = .ok (.iadd, 1) := by decide +kernel
theorem d_L_readCharacter_30 : decode c_L_readCharacter 30 = .ok (.invokevirtual 34, 3) := by decide +kernel
theorem d_L_readCharacter_33 : decode c_L_readCharacter 33 = .ok (.i2l, 1) := by decide +kernel
theorem d_L_readCharacter_34 : decode c_L_readCharacter 34 = .ok (.putfield 15, 3) := by decide +kernel
theorem d_L_readCharacter_37 : decode c_L_readCharacter 37 = .ok (.iconst 1, 1) := by decide +kernel
theorem d_L_readCharacter_38 : decode c_L_readCharacter 38 = .ok (.ireturn, 1) := by decide +kernel
theorem d_L_readCharacter_39 : decode c_L_readCharacter 39 = .ok (.iload_n 2, 1) := by decide +kernel
theorem d_L_readCharacter_40 : decode c_L_readCharacter 40 = .ok (.iload_n 1, 1) := by decide +kernel
theorem d_L_readCharacter_41 : decode c_L_readCharacter 41 = .ok (.isub, 1) := by decide +kernel
theorem d_L_readCharacter_42 : decode c_L_readCharacter 42 = .ok (.iconst 4, 1) := by decide +kernel
theorem d_L_readCharacter_43 : decode c_L_readCharacter 43 = .ok (.if_icmp .ne 18, 3) := by decide +kernel
theorem d_L_readCharacter_46 : decode c_L_readCharacter 46 = .ok (.aload_n 0, 1) := by decide +kernel
theorem d_L_readCharacter_47 : decode c_L_readCharacter 47 = .ok (.getfield 9, 3) := by decide +kernel
theorem d_L_readCharacter_50 : decode c_L_readCharacter 50 = .ok (.iload_n 1, 1) := by decide +kernel
theorem d_L_readCharacter_51 : decode c_L_readCharacter 51 = .ok (.iconst 1, 1) := by decide +kernel
theorem d_L_readCharacter_52 : decode c_L_readCharacter 52 = .ok (.iadd, 1) := by decide +kernel
theorem d_L_readCharacter_53 : decode c_L_readCharacter 53 = .ok (.invokevirtual 34, 3) := by decide +kernel
theorem d_L_readCharacter_56 : decode c_L_readCharacter 56 = .ok (.bipush 92, 2) := by decide +kernel
theorem d_L_readCharacter_58 : decode c_L_readCharacter 58 = .ok (.if_icmp .eq 5, 3) := by decide +kernel
theorem d_L_readCharacter_61 : decode c_L_readCharacter 61 = .ok (.iconst 0, 1) := by decide +kernel
theorem d_L_readCharacter_62 : decode c_L_readCharacter 62 = .ok (.ireturn, 1) := by decide +kernel
theorem d_L_readCharacter_63 : decode c_L_readCharacter 63 = .ok (.aload_n 0, 1) := by decide +kernel
theorem d_L_readCharacter_64 : decode c_L_readCharacter 64 = .ok (.aload_n 0, 1) := by decide +kernel
theorem d_L_readCharacter_65 : decode c_L_readCharacter 65 = .ok (.getfield 9, 3) := by decide +kernel
theorem d_L_readCharacter_68 : decode c_L_readCharacter 68 = .ok (.iload_n 1, 1) := by decide +kernel
theorem d_L_readCharacter_69 : decode c_L_readCharacter 69 = .ok (.iconst 2, 1) := by decide +kernel
theorem d_L_readCharacter_70 : decode c_L_readCharacter 70 = .ok (.iadd, 1) := by decide +kernel
theorem d_L_readCharacter_71 : decode c_L_readCharacter 71 = .ok (.invokevirtual 34, 3) := by decide +kernel
theorem d_L_readCharacter_74 : decode c_L_readCharacter 74 = .ok (.invokestatic 50, 3) := by decide +kernel
theorem d_L_readCharacter_77 : decode c_L_readCharacter 77 = .ok (.i2l, 1) := by decide +kernel
theorem d_L_readCharacter_78 : decode c_L_readCharacter 78 = .ok (.putfield 15, 3) := by decide +kernel
theorem d_L_readCharacter_81 : decode c_L_readCharacter 81 = .ok (.aload_n 0, 1) := by decide +kernel
theorem d_L_readCharacter_82 : decode c_L_readCharacter 82 = .ok (.getfield 15, 3) := by decide +kernel
theorem d_L_readCharacter_85 : decode c_L_readCharacter 85 = .ok (.ldc2_w 53, 3) := by decide +kernel
theorem d_L_readCharacter_88 : decode c_L_readCharacter 88 = .ok (.lcmp, 1) := by decide +kernel
theorem d_L_readCharacter_89 : decode c_L_readCharacter 89 = .ok (.ifCond .eq 7, 3) := by decide +kernel
theorem d_L_readCharacter_92 : decode c_L_readCharacter 92 = .ok (.iconst 1, 1) := by decide +kernel
theorem d_L_readCharacter_93 : decode c_L_readCharacter 93 = .ok (.goto 4, 3) := by decide +kernel
theorem d_L_readCharacter_96 : decode c_L_readCharacter 96 = .ok (.iconst 0, 1) := by decide +kernel
theorem d_L_readCharacter_97 : decode c_L_readCharacter 97 = .ok (.ireturn, 1) := by decide +kernel
theorem d_L_read_0 : decode c_L_read 0 = .ok (.aload_n 0, 1) := by decide +kernel
theorem d_L_read_1 : decode c_L_read 1 = .ok (.lconst 0, 1) := by decide +kernel
theorem d_L_read_2 : decode c_L_read 2 = .ok (.putfield 15, 3) := by decide +kernel
theorem d_L_read_5 : decode c_L_read 5 = .ok (.aload_n 0, 1) := by decide +kernel
theorem d_L_read_6 : decode c_L_read 6 = .ok (.iconst 0, 1) := by decide +kernel
theorem d_L_read_7 : decode c_L_read 7 = .ok (.putfield 19, 3) := by decide +kernel
theorem d_L_read_10 : decode c_L_read 10 = .ok (.iload_n 1, 1) := by decide +kernel
theorem d_L_read_11 : decode c_L_read 11 = .ok (.tableswitch 45 1 4 #[29, 31, 45, 38], 29) := by decide +kernel
theorem d_L_read_40 : decode c_L_read 40 = .ok (.iconst 1, 1) := by decide +kernel
theorem d_L_read_41 : decode c_L_read 41 = .ok (.ireturn, 1) := by decide +kernel
theorem d_L_read_42 : decode c_L_read 42 = .ok (.aload_n 0, 1) := by decide +kernel
theorem d_L_read_43 : decode c_L_read 43 = .ok (.iload_n 2, 1) := by decide +kernel
theorem d_L_read_44 : decode c_L_read 44 = .ok (.iload_n 3, 1) := by decide +kernel
theorem d_L_read_45 : decode c_L_read 45 = .ok (.invokevirtual 23, 3) := by decide +kernel
theorem d_L_read_48 : decode c_L_read 48 = .ok (.ireturn, 1) := by decide +kernel
theorem d_L_read_49 : decode c_L_read 49 = .ok (.aload_n 0, 1) := by decide +kernel
theorem d_L_read_50 : decode c_L_read 50 = .ok (.iload_n 2, 1) := by decide +kernel
theorem d_L_read_51 : decode c_L_read 51 = .ok (.iload_n 3, 1) := by decide +kernel
theorem d_L_read_52 : decode c_L_read 52 = .ok (.invokevirtual 27, 3) := by decide +kernel
theorem d_L_read_55 : decode c_L_read 55 = .ok (.ireturn, 1) := by decide +kernel
theorem d_L_read_56 : decode c_L_read 56 = .ok (.iconst 0, 1) := by decide +kernel
theorem d_L_read_57 : decode c_L_read 57 = .ok (.ireturn, 1) := by decide +kernel
