theorem d_QJS_isLatin1_0 : decode c_QJS_isLatin1 0 = .ok (.getstatic 38, 3) := by decide +kernel
theorem d_QJS_isLatin1_3 : decode c_QJS_isLatin1 3 = .ok (.ifCond .eq 14, 3) := by decide +kernel
theorem d_QJS_isLatin1_6 : decode c_QJS_isLatin1 6 = .ok (.aload_n 0, 1) := by decide +kernel
theorem d_QJS_isLatin1_7 : decode c_QJS_isLatin1 7 = .ok (.getfield 15, 3) := by decide +kernel
theorem d_QJS_isLatin1_10 : decode c_QJS_isLatin1 10 = .ok (.ifCond .ne 7, 3) := by decide +kernel
theorem d_QJS_isLatin1_13 : decode c_QJS_isLatin1 13 = .ok (.iconst 1, 1) := by decide +kernel
theorem d_QJS_isLatin1_14 : decode c_QJS_isLatin1 14 = .ok (.goto 4, 3) := by decide +kernel
theorem d_QJS_isLatin1_17 : decode c_QJS_isLatin1 17 = .ok (.iconst 0, 1) := by decide +kernel
theorem d_QJS_isLatin1_18 : decode c_QJS_isLatin1 18 = .ok (.ireturn, 1) := by decide +kernel
theorem d_QJS_coder_0 : decode c_QJS_coder 0 = .ok (.getstatic 38, 3) := by decide +kernel
theorem d_QJS_coder_3 : decode c_QJS_coder 3 = .ok (.ifCond .eq 10, 3) := by decide +kernel
theorem d_QJS_coder_6 : decode c_QJS_coder 6 = .ok (.aload_n 0, 1) := by decide +kernel
theorem d_QJS_coder_7 : decode c_QJS_coder 7 = .ok (.getfield 15, 3) := by decide +kernel
theorem d_QJS_coder_10 : decode c_QJS_coder 10 = .ok (.goto 4, 3) := by decide +kernel
theorem d_QJS_coder_13 : decode c_QJS_coder 13 = .ok (.iconst 1, 1) := by decide +kernel
theorem d_QJS_coder_14 : decode c_QJS_coder 14 = .ok (.ireturn, 1) := by decide +kernel
theorem d_QJS_length_0 : decode c_QJS_length 0 = .ok (.aload_n 0, 1) := by decide +kernel
theorem d_QJS_length_1 : decode c_QJS_length 1 = .ok (.getfield 9, 3) := by decide +kernel
theorem d_QJS_length_4 : decode c_QJS_length 4 = .ok (.arraylength, 1) := by decide +kernel
theorem d_QJS_length_5 : decode c_QJS_length 5 = .ok (.aload_n 0, 1) := by decide +kernel
theorem d_QJS_length_6 : decode c_QJS_length 6 = .ok (.invokevirtual 335, 3) := by decide +kernel
theorem d_QJS_length_9 : decode c_QJS_length 9 = .ok (.ishr, 1) := by decide +kernel
theorem d_QJS_length_10 : decode c_QJS_length 10 = .ok (.ireturn, 1) := by decide +kernel
theorem d_QJP_checkIndex_0 : decode c_QJP_checkIndex 0 = .ok (.iload_n 0, 1) := by decide +kernel
theorem d_QJP_checkIndex_1 : decode c_QJP_checkIndex 1 = .ok (.ifCond .lt 8, 3) := by decide +kernel
theorem d_QJP_checkIndex_4 : decode c_QJP_checkIndex 4 = .ok (.iload_n 0, 1) := by decide +kernel
theorem d_QJP_checkIndex_5 : decode c_QJP_checkIndex 5 = .ok (.iload_n 1, 1) := by decide +kernel
theorem d_QJP_checkIndex_6 : decode c_QJP_checkIndex 6 = .ok (.if_icmp .lt 10, 3) := by decide +kernel
theorem d_QJP_checkIndex_9 : decode c_QJP_checkIndex 9 = .ok (.aload_n 2, 1) := by decide +kernel
theorem d_QJP_checkIndex_10 : decode c_QJP_checkIndex 10 = .ok (.iload_n 0, 1) := by decide +kernel
theorem d_QJP_checkIndex_11 : decode c_QJP_checkIndex 11 = .ok (.iload_n 1, 1) := by decide +kernel
theorem d_QJP_checkIndex_12 : decode c_QJP_checkIndex 12 = .ok (.invokestatic 95, 3) := by decide +kernel
theorem d_QJP_checkIndex_15 : decode c_QJP_checkIndex 15 = .ok (.athrow, 1) := by decide +kernel
theorem d_QJP_checkIndex_16 : decode c_QJP_checkIndex 16 = .ok (.iload_n 0, 1) := by decide +kernel
theorem d_QJP_checkIndex_17 : decode c_QJP_checkIndex 17 = .ok (.ireturn, 1) := by decide +kernel
theorem d_QJS_checkIndex_0 : decode c_QJS_checkIndex 0 = .ok (.iload_n 0, 1) := by decide +kernel
theorem d_QJS_checkIndex_1 : decode c_QJS_checkIndex 1 = .ok (.iload_n 1, 1) := by decide +kernel
theorem d_QJS_checkIndex_2 : decode c_QJS_checkIndex 2 = .ok (.getstatic 1053, 3) := by decide +kernel
theorem d_QJS_checkIndex_5 : decode c_QJS_checkIndex 5 = .ok (.invokestatic 1059, 3) := by decide +kernel
theorem d_QJS_checkIndex_8 : decode c_QJS_checkIndex 8 = .ok (.pop, 1) := by decide +kernel
theorem d_QJS_checkIndex_9 : decode c_QJS_checkIndex 9 = .ok (.return_, 1) := by decide +kernel
theorem d_QJL_charAt_0 : decode c_QJL_charAt 0 = .ok (.iload_n 1, 1) := by decide +kernel
theorem d_QJL_charAt_1 : decode c_QJL_charAt 1 = .ok (.aload_n 0, 1) := by decide +kernel
theorem d_QJL_charAt_2 : decode c_QJL_charAt 2 = .ok (.arraylength, 1) := by decide +kernel
theorem d_QJL_charAt_3 : decode c_QJL_charAt 3 = .ok (.invokestatic 9, 3) := by decide +kernel
theorem d_QJL_charAt_6 : decode c_QJL_charAt 6 = .ok (.aload_n 0, 1) := by decide +kernel
theorem d_QJL_charAt_7 : decode c_QJL_charAt 7 = .ok (.iload_n 1, 1) := by decide +kernel
theorem d_QJL_charAt_8 : decode c_QJL_charAt 8 = .ok (.baload, 1) := by decide +kernel
theorem d_QJL_charAt_9 : decode c_QJL_charAt 9 = .ok (.sipush 255, 3) := by decide +kernel
theorem d_QJL_charAt_12 : decode c_QJL_charAt 12 = .ok (.iand, 1) := by decide +kernel
theorem d_QJL_charAt_13 : decode c_QJL_charAt 13 = .ok (.i2c, 1) := by decide +kernel
theorem d_QJL_charAt_14 : decode c_QJL_charAt 14 = .ok (.ireturn, 1) := by decide +kernel
theorem d_QJS_charAt_0 : decode c_QJS_charAt 0 = .ok (.aload_n 0, 1) := by decide +kernel
theorem d_QJS_charAt_1 : decode c_QJS_charAt 1 = .ok (.invokevirtual 492, 3) := by decide +kernel
theorem d_QJS_charAt_4 : decode c_QJS_charAt 4 = .ok (.ifCond .eq 12, 3) := by decide +kernel
theorem d_QJS_charAt_7 : decode c_QJS_charAt 7 = .ok (.aload_n 0, 1) := by decide +kernel
theorem d_QJS_charAt_8 : decode c_QJS_charAt 8 = .ok (.getfield 9, 3) := by decide +kernel
theorem d_QJS_charAt_11 : decode c_QJS_charAt 11 = .ok (.iload_n 1, 1) := by decide +kernel
theorem d_QJS_charAt_12 : decode c_QJS_charAt 12 = .ok (.invokestatic 495, 3) := by decide +kernel
theorem d_QJS_charAt_15 : decode c_QJS_charAt 15 = .ok (.ireturn, 1) := by decide +kernel
theorem d_QJS_charAt_16 : decode c_QJS_charAt 16 = .ok (.aload_n 0, 1) := by decide +kernel
theorem d_QJS_charAt_17 : decode c_QJS_charAt 17 = .ok (.getfield 9, 3) := by decide +kernel
theorem d_QJS_charAt_20 : decode c_QJS_charAt 20 = .ok (.iload_n 1, 1) := by decide +kernel
theorem d_QJS_charAt_21 : decode c_QJS_charAt 21 = .ok (.invokestatic 498, 3) := by decide +kernel
theorem d_QJS_charAt_24 : decode c_QJS_charAt 24 = .ok (.ireturn, 1) := by decide +kernel
theorem d_QJS_hashCode_0 : decode c_QJS_hashCode 0 = .ok (.aload_n 0, 1) := by decide +kernel
theorem d_QJS_hashCode_1 : decode c_QJS_hashCode 1 = .ok (.getfield 19, 3) := by decide +kernel
theorem d_QJS_hashCode_4 : decode c_QJS_hashCode 4 = .ok (.istore_n 1, 1) := by decide +kernel
theorem d_QJS_hashCode_5 : decode c_QJS_hashCode 5 = .ok (.iload_n 1, 1) := by decide +kernel
theorem d_QJS_hashCode_6 : decode c_QJS_hashCode 6 = .ok (.ifCond .ne 52, 3) := by decide +kernel
theorem d_QJS_hashCode_9 : decode c_QJS_hashCode 9 = .ok (.aload_n 0, 1) := by decide +kernel
theorem d_QJS_hashCode_10 : decode c_QJS_hashCode 10 = .ok (.getfield 23, 3) := by decide +kernel
theorem d_QJS_hashCode_13 : decode c_QJS_hashCode 13 = .ok (.ifCond .ne 45, 3) := by decide +kernel
theorem d_QJS_hashCode_16 : decode c_QJS_hashCode 16 = .ok (.aload_n 0, 1) := by decide +kernel
theorem d_QJS_hashCode_17 : decode c_QJS_hashCode 17 = .ok (.invokevirtual 492, 3) := by decide +kernel
theorem d_QJS_hashCode_20 : decode c_QJS_hashCode 20 = .ok (.ifCond .eq 13, 3) := by decide +kernel
theorem d_QJS_hashCode_23 : decode c_QJS_hashCode 23 = .ok (.aload_n 0, 1) := by decide +kernel
theorem d_QJS_hashCode_24 : decode c_QJS_hashCode 24 = .ok (.getfield 9, 3) := by decide +kernel
theorem d_QJS_hashCode_27 : decode c_QJS_hashCode 27 = .ok (.invokestatic 628, 3) := by decide +kernel
theorem d_QJS_hashCode_30 : decode c_QJS_hashCode 30 = .ok (.goto 10, 3) := by decide +kernel
theorem d_QJS_hashCode_33 : decode c_QJS_hashCode 33 = .ok (.aload_n 0, 1) := by decide +kernel
theorem d_QJS_hashCode_34 : decode c_QJS_hashCode 34 = .ok (.getfield 9, 3) := by decide +kernel
theorem d_QJS_hashCode_37 : decode c_QJS_hashCode 37 = .ok (.invokestatic 632, 3) := by decide +kernel
theorem d_QJS_hashCode_40 : decode c_QJS_hashCode 40 = .ok (.istore_n 1, 1) := by decide +kernel
theorem d_QJS_hashCode_41 : decode c_QJS_hashCode 41 = .ok (.iload_n 1, 1) := by decide +kernel
theorem d_QJS_hashCode_42 : decode c_QJS_hashCode 42 = .ok (.ifCond .ne 11, 3) := by decide +kernel
theorem d_QJS_hashCode_45 : decode c_QJS_hashCode 45 = .ok (.aload_n 0, 1) := by decide +kernel
theorem d_QJS_hashCode_46 : decode c_QJS_hashCode 46 = .ok (.iconst 1, 1) := by decide +kernel
theorem d_QJS_hashCode_47 : decode c_QJS_hashCode 47 = .ok (.putfield 23, 3) := by decide +kernel
theorem d_QJS_hashCode_50 : decode c_QJS_hashCode 50 = .ok (.goto 8, 3) := by decide +kernel
theorem d_QJS_hashCode_53 : decode c_QJS_hashCode 53 = .ok (.aload_n 0, 1) := by decide +kernel
theorem d_QJS_hashCode_54 : decode c_QJS_hashCode 54 = .ok (.iload_n 1, 1) := by decide +kernel
theorem d_QJS_hashCode_55 : decode c_QJS_hashCode 55 = .ok (.putfield 19, 3) := by decide +kernel
theorem d_QJS_hashCode_58 : decode c_QJS_hashCode 58 = .ok (.iload_n 1, 1) := by decide +kernel
theorem d_QJS_hashCode_59 : decode c_QJS_hashCode 59 = .ok (.ireturn, 1) := by decide +kernel
theorem d_QJL_equals_0 : decode c_QJL_equals 0 = .ok (.aload_n 0, 1) := by decide +kernel
theorem d_QJL_equals_1 : decode c_QJL_equals 1 = .ok (.arraylength, 1) := by decide +kernel
theorem d_QJL_equals_2 : decode c_QJL_equals 2 = .ok (.aload_n 1, 1) := by decide +kernel
theorem d_QJL_equals_3 : decode c_QJL_equals 3 = .ok (.arraylength, 1) := by decide +kernel
theorem d_QJL_equals_4 : decode c_QJL_equals 4 = .ok (.if_icmp .ne 30, 3) := by decide +kernel
theorem d_QJL_equals_7 : decode c_QJL_equals 7 = .ok (.iconst 0, 1) := by decide +kernel
theorem d_QJL_equals_8 : decode c_QJL_equals 8 = .ok (.istore_n 2, 1) := by decide +kernel
theorem d_QJL_equals_9 : decode c_QJL_equals 9 = .ok (.iload_n 2, 1) := by decide +kernel
theorem d_QJL_equals_10 : decode c_QJL_equals 10 = .ok (.aload_n 0, 1) := by decide +kernel
theorem d_QJL_equals_11 : decode c_QJL_equals 11 = .ok (.arraylength, 1) := by decide +kernel
theorem d_QJL_equals_12 : decode c_QJL_equals 12 = .ok (.if_icmp .ge 20, 3) := by decide +kernel
theorem d_QJL_equals_15 : decode c_QJL_equals 15 = .ok (.aload_n 0, 1) := by decide +kernel
theorem d_QJL_equals_16 : decode c_QJL_equals 16 = .ok (.iload_n 2, 1) := by decide +kernel
theorem d_QJL_equals_17 : decode c_QJL_equals 17 = .ok (.baload, 1) := by decide +kernel
theorem d_QJL_equals_18 : decode c_QJL_equals 18 = .ok (.aload_n 1, 1) := by decide +kernel
theorem d_QJL_equals_19 : decode c_QJL_equals 19 = .ok (.iload_n 2, 1) := by decide +kernel
theorem d_QJL_equals_20 : decode c_QJL_equals 20 = .ok (.baload, 1) := by decide +kernel
theorem d_QJL_equals_21 : decode c_QJL_equals 21 = .ok (.if_icmp .eq 5, 3) := by decide +kernel
theorem d_QJL_equals_24 : decode c_QJL_equals 24 = .ok (.iconst 0, 1) := by decide +kernel
theorem d_QJL_equals_25 : decode c_QJL_equals 25 = .ok (.ireturn, 1) := by decide +kernel
theorem d_QJL_equals_26 : decode c_QJL_equals 26 = .ok (.iinc 2 1, 3) := by decide +kernel
theorem d_QJL_equals_29 : decode c_QJL_equals 29 = .ok (.goto (-20), 3) := by decide +kernel
theorem d_QJL_equals_32 : decode c_QJL_equals 32 = .ok (.iconst 1, 1) := by decide +kernel
theorem d_QJL_equals_33 : decode c_QJL_equals 33 = .ok (.ireturn, 1) := by decide +kernel
theorem d_QJL_equals_34 : decode c_QJL_equals 34 = .ok (.iconst 0, 1) := by decide +kernel
theorem d_QJL_equals_35 : decode c_QJL_equals 35 = .ok (.ireturn, 1) := by decide +kernel
theorem d_QJS_equals_0 : decode c_QJS_equals 0 = .ok (.aload_n 0, 1) := by decide +kernel
theorem d_QJS_equals_1 : decode c_QJS_equals 1 = .ok (.aload_n 1, 1) := by decide +kernel
theorem d_QJS_equals_2 : decode c_QJS_equals 2 = .ok (.if_acmp .ne 5, 3) := by decide +kernel
theorem d_QJS_equals_5 : decode c_QJS_equals 5 = .ok (.iconst 1, 1) := by decide +kernel
theorem d_QJS_equals_6 : decode c_QJS_equals 6 = .ok (.ireturn, 1) := by decide +kernel
theorem d_QJS_equals_7 : decode c_QJS_equals 7 = .ok (.aload_n 1, 1) := by decide +kernel
theorem d_QJS_equals_8 : decode c_QJS_equals 8 = .ok (.instanceof 10, 3) := by decide +kernel
theorem d_QJS_equals_11 : decode c_QJS_equals 11 = .ok (.ifCond .eq 43, 3) := by decide +kernel
theorem d_QJS_equals_14 : decode c_QJS_equals 14 = .ok (.aload_n 1, 1) := by decide +kernel
theorem d_QJS_equals_15 : decode c_QJS_equals 15 = .ok (.checkcast 10, 3) := by decide +kernel
theorem d_QJS_equals_18 : decode c_QJS_equals 18 = .ok (.astore_n 2, 1) := by decide +kernel
theorem d_QJS_equals_19 : decode c_QJS_equals 19 = .ok (.getstatic 38, 3) := by decide +kernel
theorem d_QJS_equals_22 : decode c_QJS_equals 22 = .ok (.ifCond .eq 14, 3) := by decide +kernel
theorem d_QJS_equals_25 : decode c_QJS_equals 25 = .ok (.aload_n 0, 1) := by decide +kernel
theorem d_QJS_equals_26 : decode c_QJS_equals 26 = .ok (.getfield 15, 3) := by decide +kernel
theorem d_QJS_equals_29 : decode c_QJS_equals 29 = .ok (.aload_n 2, 1) := by decide +kernel
theorem d_QJS_equals_30 : decode c_QJS_equals 30 = .ok (.getfield 15, 3) := by decide +kernel
theorem d_QJS_equals_33 : decode c_QJS_equals 33 = .ok (.if_icmp .ne 21, 3) := by decide +kernel
theorem d_QJS_equals_36 : decode c_QJS_equals 36 = .ok (.aload_n 0, 1) := by decide +kernel
theorem d_QJS_equals_37 : decode c_QJS_equals 37 = .ok (.getfield 9, 3) := by decide +kernel
theorem d_QJS_equals_40 : decode c_QJS_equals 40 = .ok (.aload_n 2, 1) := by decide +kernel
theorem d_QJS_equals_41 : decode c_QJS_equals 41 = .ok (.getfield 9, 3) := by decide +kernel
theorem d_QJS_equals_44 : decode c_QJS_equals 44 = .ok (.invokestatic 541, 3) := by decide +kernel
theorem d_QJS_equals_47 : decode c_QJS_equals 47 = .ok (.ifCond .eq 7, 3) := by decide +kernel
theorem d_QJS_equals_50 : decode c_QJS_equals 50 = .ok (.iconst 1, 1) := by decide +kernel
theorem d_QJS_equals_51 : decode c_QJS_equals 51 = .ok (.goto 4, 3) := by decide +kernel
theorem d_QJS_equals_54 : decode c_QJS_equals 54 = .ok (.iconst 0, 1) := by decide +kernel
theorem d_QJS_equals_55 : decode c_QJS_equals 55 = .ok (.ireturn, 1) := by decide +kernel
theorem d_R_isOneOf_0 : decode c_R_isOneOf 0 = .ok (.iconst 0, 1) := by decide +kernel
theorem d_R_isOneOf_1 : decode c_R_isOneOf 1 = .ok (.istore_n 2, 1) := by decide +kernel
theorem d_R_isOneOf_2 : decode c_R_isOneOf 2 = .ok (.iconst 0, 1) := by decide +kernel
theorem d_R_isOneOf_3 : decode c_R_isOneOf 3 = .ok (.istore_n 3, 1) := by decide +kernel
theorem d_R_isOneOf_4 : decode c_R_isOneOf 4 = .ok (.iload_n 3, 1) := by decide +kernel
theorem d_R_isOneOf_5 : decode c_R_isOneOf 5 = .ok (.aload_n 1, 1) := by decide +kernel
theorem d_R_isOneOf_6 : decode c_R_isOneOf 6 = .ok (.invokevirtual 35, 3) := by decide +kernel
theorem d_R_isOneOf_9 : decode c_R_isOneOf 9 = .ok (.if_icmp .ge 28, 3) := by decide +kernel
theorem d_R_isOneOf_12 : decode c_R_isOneOf 12 = .ok (.iload_n 2, 1) := by decide +kernel
theorem d_R_isOneOf_13 : decode c_R_isOneOf 13 = .ok (.ifCond .ne 12, 3) := by decide +kernel
theorem d_R_isOneOf_16 : decode c_R_isOneOf 16 = .ok (.iload_n 0, 1) := by decide +kernel
theorem d_R_isOneOf_17 : decode c_R_isOneOf 17 = .ok (.aload_n 1, 1) := by decide +kernel
theorem d_R_isOneOf_18 : decode c_R_isOneOf 18 = .ok (.iload_n 3, 1) := by decide +kernel
theorem d_R_isOneOf_19 : decode c_R_isOneOf 19 = .ok (.invokevirtual 41, 3) := by decide +kernel
theorem d_R_isOneOf_22 : decode c_R_isOneOf 22 = .ok (.if_icmp .ne 7, 3) := by decide +kernel
theorem d_R_isOneOf_25 : decode c_R_isOneOf 25 = .ok (.iconst 1, 1) := by decide +kernel
theorem d_R_isOneOf_26 : decode c_R_isOneOf 26 = .ok (.goto 4, 3) := by decide +kernel
theorem d_R_isOneOf_29 : decode c_R_isOneOf 29 = .ok (.iconst 0, 1) := by decide +kernel
theorem d_R_isOneOf_30 : decode c_R_isOneOf 30 = .ok (.istore_n 2, 1) := by decide +kernel
theorem d_R_isOneOf_31 : decode c_R_isOneOf 31 = .ok (.iinc 3 1, 3) := by decide +kernel
theorem d_R_isOneOf_34 : decode c_R_isOneOf 34 = .ok (.goto (-30), 3) := by decide +kernel
theorem d_R_isOneOf_37 : decode c_R_isOneOf 37 = .ok (.iload_n 2, 1) := by decide +kernel
theorem d_R_isOneOf_38 : decode c_R_isOneOf 38 = .ok (.ireturn, 1) := by decide +kernel
theorem d_R_signOf_0 : decode c_R_signOf 0 = .ok (.iload_n 0, 1) := by decide +kernel
theorem d_R_signOf_1 : decode c_R_signOf 1 = .ok (.tableswitch 134 0 16 #[83, 86, 89, 92, 95, 98, 101, 104, 107, 110, 113, 116, 119, 122, 125, 128, 131], 83) := by decide +kernel
theorem d_R_signOf_84 : decode c_R_signOf 84 = .ok (.ldc 140, 2) := by decide +kernel
theorem d_R_signOf_86 : decode c_R_signOf 86 = .ok (.areturn, 1) := by decide +kernel
theorem d_R_signOf_87 : decode c_R_signOf 87 = .ok (.ldc 146, 2) := by decide +kernel
theorem d_R_signOf_89 : decode c_R_signOf 89 = .ok (.areturn, 1) := by decide +kernel
theorem d_R_signOf_90 : decode c_R_signOf 90 = .ok (.ldc 148, 2) := by decide +kernel
theorem d_R_signOf_92 : decode c_R_signOf 92 = .ok (.areturn, 1) := by decide +kernel
theorem d_R_signOf_93 : decode c_R_signOf 93 = .ok (.ldc 150, 2) := by decide +kernel
theorem d_R_signOf_95 : decode c_R_signOf 95 = .ok (.areturn, 1) := by decide +kernel
theorem d_R_signOf_96 : decode c_R_signOf 96 = .ok (.ldc 152, 2) := by decide +kernel
theorem d_R_signOf_98 : decode c_R_signOf 98 = .ok (.areturn, 1) := by decide +kernel
theorem d_R_signOf_99 : decode c_R_signOf 99 = .ok (.ldc 154, 2) := by decide +kernel
theorem d_R_signOf_101 : decode c_R_signOf 101 = .ok (.areturn, 1) := by decide +kernel
theorem d_R_signOf_102 : decode c_R_signOf 102 = .ok (.ldc 156, 2) := by decide +kernel
theorem d_R_signOf_104 : decode c_R_signOf 104 = .ok (.areturn, 1) := by decide +kernel
theorem d_R_signOf_105 : decode c_R_signOf 105 = .ok (.ldc 158, 2) := by decide +kernel
theorem d_R_signOf_107 : decode c_R_signOf 107 = .ok (.areturn, 1) := by decide +kernel
theorem d_R_signOf_108 : decode c_R_signOf 108 = .ok (.ldc 160, 2) := by decide +kernel
theorem d_R_signOf_110 : decode c_R_signOf 110 = .ok (.areturn, 1) := by decide +kernel
theorem d_R_signOf_111 : decode c_R_signOf 111 = .ok (.ldc 162, 2) := by decide +kernel
theorem d_R_signOf_113 : decode c_R_signOf 113 = .ok (.areturn, 1) := by decide +kernel
theorem d_R_signOf_114 : decode c_R_signOf 114 = .ok (.ldc 164, 2) := by decide +kernel
theorem d_R_signOf_116 : decode c_R_signOf 116 = .ok (.areturn, 1) := by decide +kernel
theorem d_R_signOf_117 : decode c_R_signOf 117 = .ok (.ldc 166, 2) := by decide +kernel
theorem d_R_signOf_119 : decode c_R_signOf 119 = .ok (.areturn, 1) := by decide +kernel
theorem d_R_signOf_120 : decode c_R_signOf 120 = .ok (.ldc 168, 2) := by decide +kernel
theorem d_R_signOf_122 : decode c_R_signOf 122 = .ok (.areturn, 1) := by decide +kernel
theorem d_R_signOf_123 : decode c_R_signOf 123 = .ok (.ldc 170, 2) := by decide +kernel
theorem d_R_signOf_125 : decode c_R_signOf 125 = .ok (.areturn, 1) := by decide +kernel
theorem d_R_signOf_126 : decode c_R_signOf 126 = .ok (.ldc 172, 2) := by decide +kernel
theorem d_R_signOf_128 : decode c_R_signOf 128 = .ok (.areturn, 1) := by decide +kernel
theorem d_R_signOf_129 : decode c_R_signOf 129 = .ok (.ldc 174, 2) := by decide +kernel
theorem d_R_signOf_131 : decode c_R_signOf 131 = .ok (.areturn, 1) := by decide +kernel
theorem d_R_signOf_132 : decode c_R_signOf 132 = .ok (.ldc 176, 2) := by decide +kernel
theorem d_R_signOf_134 : decode c_R_signOf 134 = .ok (.areturn, 1) := by decide +kernel
theorem d_R_signOf_135 : decode c_R_signOf 135 = .ok (.ldc 178, 2) := by decide +kernel
theorem d_R_signOf_137 : decode c_R_signOf 137 = .ok (.areturn, 1) := by decide +kernel
theorem d_R_strengthOf_0 : decode c_R_strengthOf 0 = .ok (.aload_n 0, 1) := by decide +kernel
theorem d_R_strengthOf_1 : decode c_R_strengthOf 1 = .ok (.astore_n 1, 1) := by decide +kernel
theorem d_R_strengthOf_2 : decode c_R_strengthOf 2 = .ok (.iconst (-1), 1) := by decide +kernel
theorem d_R_strengthOf_3 : decode c_R_strengthOf 3 = .ok (.istore_n 2, 1) := by decide +kernel
theorem d_R_strengthOf_4 : decode c_R_strengthOf 4 = .ok (.aload_n 1, 1) := by decide +kernel
theorem d_R_strengthOf_5 : decode c_R_strengthOf 5 = .ok (.invokevirtual 137, 3) := by decide +kernel
theorem d_R_strengthOf_8 : decode c_R_strengthOf 8 = .ok (.lookupswitch 417 #[(37, 405), (38, 212), (42, 375), (43, 345), (45, 360), (47, 390), (60, 255), (62, 270), (94, 198), (124, 184), (1084, 240), (1216, 170), (1920, 315), (1921, 285), (1952, 226), (1983, 300), (1984, 330), (3968, 156)], 156) := by decide +kernel
theorem d_R_strengthOf_164 : decode c_R_strengthOf 164 = .ok (.aload_n 1, 1) := by decide +kernel
theorem d_R_strengthOf_165 : decode c_R_strengthOf 165 = .ok (.ldc 140, 2) := by decide +kernel
theorem d_R_strengthOf_167 : decode c_R_strengthOf 167 = .ok (.invokevirtual 142, 3) := by decide +kernel
theorem d_R_strengthOf_170 : decode c_R_strengthOf 170 = .ok (.ifCond .eq 255, 3) := by decide +kernel
theorem d_R_strengthOf_173 : decode c_R_strengthOf 173 = .ok (.iconst 0, 1) := by decide +kernel
theorem d_R_strengthOf_174 : decode c_R_strengthOf 174 = .ok (.istore_n 2, 1) := by decide +kernel
theorem d_R_strengthOf_175 : decode c_R_strengthOf 175 = .ok (.goto 250, 3) := by decide +kernel
theorem d_R_strengthOf_178 : decode c_R_strengthOf 178 = .ok (.aload_n 1, 1) := by decide +kernel
theorem d_R_strengthOf_179 : decode c_R_strengthOf 179 = .ok (.ldc 146, 2) := by decide +kernel
theorem d_R_strengthOf_181 : decode c_R_strengthOf 181 = .ok (.invokevirtual 142, 3) := by decide +kernel
theorem d_R_strengthOf_184 : decode c_R_strengthOf 184 = .ok (.ifCond .eq 241, 3) := by decide +kernel
theorem d_R_strengthOf_187 : decode c_R_strengthOf 187 = .ok (.iconst 1, 1) := by decide +kernel
theorem d_R_strengthOf_188 : decode c_R_strengthOf 188 = .ok (.istore_n 2, 1) := by decide +kernel
theorem d_R_strengthOf_189 : decode c_R_strengthOf 189 = .ok (.goto 236, 3) := by decide +kernel
theorem d_R_strengthOf_192 : decode c_R_strengthOf 192 = .ok (.aload_n 1, 1) := by decide +kernel
theorem d_R_strengthOf_193 : decode c_R_strengthOf 193 = .ok (.ldc 148, 2) := by decide +kernel
theorem d_R_strengthOf_195 : decode c_R_strengthOf 195 = .ok (.invokevirtual 142, 3) := by decide +kernel
theorem d_R_strengthOf_198 : decode c_R_strengthOf 198 = .ok (.ifCond .eq 227, 3) := by decide +kernel
theorem d_R_strengthOf_201 : decode c_R_strengthOf 201 = .ok (.iconst 2, 1) := by decide +kernel
theorem d_R_strengthOf_202 : decode c_R_strengthOf 202 = .ok (.istore_n 2, 1) := by decide +kernel
theorem d_R_strengthOf_203 : decode c_R_strengthOf 203 = .ok (.goto 222, 3) := by decide +kernel
theorem d_R_strengthOf_206 : decode c_R_strengthOf 206 = .ok (.aload_n 1, 1) := by decide +kernel
theorem d_R_strengthOf_207 : decode c_R_strengthOf 207 = .ok (.ldc 150, 2) := by decide +kernel
theorem d_R_strengthOf_209 : decode c_R_strengthOf 209 = .ok (.invokevirtual 142, 3) := by decide +kernel
theorem d_R_strengthOf_212 : decode c_R_strengthOf 212 = .ok (.ifCond .eq 213, 3) := by decide +kernel
theorem d_R_strengthOf_215 : decode c_R_strengthOf 215 = .ok (.iconst 3, 1) := by decide +kernel
theorem d_R_strengthOf_216 : decode c_R_strengthOf 216 = .ok (.istore_n 2, 1) := by decide +kernel
theorem d_R_strengthOf_217 : decode c_R_strengthOf 217 = .ok (.goto 208, 3) := by decide +kernel
theorem d_R_strengthOf_220 : decode c_R_strengthOf 220 = .ok (.aload_n 1, 1) := by decide +kernel
theorem d_R_strengthOf_221 : decode c_R_strengthOf 221 = .ok (.ldc 152, 2) := by decide +kernel
theorem d_R_strengthOf_223 : decode c_R_strengthOf 223 = .ok (.invokevirtual 142, 3) := by decide +kernel
theorem d_R_strengthOf_226 : decode c_R_strengthOf 226 = .ok (.ifCond .eq 199, 3) := by decide +kernel
theorem d_R_strengthOf_229 : decode c_R_strengthOf 229 = .ok (.iconst 4, 1) := by decide +kernel
theorem d_R_strengthOf_230 : decode c_R_strengthOf 230 = .ok (.istore_n 2, 1) := by decide +kernel
theorem d_R_strengthOf_231 : decode c_R_strengthOf 231 = .ok (.goto 194, 3) := by decide +kernel
theorem d_R_strengthOf_234 : decode c_R_strengthOf 234 = .ok (.aload_n 1, 1) := by decide +kernel
theorem d_R_strengthOf_235 : decode c_R_strengthOf 235 = .ok (.ldc 154, 2) := by decide +kernel
theorem d_R_strengthOf_237 : decode c_R_strengthOf 237 = .ok (.invokevirtual 142, 3) := by decide +kernel
theorem d_R_strengthOf_240 : decode c_R_strengthOf 240 = .ok (.ifCond .eq 185, 3) := by decide +kernel
theorem d_R_strengthOf_243 : decode c_R_strengthOf 243 = .ok (.iconst 5, 1) := by decide +kernel
theorem d_R_strengthOf_244 : decode c_R_strengthOf 244 = .ok (.istore_n 2, 1) := by decide +kernel
theorem d_R_strengthOf_245 : decode c_R_strengthOf 245 = .ok (.goto 180, 3) := by decide +kernel
theorem d_R_strengthOf_248 : decode c_R_strengthOf 248 = .ok (.aload_n 1, 1) := by decide +kernel
theorem d_R_strengthOf_249 : decode c_R_strengthOf 249 = .ok (.ldc 156, 2) := by decide +kernel
theorem d_R_strengthOf_251 : decode c_R_strengthOf 251 = .ok (.invokevirtual 142, 3) := by decide +kernel
theorem d_R_strengthOf_254 : decode c_R_strengthOf 254 = .ok (.ifCond .eq 171, 3) := by decide +kernel
theorem d_R_strengthOf_257 : decode c_R_strengthOf 257 = .ok (.bipush 6, 2) := by decide +kernel
theorem d_R_strengthOf_259 : decode c_R_strengthOf 259 = .ok (.istore_n 2, 1) := by decide +kernel
theorem d_R_strengthOf_260 : decode c_R_strengthOf 260 = .ok (.goto 165, 3) := by decide +kernel
theorem d_R_strengthOf_263 : decode c_R_strengthOf 263 = .ok (.aload_n 1, 1) := by decide +kernel
theorem d_R_strengthOf_264 : decode c_R_strengthOf 264 = .ok (.ldc 158, 2) := by decide +kernel
theorem d_R_strengthOf_266 : decode c_R_strengthOf 266 = .ok (.invokevirtual 142, 3) := by decide +kernel
theorem d_R_strengthOf_269 : decode c_R_strengthOf 269 = .ok (.ifCond .eq 156, 3) := by decide +kernel
theorem d_R_strengthOf_272 : decode c_R_strengthOf 272 = .ok (.bipush 7, 2) := by decide +kernel
theorem d_R_strengthOf_274 : decode c_R_strengthOf 274 = .ok (.istore_n 2, 1) := by decide +kernel
theorem d_R_strengthOf_275 : decode c_R_strengthOf 275 = .ok (.goto 150, 3) := by decide +kernel
theorem d_R_strengthOf_278 : decode c_R_strengthOf 278 = .ok (.aload_n 1, 1) := by decide +kernel
theorem d_R_strengthOf_279 : decode c_R_strengthOf 279 = .ok (.ldc 160, 2) := by decide +kernel
theorem d_R_strengthOf_281 : decode c_R_strengthOf 281 = .ok (.invokevirtual 142, 3) := by decide +kernel
theorem d_R_strengthOf_284 : decode c_R_strengthOf 284 = .ok (.ifCond .eq 141, 3) := by decide +kernel
theorem d_R_strengthOf_287 : decode c_R_strengthOf 287 = .ok (.bipush 8, 2) := by decide +kernel
theorem d_R_strengthOf_289 : decode c_R_strengthOf 289 = .ok (.istore_n 2, 1) := by decide +kernel
theorem d_R_strengthOf_290 : decode c_R_strengthOf 290 = .ok (.goto 135, 3) := by decide +kernel
theorem d_R_strengthOf_293 : decode c_R_strengthOf 293 = .ok (.aload_n 1, 1) := by decide +kernel
theorem d_R_strengthOf_294 : decode c_R_strengthOf 294 = .ok (.ldc 162, 2) := by decide +kernel
theorem d_R_strengthOf_296 : decode c_R_strengthOf 296 = .ok (.invokevirtual 142, 3) := by decide +kernel
theorem d_R_strengthOf_299 : decode c_R_strengthOf 299 = .ok (.ifCond .eq 126, 3) := by decide +kernel
theorem d_R_strengthOf_302 : decode c_R_strengthOf 302 = .ok (.bipush 9, 2) := by decide +kernel
theorem d_R_strengthOf_304 : decode c_R_strengthOf 304 = .ok (.istore_n 2, 1) := by decide +kernel
theorem d_R_strengthOf_305 : decode c_R_strengthOf 305 = .ok (.goto 120, 3) := by decide +kernel
theorem d_R_strengthOf_308 : decode c_R_strengthOf 308 = .ok (.aload_n 1, 1) := by decide +kernel
theorem d_R_strengthOf_309 : decode c_R_strengthOf 309 = .ok (.ldc 164, 2) := by decide +kernel
theorem d_R_strengthOf_311 : decode c_R_strengthOf 311 = .ok (.invokevirtual 142, 3) := by decide +kernel
theorem d_R_strengthOf_314 : decode c_R_strengthOf 314 = .ok (.ifCond .eq 111, 3) := by decide +kernel
theorem d_R_strengthOf_317 : decode c_R_strengthOf 317 = .ok (.bipush 10, 2) := by decide +kernel
theorem d_R_strengthOf_319 : decode c_R_strengthOf 319 = .ok (.istore_n 2, 1) := by decide +kernel
theorem d_R_strengthOf_320 : decode c_R_strengthOf 320 = .ok (.goto 105, 3) := by decide +kernel
theorem d_R_strengthOf_323 : decode c_R_strengthOf 323 = .ok (.aload_n 1, 1) := by decide +kernel
theorem d_R_strengthOf_324 : decode c_R_strengthOf 324 = .ok (.ldc 166, 2) := by decide +kernel
theorem d_R_strengthOf_326 : decode c_R_strengthOf 326 = .ok (.invokevirtual 142, 3) := by decide +kernel
theorem d_R_strengthOf_329 : decode c_R_strengthOf 329 = .ok (.ifCond .eq 96, 3) := by decide +kernel
theorem d_R_strengthOf_332 : decode c_R_strengthOf 332 = .ok (.bipush 11, 2) := by decide +kernel
theorem d_R_strengthOf_334 : decode c_R_strengthOf 334 = .ok (.istore_n 2, 1) := by decide +kernel
theorem d_R_strengthOf_335 : decode c_R_strengthOf 335 = .ok (.goto 90, 3) := by decide +kernel
theorem d_R_strengthOf_338 : decode c_R_strengthOf 338 = .ok (.aload_n 1, 1) := by decide +kernel
theorem d_R_strengthOf_339 : decode c_R_strengthOf 339 = .ok (.ldc 168, 2) := by decide +kernel
theorem d_R_strengthOf_341 : decode c_R_strengthOf 341 = .ok (.invokevirtual 142, 3) := by decide +kernel
theorem d_R_strengthOf_344 : decode c_R_strengthOf 344 = .ok (.ifCond .eq 81, 3) := by decide +kernel
theorem d_R_strengthOf_347 : decode c_R_strengthOf 347 = .ok (.bipush 12, 2) := by decide +kernel
theorem d_R_strengthOf_349 : decode c_R_strengthOf 349 = .ok (.istore_n 2, 1) := by decide +kernel
theorem d_R_strengthOf_350 : decode c_R_strengthOf 350 = .ok (.goto 75, 3) := by decide +kernel
theorem d_R_strengthOf_353 : decode c_R_strengthOf 353 = .ok (.aload_n 1, 1) := by decide +kernel
theorem d_R_strengthOf_354 : decode c_R_strengthOf 354 = .ok (.ldc 170, 2) := by decide +kernel
theorem d_R_strengthOf_356 : decode c_R_strengthOf 356 = .ok (.invokevirtual 142, 3) := by decide +kernel
theorem d_R_strengthOf_359 : decode c_R_strengthOf 359 = .ok (.ifCond .eq 66, 3) := by decide +kernel
theorem d_R_strengthOf_362 : decode c_R_strengthOf 362 = .ok (.bipush 13, 2) := by decide +kernel
theorem d_R_strengthOf_364 : decode c_R_strengthOf 364 = .ok (.istore_n 2, 1) := by decide +kernel
theorem d_R_strengthOf_365 : decode c_R_strengthOf 365 = .ok (.goto 60, 3) := by decide +kernel
theorem d_R_strengthOf_368 : decode c_R_strengthOf 368 = .ok (.aload_n 1, 1) := by decide +kernel
theorem d_R_strengthOf_369 : decode c_R_strengthOf 369 = .ok (.ldc 172, 2) := by decide +kernel
theorem d_R_strengthOf_371 : decode c_R_strengthOf 371 = .ok (.invokevirtual 142, 3) := by decide +kernel
theorem d_R_strengthOf_374 : decode c_R_strengthOf 374 = .ok (.ifCond .eq 51, 3) := by decide +kernel
theorem d_R_strengthOf_377 : decode c_R_strengthOf 377 = .ok (.bipush 14, 2) := by decide +kernel
theorem d_R_strengthOf_379 : decode c_R_strengthOf 379 = .ok (.istore_n 2, 1) := by decide +kernel
theorem d_R_strengthOf_380 : decode c_R_strengthOf 380 = .ok (.goto 45, 3) := by decide +kernel
theorem d_R_strengthOf_383 : decode c_R_strengthOf 383 = .ok (.aload_n 1, 1) := by decide +kernel
theorem d_R_strengthOf_384 : decode c_R_strengthOf 384 = .ok (.ldc 174, 2) := by decide +kernel
theorem d_R_strengthOf_386 : decode c_R_strengthOf 386 = .ok (.invokevirtual 142, 3) := by decide +kernel
theorem d_R_strengthOf_389 : decode c_R_strengthOf 389 = .ok (.ifCond .eq 36, 3) := by decide +kernel
theorem d_R_strengthOf_392 : decode c_R_strengthOf 392 = .ok (.bipush 15, 2) := by decide +kernel
theorem d_R_strengthOf_394 : decode c_R_strengthOf 394 = .ok (.istore_n 2, 1) := by decide +kernel
theorem d_R_strengthOf_395 : decode c_R_strengthOf 395 = .ok (.goto 30, 3) := by decide +kernel
theorem d_R_strengthOf_398 : decode c_R_strengthOf 398 = .ok (.aload_n 1, 1) := by decide +kernel
theorem d_R_strengthOf_399 : decode c_R_strengthOf 399 = .ok (.ldc 176, 2) := by decide +kernel
theorem d_R_strengthOf_401 : decode c_R_strengthOf 401 = .ok (.invokevirtual 142, 3) := by decide +kernel
theorem d_R_strengthOf_404 : decode c_R_strengthOf 404 = .ok (.ifCond .eq 21, 3) := by decide +kernel
theorem d_R_strengthOf_407 : decode c_R_strengthOf 407 = .ok (.bipush 16, 2) := by decide +kernel
theorem d_R_strengthOf_409 : decode c_R_strengthOf 409 = .ok (.istore_n 2, 1) := by decide +kernel
theorem d_R_strengthOf_410 : decode c_R_strengthOf 410 = .ok (.goto 15, 3) := by decide +kernel
theorem d_R_strengthOf_413 : decode c_R_strengthOf 413 = .ok (.aload_n 1, 1) := by decide +kernel
theorem d_R_strengthOf_414 : decode c_R_strengthOf 414 = .ok (.ldc 178, 2) := by decide +kernel
theorem d_R_strengthOf_416 : decode c_R_strengthOf 416 = .ok (.invokevirtual 142, 3) := by decide +kernel
theorem d_R_strengthOf_419 : decode c_R_strengthOf 419 = .ok (.ifCond .eq 6, 3) := by decide +kernel
theorem d_R_strengthOf_422 : decode c_R_strengthOf 422 = .ok (.bipush 17, 2) := by decide +kernel
theorem d_R_strengthOf_424 : decode c_R_strengthOf 424 = .ok (.istore_n 2, 1) := by decide +kernel
theorem d_R_strengthOf_425 : decode c_R_strengthOf 425 = .ok (.iload_n 2, 1) := by decide +kernel
theorem d_R_strengthOf_426 : decode c_R_strengthOf 426 = .ok (.tableswitch 111 0 17 #[86, 88, 90, 92, 94, 96, 96, 99, 99, 99, 99, 102, 102, 105, 105, 108, 108, 108], 86) := by decide +kernel
theorem d_R_strengthOf_512 : decode c_R_strengthOf 512 = .ok (.iconst 1, 1) := by decide +kernel
theorem d_R_strengthOf_513 : decode c_R_strengthOf 513 = .ok (.ireturn, 1) := by decide +kernel
theorem d_R_strengthOf_514 : decode c_R_strengthOf 514 = .ok (.iconst 2, 1) := by decide +kernel
theorem d_R_strengthOf_515 : decode c_R_strengthOf 515 = .ok (.ireturn, 1) := by decide +kernel
theorem d_R_strengthOf_516 : decode c_R_strengthOf 516 = .ok (.iconst 3, 1) := by decide +kernel
theorem d_R_strengthOf_517 : decode c_R_strengthOf 517 = .ok (.ireturn, 1) := by decide +kernel
theorem d_R_strengthOf_518 : decode c_R_strengthOf 518 = .ok (.iconst 4, 1) := by decide +kernel
theorem d_R_strengthOf_519 : decode c_R_strengthOf 519 = .ok (.ireturn, 1) := by decide +kernel
theorem d_R_strengthOf_520 : decode c_R_strengthOf 520 = .ok (.iconst 5, 1) := by decide +kernel
theorem d_R_strengthOf_521 : decode c_R_strengthOf 521 = .ok (.ireturn, 1) := by decide +kernel
theorem d_R_strengthOf_522 : decode c_R_strengthOf 522 = .ok (.bipush 6, 2) := by decide +kernel
theorem d_R_strengthOf_524 : decode c_R_strengthOf 524 = .ok (.ireturn, 1) := by decide +kernel
theorem d_R_strengthOf_525 : decode c_R_strengthOf 525 = .ok (.bipush 7, 2) := by decide +kernel
theorem d_R_strengthOf_527 : decode c_R_strengthOf 527 = .ok (.ireturn, 1) := by decide +kernel
theorem d_R_strengthOf_528 : decode c_R_strengthOf 528 = .ok (.bipush 8, 2) := by decide +kernel
theorem d_R_strengthOf_530 : decode c_R_strengthOf 530 = .ok (.ireturn, 1) := by decide +kernel
theorem d_R_strengthOf_531 : decode c_R_strengthOf 531 = .ok (.bipush 9, 2) := by decide +kernel
theorem d_R_strengthOf_533 : decode c_R_strengthOf 533 = .ok (.ireturn, 1) := by decide +kernel
theorem d_R_strengthOf_534 : decode c_R_strengthOf 534 = .ok (.bipush 10, 2) := by decide +kernel
theorem d_R_strengthOf_536 : decode c_R_strengthOf 536 = .ok (.ireturn, 1) := by decide +kernel
theorem d_R_strengthOf_537 : decode c_R_strengthOf 537 = .ok (.iconst 0, 1) := by decide +kernel
theorem d_R_strengthOf_538 : decode c_R_strengthOf 538 = .ok (.ireturn, 1) := by decide +kernel
theorem d_R_isLetter_0 : decode c_R_isLetter 0 = .ok (.iload_n 0, 1) := by decide +kernel
theorem d_R_isLetter_1 : decode c_R_isLetter 1 = .ok (.bipush 65, 2) := by decide +kernel
theorem d_R_isLetter_3 : decode c_R_isLetter 3 = .ok (.if_icmp .lt 9, 3) := by decide +kernel
theorem d_R_isLetter_6 : decode c_R_isLetter 6 = .ok (.iload_n 0, 1) := by decide +kernel
theorem d_R_isLetter_7 : decode c_R_isLetter 7 = .ok (.bipush 90, 2) := by decide +kernel
theorem d_R_isLetter_9 : decode c_R_isLetter 9 = .ok (.if_icmp .le 21, 3) := by decide +kernel
theorem d_R_isLetter_12 : decode c_R_isLetter 12 = .ok (.iload_n 0, 1) := by decide +kernel
theorem d_R_isLetter_13 : decode c_R_isLetter 13 = .ok (.bipush 97, 2) := by decide +kernel
theorem d_R_isLetter_15 : decode c_R_isLetter 15 = .ok (.if_icmp .lt 9, 3) := by decide +kernel
theorem d_R_isLetter_18 : decode c_R_isLetter 18 = .ok (.iload_n 0, 1) := by decide +kernel
theorem d_R_isLetter_19 : decode c_R_isLetter 19 = .ok (.bipush 122, 2) := by decide +kernel
theorem d_R_isLetter_21 : decode c_R_isLetter 21 = .ok (.if_icmp .le 9, 3) := by decide +kernel
theorem d_R_isLetter_24 : decode c_R_isLetter 24 = .ok (.iload_n 0, 1) := by decide +kernel
theorem d_R_isLetter_25 : decode c_R_isLetter 25 = .ok (.bipush 95, 2) := by decide +kernel
theorem d_R_isLetter_27 : decode c_R_isLetter 27 = .ok (.if_icmp .ne 7, 3) := by decide +kernel
theorem d_R_isLetter_30 : decode c_R_isLetter 30 = .ok (.iconst 1, 1) := by decide +kernel
theorem d_R_isLetter_31 : decode c_R_isLetter 31 = .ok (.goto 4, 3) := by decide +kernel
theorem d_R_isLetter_34 : decode c_R_isLetter 34 = .ok (.iconst 0, 1) := by decide +kernel
theorem d_R_isLetter_35 : decode c_R_isLetter 35 = .ok (.ireturn, 1) := by decide +kernel
theorem d_R_isDigit_0 : decode c_R_isDigit 0 = .ok (.iload_n 0, 1) := by decide +kernel
theorem d_R_isDigit_1 : decode c_R_isDigit 1 = .ok (.bipush 48, 2) := by decide +kernel
theorem d_R_isDigit_3 : decode c_R_isDigit 3 = .ok (.if_icmp .lt 13, 3) := by decide +kernel
theorem d_R_isDigit_6 : decode c_R_isDigit 6 = .ok (.iload_n 0, 1) := by decide +kernel
theorem d_R_isDigit_7 : decode c_R_isDigit 7 = .ok (.bipush 57, 2) := by decide +kernel
theorem d_R_isDigit_9 : decode c_R_isDigit 9 = .ok (.if_icmp .gt 7, 3) := by decide +kernel
theorem d_R_isDigit_12 : decode c_R_isDigit 12 = .ok (.iconst 1, 1) := by decide +kernel
theorem d_R_isDigit_13 : decode c_R_isDigit 13 = .ok (.goto 4, 3) := by decide +kernel
theorem d_R_isDigit_16 : decode c_R_isDigit 16 = .ok (.iconst 0, 1) := by decide +kernel
theorem d_R_isDigit_17 : decode c_R_isDigit 17 = .ok (.ireturn, 1) := by decide +kernel
theorem d_R_isBlank_0 : decode c_R_isBlank 0 = .ok (.iload_n 0, 1) := by decide +kernel
theorem d_R_isBlank_1 : decode c_R_isBlank 1 = .ok (.bipush 32, 2) := by decide +kernel
theorem d_R_isBlank_3 : decode c_R_isBlank 3 = .ok (.if_icmp .eq 15, 3) := by decide +kernel
theorem d_R_isBlank_6 : decode c_R_isBlank 6 = .ok (.iload_n 0, 1) := by decide +kernel
theorem d_R_isBlank_7 : decode c_R_isBlank 7 = .ok (.bipush 8, 2) := by decide +kernel
theorem d_R_isBlank_9 : decode c_R_isBlank 9 = .ok (.if_icmp .le 13, 3) := by decide +kernel
theorem d_R_isBlank_12 : decode c_R_isBlank 12 = .ok (.iload_n 0, 1) := by decide +kernel
theorem d_R_isBlank_13 : decode c_R_isBlank 13 = .ok (.bipush 14, 2) := by decide +kernel
theorem d_R_isBlank_15 : decode c_R_isBlank 15 = .ok (.if_icmp .ge 7, 3) := by decide +kernel
theorem d_R_isBlank_18 : decode c_R_isBlank 18 = .ok (.iconst 1, 1) := by decide +kernel
theorem d_R_isBlank_19 : decode c_R_isBlank 19 = .ok (.goto 4, 3) := by decide +kernel
theorem d_R_isBlank_22 : decode c_R_isBlank 22 = .ok (.iconst 0, 1) := by decide +kernel
theorem d_R_isBlank_23 : decode c_R_isBlank 23 = .ok (.ireturn, 1) := by decide +kernel
theorem d_R_byteAt_0 : decode c_R_byteAt 0 = .ok (.iload_n 1, 1) := by decide +kernel
theorem d_R_byteAt_1 : decode c_R_byteAt 1 = .ok (.iload_n 2, 1) := by decide +kernel
theorem d_R_byteAt_2 : decode c_R_byteAt 2 = .ok (.if_icmp .ge 13, 3) := by decide +kernel
theorem d_R_byteAt_5 : decode c_R_byteAt 5 = .ok (.aload_n 0, 1) := by decide +kernel
theorem d_R_byteAt_6 : decode c_R_byteAt 6 = .ok (.iload_n 1, 1) := by decide +kernel
theorem d_R_byteAt_7 : decode c_R_byteAt 7 = .ok (.baload, 1) := by decide +kernel
theorem d_R_byteAt_8 : decode c_R_byteAt 8 = .ok (.sipush 255, 3) := by decide +kernel
theorem d_R_byteAt_11 : decode c_R_byteAt 11 = .ok (.iand, 1) := by decide +kernel
theorem d_R_byteAt_12 : decode c_R_byteAt 12 = .ok (.goto 4, 3) := by decide +kernel
theorem d_R_byteAt_15 : decode c_R_byteAt 15 = .ok (.iconst (-1), 1) := by decide +kernel
theorem d_R_byteAt_16 : decode c_R_byteAt 16 = .ok (.ireturn, 1) := by decide +kernel
theorem d_R_quotedEnd_0 : decode c_R_quotedEnd 0 = .ok (.aload_n 0, 1) := by decide +kernel
theorem d_R_quotedEnd_1 : decode c_R_quotedEnd 1 = .ok (.getfield 9, 3) := by decide +kernel
theorem d_R_quotedEnd_4 : decode c_R_quotedEnd 4 = .ok (.iload_n 1, 1) := by decide +kernel
theorem d_R_quotedEnd_5 : decode c_R_quotedEnd 5 = .ok (.baload, 1) := by decide +kernel
theorem d_R_quotedEnd_6 : decode c_R_quotedEnd 6 = .ok (.sipush 255, 3) := by decide +kernel
theorem d_R_quotedEnd_9 : decode c_R_quotedEnd 9 = .ok (.iand, 1) := by decide +kernel
theorem d_R_quotedEnd_10 : decode c_R_quotedEnd 10 = .ok (.istore_n 3, 1) := by decide +kernel
theorem d_R_quotedEnd_11 : decode c_R_quotedEnd 11 = .ok (.iload_n 1, 1) := by decide +kernel
theorem d_R_quotedEnd_12 : decode c_R_quotedEnd 12 = .ok (.iconst 1, 1) := by decide +kernel
theorem d_R_quotedEnd_13 : decode c_R_quotedEnd 13 = .ok (.iadd, 1) := by decide +kernel
theorem d_R_quotedEnd_14 : decode c_R_quotedEnd 14 = .ok (.istore 4, 2) := by decide +kernel
theorem d_R_quotedEnd_16 : decode c_R_quotedEnd 16 = .ok (.iload 4, 2) := by decide +kernel
theorem d_R_quotedEnd_18 : decode c_R_quotedEnd 18 = .ok (.iload_n 2, 1) := by decide +kernel
theorem d_R_quotedEnd_19 : decode c_R_quotedEnd 19 = .ok (.if_icmp .ge 80, 3) := by decide +kernel
theorem d_R_quotedEnd_22 : decode c_R_quotedEnd 22 = .ok (.aload_n 0, 1) := by decide +kernel
theorem d_R_quotedEnd_23 : decode c_R_quotedEnd 23 = .ok (.getfield 9, 3) := by decide +kernel
theorem d_R_quotedEnd_26 : decode c_R_quotedEnd 26 = .ok (.iload 4, 2) := by decide +kernel
theorem d_R_quotedEnd_28 : decode c_R_quotedEnd 28 = .ok (.baload, 1) := by decide +kernel
theorem d_R_quotedEnd_29 : decode c_R_quotedEnd 29 = .ok (.bipush 10, 2) := by decide +kernel
theorem d_R_quotedEnd_31 : decode c_R_quotedEnd 31 = .ok (.if_icmp .eq 68, 3) := by decide +kernel
theorem d_R_quotedEnd_34 : decode c_R_quotedEnd 34 = .ok (.aload_n 0, 1) := by decide +kernel
theorem d_R_quotedEnd_35 : decode c_R_quotedEnd 35 = .ok (.getfield 9, 3) := by decide +kernel
theorem d_R_quotedEnd_38 : decode c_R_quotedEnd 38 = .ok (.iload 4, 2) := by decide +kernel
theorem d_R_quotedEnd_40 : decode c_R_quotedEnd 40 = .ok (.baload, 1) := by decide +kernel
theorem d_R_quotedEnd_41 : decode c_R_quotedEnd 41 = .ok (.sipush 255, 3) := by decide +kernel
theorem d_R_quotedEnd_44 : decode c_R_quotedEnd 44 = .ok (.iand, 1) := by decide +kernel
theorem d_R_quotedEnd_45 : decode c_R_quotedEnd 45 = .ok (.iload_n 3, 1) := by decide +kernel
theorem d_R_quotedEnd_46 : decode c_R_quotedEnd 46 = .ok (.if_icmp .eq 53, 3) := by decide +kernel
theorem d_R_quotedEnd_49 : decode c_R_quotedEnd 49 = .ok (.aload_n 0, 1) := by decide +kernel
theorem d_R_quotedEnd_50 : decode c_R_quotedEnd 50 = .ok (.getfield 9, 3) := by decide +kernel
theorem d_R_quotedEnd_53 : decode c_R_quotedEnd 53 = .ok (.iload 4, 2) := by decide +kernel
theorem d_R_quotedEnd_55 : decode c_R_quotedEnd 55 = .ok (.baload, 1) := by decide +kernel
theorem d_R_quotedEnd_56 : decode c_R_quotedEnd 56 = .ok (.bipush 92, 2) := by decide +kernel
theorem d_R_quotedEnd_58 : decode c_R_quotedEnd 58 = .ok (.if_icmp .ne 32, 3) := by decide +kernel
theorem d_R_quotedEnd_61 : decode c_R_quotedEnd 61 = .ok (.iload 4, 2) := by decide +kernel
theorem d_R_quotedEnd_63 : decode c_R_quotedEnd 63 = .ok (.iconst 1, 1) := by decide +kernel
theorem d_R_quotedEnd_64 : decode c_R_quotedEnd 64 = .ok (.iadd, 1) := by decide +kernel
theorem d_R_quotedEnd_65 : decode c_R_quotedEnd 65 = .ok (.iload_n 2, 1) := by decide +kernel
theorem d_R_quotedEnd_66 : decode c_R_quotedEnd 66 = .ok (.if_icmp .ge 24, 3) := by decide +kernel
theorem d_R_quotedEnd_69 : decode c_R_quotedEnd 69 = .ok (.aload_n 0, 1) := by decide +kernel
theorem d_R_quotedEnd_70 : decode c_R_quotedEnd 70 = .ok (.getfield 9, 3) := by decide +kernel
theorem d_R_quotedEnd_73 : decode c_R_quotedEnd 73 = .ok (.iload 4, 2) := by decide +kernel
theorem d_R_quotedEnd_75 : decode c_R_quotedEnd 75 = .ok (.iconst 1, 1) := by decide +kernel
theorem d_R_quotedEnd_76 : decode c_R_quotedEnd 76 = .ok (.iadd, 1) := by decide +kernel
theorem d_R_quotedEnd_77 : decode c_R_quotedEnd 77 = .ok (.baload, 1) := by decide +kernel
theorem d_R_quotedEnd_78 : decode c_R_quotedEnd 78 = .ok (.bipush 10, 2) := by decide +kernel
theorem d_R_quotedEnd_80 : decode c_R_quotedEnd 80 = .ok (.if_icmp .eq 10, 3) := by decide +kernel
theorem d_R_quotedEnd_83 : decode c_R_quotedEnd 83 = .ok (.iload 4, 2) := by decide +kernel
theorem d_R_quotedEnd_85 : decode c_R_quotedEnd 85 = .ok (.iconst 2, 1) := by decide +kernel
theorem d_R_quotedEnd_86 : decode c_R_quotedEnd 86 = .ok (.iadd, 1) := by decide +kernel
theorem d_R_quotedEnd_87 : decode c_R_quotedEnd 87 = .ok (.goto 7, 3) := by decide +kernel
theorem d_R_quotedEnd_90 : decode c_R_quotedEnd 90 = .ok (.iload 4, 2) := by decide +kernel
theorem d_R_quotedEnd_92 : decode c_R_quotedEnd 92 = .ok (.iconst 1, 1) := by decide +kernel
theorem d_R_quotedEnd_93 : decode c_R_quotedEnd 93 = .ok (.iadd, 1) := by decide +kernel
theorem d_R_quotedEnd_94 : decode c_R_quotedEnd 94 = .ok (.istore 4, 2) := by decide +kernel
theorem d_R_quotedEnd_96 : decode c_R_quotedEnd 96 = .ok (.goto (-80), 3) := by decide +kernel
theorem d_R_quotedEnd_99 : decode c_R_quotedEnd 99 = .ok (.iload 4, 2) := by decide +kernel
theorem d_R_quotedEnd_101 : decode c_R_quotedEnd 101 = .ok (.iload_n 2, 1) := by decide +kernel
theorem d_R_quotedEnd_102 : decode c_R_quotedEnd 102 = .ok (.if_icmp .ge 25, 3) := by decide +kernel
theorem d_R_quotedEnd_105 : decode c_R_quotedEnd 105 = .ok (.aload_n 0, 1) := by decide +kernel
theorem d_R_quotedEnd_106 : decode c_R_quotedEnd 106 = .ok (.getfield 9, 3) := by decide +kernel
theorem d_R_quotedEnd_109 : decode c_R_quotedEnd 109 = .ok (.iload 4, 2) := by decide +kernel
theorem d_R_quotedEnd_111 : decode c_R_quotedEnd 111 = .ok (.baload, 1) := by decide +kernel
theorem d_R_quotedEnd_112 : decode c_R_quotedEnd 112 = .ok (.sipush 255, 3) := by decide +kernel
theorem d_R_quotedEnd_115 : decode c_R_quotedEnd 115 = .ok (.iand, 1) := by decide +kernel
theorem d_R_quotedEnd_116 : decode c_R_quotedEnd 116 = .ok (.iload_n 3, 1) := by decide +kernel
theorem d_R_quotedEnd_117 : decode c_R_quotedEnd 117 = .ok (.if_icmp .ne 10, 3) := by decide +kernel
theorem d_R_quotedEnd_120 : decode c_R_quotedEnd 120 = .ok (.iload 4, 2) := by decide +kernel
theorem d_R_quotedEnd_122 : decode c_R_quotedEnd 122 = .ok (.iconst 1, 1) := by decide +kernel
theorem d_R_quotedEnd_123 : decode c_R_quotedEnd 123 = .ok (.iadd, 1) := by decide +kernel
theorem d_R_quotedEnd_124 : decode c_R_quotedEnd 124 = .ok (.goto 4, 3) := by decide +kernel
theorem d_R_quotedEnd_127 : decode c_R_quotedEnd 127 = .ok (.iconst (-1), 1) := by decide +kernel
theorem d_R_quotedEnd_128 : decode c_R_quotedEnd 128 = .ok (.ireturn, 1) := by decide +kernel
theorem d_R_signSize_0 : decode c_R_signSize 0 = .ok (.aload_n 0, 1) := by decide +kernel
theorem d_R_signSize_1 : decode c_R_signSize 1 = .ok (.getfield 9, 3) := by decide +kernel
theorem d_R_signSize_4 : decode c_R_signSize 4 = .ok (.iload_n 1, 1) := by decide +kernel
theorem d_R_signSize_5 : decode c_R_signSize 5 = .ok (.iload_n 2, 1) := by decide +kernel
theorem d_R_signSize_6 : decode c_R_signSize 6 = .ok (.invokestatic 45, 3) := by decide +kernel
theorem d_R_signSize_9 : decode c_R_signSize 9 = .ok (.istore_n 3, 1) := by decide +kernel
theorem d_R_signSize_10 : decode c_R_signSize 10 = .ok (.aload_n 0, 1) := by decide +kernel
theorem d_R_signSize_11 : decode c_R_signSize 11 = .ok (.getfield 9, 3) := by decide +kernel
theorem d_R_signSize_14 : decode c_R_signSize 14 = .ok (.iload_n 1, 1) := by decide +kernel
theorem d_R_signSize_15 : decode c_R_signSize 15 = .ok (.iconst 1, 1) := by decide +kernel
theorem d_R_signSize_16 : decode c_R_signSize 16 = .ok (.iadd, 1) := by decide +kernel
theorem d_R_signSize_17 : decode c_R_signSize 17 = .ok (.iload_n 2, 1) := by decide +kernel
theorem d_R_signSize_18 : decode c_R_signSize 18 = .ok (.invokestatic 45, 3) := by decide +kernel
theorem d_R_signSize_21 : decode c_R_signSize 21 = .ok (.istore 4, 2) := by decide +kernel
theorem d_R_signSize_23 : decode c_R_signSize 23 = .ok (.aload_n 0, 1) := by decide +kernel
theorem d_R_signSize_24 : decode c_R_signSize 24 = .ok (.getfield 9, 3) := by decide +kernel
theorem d_R_signSize_27 : decode c_R_signSize 27 = .ok (.iload_n 1, 1) := by decide +kernel
theorem d_R_signSize_28 : decode c_R_signSize 28 = .ok (.iconst 2, 1) := by decide +kernel
theorem d_R_signSize_29 : decode c_R_signSize 29 = .ok (.iadd, 1) := by decide +kernel
theorem d_R_signSize_30 : decode c_R_signSize 30 = .ok (.iload_n 2, 1) := by decide +kernel
theorem d_R_signSize_31 : decode c_R_signSize 31 = .ok (.invokestatic 45, 3) := by decide +kernel
theorem d_R_signSize_34 : decode c_R_signSize 34 = .ok (.istore 5, 2) := by decide +kernel
theorem d_R_signSize_36 : decode c_R_signSize 36 = .ok (.iload_n 3, 1) := by decide +kernel
theorem d_R_signSize_37 : decode c_R_signSize 37 = .ok (.bipush 46, 2) := by decide +kernel
theorem d_R_signSize_39 : decode c_R_signSize 39 = .ok (.if_icmp .ne 17, 3) := by decide +kernel
theorem d_R_signSize_42 : decode c_R_signSize 42 = .ok (.iload 4, 2) := by decide +kernel
theorem d_R_signSize_44 : decode c_R_signSize 44 = .ok (.bipush 46, 2) := by decide +kernel
theorem d_R_signSize_46 : decode c_R_signSize 46 = .ok (.if_icmp .ne 10, 3) := by decide +kernel
theorem d_R_signSize_49 : decode c_R_signSize 49 = .ok (.iload 5, 2) := by decide +kernel
theorem d_R_signSize_51 : decode c_R_signSize 51 = .ok (.bipush 46, 2) := by decide +kernel
theorem d_R_signSize_53 : decode c_R_signSize 53 = .ok (.if_icmp .eq 28, 3) := by decide +kernel
theorem d_R_signSize_56 : decode c_R_signSize 56 = .ok (.iload_n 3, 1) := by decide +kernel
theorem d_R_signSize_57 : decode c_R_signSize 57 = .ok (.bipush 60, 2) := by decide +kernel
theorem d_R_signSize_59 : decode c_R_signSize 59 = .ok (.if_icmp .eq 9, 3) := by decide +kernel
theorem d_R_signSize_62 : decode c_R_signSize 62 = .ok (.iload_n 3, 1) := by decide +kernel
theorem d_R_signSize_63 : decode c_R_signSize 63 = .ok (.bipush 62, 2) := by decide +kernel
theorem d_R_signSize_65 : decode c_R_signSize 65 = .ok (.if_icmp .ne 18, 3) := by decide +kernel
theorem d_R_signSize_68 : decode c_R_signSize 68 = .ok (.iload 4, 2) := by decide +kernel
theorem d_R_signSize_70 : decode c_R_signSize 70 = .ok (.iload_n 3, 1) := by decide +kernel
theorem d_R_signSize_71 : decode c_R_signSize 71 = .ok (.if_icmp .ne 12, 3) := by decide +kernel
theorem d_R_signSize_74 : decode c_R_signSize 74 = .ok (.iload 5, 2) := by decide +kernel
theorem d_R_signSize_76 : decode c_R_signSize 76 = .ok (.bipush 61, 2) := by decide +kernel
theorem d_R_signSize_78 : decode c_R_signSize 78 = .ok (.if_icmp .ne 5, 3) := by decide +kernel
theorem d_R_signSize_81 : decode c_R_signSize 81 = .ok (.iconst 3, 1) := by decide +kernel
theorem d_R_signSize_82 : decode c_R_signSize 82 = .ok (.ireturn, 1) := by decide +kernel
theorem d_R_signSize_83 : decode c_R_signSize 83 = .ok (.iload_n 3, 1) := by decide +kernel
theorem d_R_signSize_84 : decode c_R_signSize 84 = .ok (.iload 4, 2) := by decide +kernel
theorem d_R_signSize_86 : decode c_R_signSize 86 = .ok (.if_icmp .ne 16, 3) := by decide +kernel
theorem d_R_signSize_89 : decode c_R_signSize 89 = .ok (.iload_n 3, 1) := by decide +kernel
theorem d_R_signSize_90 : decode c_R_signSize 90 = .ok (.ldc 49, 2) := by decide +kernel
theorem d_R_signSize_92 : decode c_R_signSize 92 = .ok (.invokestatic 51, 3) := by decide +kernel
theorem d_R_signSize_95 : decode c_R_signSize 95 = .ok (.ifCond .eq 7, 3) := by decide +kernel
theorem d_R_signSize_98 : decode c_R_signSize 98 = .ok (.iconst 1, 1) := by decide +kernel
theorem d_R_signSize_99 : decode c_R_signSize 99 = .ok (.goto 4, 3) := by decide +kernel
theorem d_R_signSize_102 : decode c_R_signSize 102 = .ok (.iconst 0, 1) := by decide +kernel
theorem d_R_signSize_103 : decode c_R_signSize 103 = .ok (.istore 6, 2) := by decide +kernel
theorem d_R_signSize_105 : decode c_R_signSize 105 = .ok (.iload 4, 2) := by decide +kernel
theorem d_R_signSize_107 : decode c_R_signSize 107 = .ok (.bipush 61, 2) := by decide +kernel
theorem d_R_signSize_109 : decode c_R_signSize 109 = .ok (.if_icmp .ne 16, 3) := by decide +kernel
theorem d_R_signSize_112 : decode c_R_signSize 112 = .ok (.iload_n 3, 1) := by decide +kernel
theorem d_R_signSize_113 : decode c_R_signSize 113 = .ok (.ldc 55, 2) := by decide +kernel
theorem d_R_signSize_115 : decode c_R_signSize 115 = .ok (.invokestatic 51, 3) := by decide +kernel
theorem d_R_signSize_118 : decode c_R_signSize 118 = .ok (.ifCond .eq 7, 3) := by decide +kernel
theorem d_R_signSize_121 : decode c_R_signSize 121 = .ok (.iconst 1, 1) := by decide +kernel
theorem d_R_signSize_122 : decode c_R_signSize 122 = .ok (.goto 4, 3) := by decide +kernel
theorem d_R_signSize_125 : decode c_R_signSize 125 = .ok (.iconst 0, 1) := by decide +kernel
theorem d_R_signSize_126 : decode c_R_signSize 126 = .ok (.istore 7, 2) := by decide +kernel
theorem d_R_signSize_128 : decode c_R_signSize 128 = .ok (.iload 6, 2) := by decide +kernel
theorem d_R_signSize_130 : decode c_R_signSize 130 = .ok (.ifCond .ne 21, 3) := by decide +kernel
theorem d_R_signSize_133 : decode c_R_signSize 133 = .ok (.iload 7, 2) := by decide +kernel
theorem d_R_signSize_135 : decode c_R_signSize 135 = .ok (.ifCond .ne 16, 3) := by decide +kernel
theorem d_R_signSize_138 : decode c_R_signSize 138 = .ok (.iload_n 3, 1) := by decide +kernel
theorem d_R_signSize_139 : decode c_R_signSize 139 = .ok (.bipush 45, 2) := by decide +kernel
theorem d_R_signSize_141 : decode c_R_signSize 141 = .ok (.if_icmp .ne 14, 3) := by decide +kernel
theorem d_R_signSize_144 : decode c_R_signSize 144 = .ok (.iload 4, 2) := by decide +kernel
theorem d_R_signSize_146 : decode c_R_signSize 146 = .ok (.bipush 62, 2) := by decide +kernel
theorem d_R_signSize_148 : decode c_R_signSize 148 = .ok (.if_icmp .ne 7, 3) := by decide +kernel
theorem d_R_signSize_151 : decode c_R_signSize 151 = .ok (.iconst 2, 1) := by decide +kernel
theorem d_R_signSize_152 : decode c_R_signSize 152 = .ok (.goto 4, 3) := by decide +kernel
theorem d_R_signSize_155 : decode c_R_signSize 155 = .ok (.iconst 1, 1) := by decide +kernel
theorem d_R_signSize_156 : decode c_R_signSize 156 = .ok (.ireturn, 1) := by decide +kernel
