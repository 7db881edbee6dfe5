theorem dX3_readToken_127 : decode cX3_readToken 127 = .ok (.getfield 32, 3) := by decide +kernel
theorem dX3_readToken_130 : decode cX3_readToken 130 = .ok (.if_icmp .ne 16, 3) := by decide +kernel
theorem dX3_readToken_133 : decode cX3_readToken 133 = .ok (.aload_n 0, 1) := by decide +kernel
theorem dX3_readToken_134 : decode cX3_readToken 134 = .ok (.dup, 1) := by decide +kernel
theorem dX3_readToken_135 : decode cX3_readToken 135 = .ok (.getfield 26, 3) := by decide +kernel
theorem dX3_readToken_138 : decode cX3_readToken 138 = .ok (.iconst 1, 1) := by decide +kernel
theorem dX3_readToken_139 : decode cX3_readToken 139 = .ok (.iadd, 1) := by decide +kernel
theorem dX3_readToken_140 : decode cX3_readToken 140 = .ok (.putfield 26, 3) := by decide +kernel
theorem dX3_readToken_143 : decode cX3_readToken 143 = .ok (.goto (-48), 3) := by decide +kernel
theorem dX3_readToken_146 : decode cX3_readToken 146 = .ok (.return_, 1) := by decide +kernel
theorem dX3_signAt_0 : decode cX3_signAt 0 = .ok (.iload_n 1, 1) := by decide +kernel
theorem dX3_signAt_1 : decode cX3_signAt 1 = .ok (.ifCond .lt 21, 3) := by decide +kernel
theorem dX3_signAt_4 : decode cX3_signAt 4 = .ok (.iload_n 1, 1) := by decide +kernel
theorem dX3_signAt_5 : decode cX3_signAt 5 = .ok (.aload_n 0, 1) := by decide +kernel
theorem dX3_signAt_6 : decode cX3_signAt 6 = .ok (.getfield 9, 3) := by decide +kernel
theorem dX3_signAt_9 : decode cX3_signAt 9 = .ok (.arraylength, 1) := by decide +kernel
theorem dX3_signAt_10 : decode cX3_signAt 10 = .ok (.if_icmp .ge 12, 3) := by decide +kernel
theorem dX3_signAt_13 : decode cX3_signAt 13 = .ok (.aload_n 0, 1) := by decide +kernel
theorem dX3_signAt_14 : decode cX3_signAt 14 = .ok (.getfield 9, 3) := by decide +kernel
theorem dX3_signAt_17 : decode cX3_signAt 17 = .ok (.iload_n 1, 1) := by decide +kernel
theorem dX3_signAt_18 : decode cX3_signAt 18 = .ok (.iaload, 1) := by decide +kernel
theorem dX3_signAt_19 : decode cX3_signAt 19 = .ok (.goto 4, 3) := by decide +kernel
theorem dX3_signAt_22 : decode cX3_signAt 22 = .ok (.iconst 0, 1) := by decide +kernel
theorem dX3_signAt_23 : decode cX3_signAt 23 = .ok (.ireturn, 1) := by decide +kernel
theorem dX3_kindOf_0 : decode cX3_kindOf 0 = .ok (.iload_n 1, 1) := by decide +kernel
theorem dX3_kindOf_1 : decode cX3_kindOf 1 = .ok (.bipush 97, 2) := by decide +kernel
theorem dX3_kindOf_3 : decode cX3_kindOf 3 = .ok (.bipush 122, 2) := by decide +kernel
theorem dX3_kindOf_5 : decode cX3_kindOf 5 = .ok (.invokestatic 22, 3) := by decide +kernel
theorem dX3_kindOf_8 : decode cX3_kindOf 8 = .ok (.ifCond .eq 5, 3) := by decide +kernel
theorem dX3_kindOf_11 : decode cX3_kindOf 11 = .ok (.iconst 1, 1) := by decide +kernel
theorem dX3_kindOf_12 : decode cX3_kindOf 12 = .ok (.ireturn, 1) := by decide +kernel
theorem dX3_kindOf_13 : decode cX3_kindOf 13 = .ok (.iload_n 1, 1) := by decide +kernel
theorem dX3_kindOf_14 : decode cX3_kindOf 14 = .ok (.bipush 48, 2) := by decide +kernel
theorem dX3_kindOf_16 : decode cX3_kindOf 16 = .ok (.bipush 57, 2) := by decide +kernel
theorem dX3_kindOf_18 : decode cX3_kindOf 18 = .ok (.invokestatic 22, 3) := by decide +kernel
theorem dX3_kindOf_21 : decode cX3_kindOf 21 = .ok (.ifCond .eq 7, 3) := by decide +kernel
theorem dX3_kindOf_24 : decode cX3_kindOf 24 = .ok (.iconst 2, 1) := by decide +kernel
theorem dX3_kindOf_25 : decode cX3_kindOf 25 = .ok (.goto 4, 3) := by decide +kernel
theorem dX3_kindOf_28 : decode cX3_kindOf 28 = .ok (.iconst 3, 1) := by decide +kernel
theorem dX3_kindOf_29 : decode cX3_kindOf 29 = .ok (.ireturn, 1) := by decide +kernel
theorem dX3_isSemicolon_0 : decode cX3_isSemicolon 0 = .ok (.aload_n 0, 1) := by decide +kernel
theorem dX3_isSemicolon_1 : decode cX3_isSemicolon 1 = .ok (.getfield 32, 3) := by decide +kernel
theorem dX3_isSemicolon_4 : decode cX3_isSemicolon 4 = .ok (.iconst 3, 1) := by decide +kernel
theorem dX3_isSemicolon_5 : decode cX3_isSemicolon 5 = .ok (.if_icmp .ne 20, 3) := by decide +kernel
theorem dX3_isSemicolon_8 : decode cX3_isSemicolon 8 = .ok (.aload_n 0, 1) := by decide +kernel
theorem dX3_isSemicolon_9 : decode cX3_isSemicolon 9 = .ok (.aload_n 0, 1) := by decide +kernel
theorem dX3_isSemicolon_10 : decode cX3_isSemicolon 10 = .ok (.getfield 35, 3) := by decide +kernel
theorem dX3_isSemicolon_13 : decode cX3_isSemicolon 13 = .ok (.invokevirtual 86, 3) := by decide +kernel
theorem dX3_isSemicolon_16 : decode cX3_isSemicolon 16 = .ok (.bipush 59, 2) := by decide +kernel
theorem dX3_isSemicolon_18 : decode cX3_isSemicolon 18 = .ok (.if_icmp .ne 7, 3) := by decide +kernel
theorem dX3_isSemicolon_21 : decode cX3_isSemicolon 21 = .ok (.iconst 1, 1) := by decide +kernel
theorem dX3_isSemicolon_22 : decode cX3_isSemicolon 22 = .ok (.goto 4, 3) := by decide +kernel
theorem dX3_isSemicolon_25 : decode cX3_isSemicolon 25 = .ok (.iconst 0, 1) := by decide +kernel
theorem dX3_isSemicolon_26 : decode cX3_isSemicolon 26 = .ok (.ireturn, 1) := by decide +kernel
theorem dX3_isNumber_0 : decode cX3_isNumber 0 = .ok (.aload_n 0, 1) := by decide +kernel
theorem dX3_isNumber_1 : decode cX3_isNumber 1 = .ok (.getfield 26, 3) := by decide +kernel
theorem dX3_isNumber_4 : decode cX3_isNumber 4 = .ok (.aload_n 0, 1) := by decide +kernel
theorem dX3_isNumber_5 : decode cX3_isNumber 5 = .ok (.getfield 35, 3) := by decide +kernel
theorem dX3_isNumber_8 : decode cX3_isNumber 8 = .ok (.isub, 1) := by decide +kernel
theorem dX3_isNumber_9 : decode cX3_isNumber 9 = .ok (.istore_n 1, 1) := by decide +kernel
theorem dX3_isNumber_10 : decode cX3_isNumber 10 = .ok (.aload_n 0, 1) := by decide +kernel
theorem dX3_isNumber_11 : decode cX3_isNumber 11 = .ok (.getfield 32, 3) := by decide +kernel
theorem dX3_isNumber_14 : decode cX3_isNumber 14 = .ok (.iconst 2, 1) := by decide +kernel
theorem dX3_isNumber_15 : decode cX3_isNumber 15 = .ok (.if_icmp .ne 30, 3) := by decide +kernel
theorem dX3_isNumber_18 : decode cX3_isNumber 18 = .ok (.iload_n 1, 1) := by decide +kernel
theorem dX3_isNumber_19 : decode cX3_isNumber 19 = .ok (.iconst 4, 1) := by decide +kernel
theorem dX3_isNumber_20 : decode cX3_isNumber 20 = .ok (.if_icmp .gt 25, 3) := by decide +kernel
theorem dX3_isNumber_23 : decode cX3_isNumber 23 = .ok (.iload_n 1, 1) := by decide +kernel
theorem dX3_isNumber_24 : decode cX3_isNumber 24 = .ok (.iconst 1, 1) := by decide +kernel
theorem dX3_isNumber_25 : decode cX3_isNumber 25 = .ok (.if_icmp .eq 16, 3) := by decide +kernel
theorem dX3_isNumber_28 : decode cX3_isNumber 28 = .ok (.aload_n 0, 1) := by decide +kernel
theorem dX3_isNumber_29 : decode cX3_isNumber 29 = .ok (.aload_n 0, 1) := by decide +kernel
theorem dX3_isNumber_30 : decode cX3_isNumber 30 = .ok (.getfield 35, 3) := by decide +kernel
theorem dX3_isNumber_33 : decode cX3_isNumber 33 = .ok (.invokevirtual 86, 3) := by decide +kernel
theorem dX3_isNumber_36 : decode cX3_isNumber 36 = .ok (.bipush 48, 2) := by decide +kernel
theorem dX3_isNumber_38 : decode cX3_isNumber 38 = .ok (.if_icmp .eq 7, 3) := by decide +kernel
theorem dX3_isNumber_41 : decode cX3_isNumber 41 = .ok (.iconst 1, 1) := by decide +kernel
theorem dX3_isNumber_42 : decode cX3_isNumber 42 = .ok (.goto 4, 3) := by decide +kernel
theorem dX3_isNumber_45 : decode cX3_isNumber 45 = .ok (.iconst 0, 1) := by decide +kernel
theorem dX3_isNumber_46 : decode cX3_isNumber 46 = .ok (.ireturn, 1) := by decide +kernel
theorem dX3_numberValue_0 : decode cX3_numberValue 0 = .ok (.iconst 0, 1) := by decide +kernel
theorem dX3_numberValue_1 : decode cX3_numberValue 1 = .ok (.istore_n 1, 1) := by decide +kernel
theorem dX3_numberValue_2 : decode cX3_numberValue 2 = .ok (.aload_n 0, 1) := by decide +kernel
theorem dX3_numberValue_3 : decode cX3_numberValue 3 = .ok (.getfield 35, 3) := by decide +kernel
theorem dX3_numberValue_6 : decode cX3_numberValue 6 = .ok (.istore_n 2, 1) := by decide +kernel
theorem dX3_numberValue_7 : decode cX3_numberValue 7 = .ok (.iload_n 2, 1) := by decide +kernel
theorem dX3_numberValue_8 : decode cX3_numberValue 8 = .ok (.aload_n 0, 1) := by decide +kernel
theorem dX3_numberValue_9 : decode cX3_numberValue 9 = .ok (.getfield 26, 3) := by decide +kernel
theorem dX3_numberValue_12 : decode cX3_numberValue 12 = .ok (.if_icmp .ge 23, 3) := by decide +kernel
theorem dX3_numberValue_15 : decode cX3_numberValue 15 = .ok (.iload_n 1, 1) := by decide +kernel
theorem dX3_numberValue_16 : decode cX3_numberValue 16 = .ok (.bipush 10, 2) := by decide +kernel
theorem dX3_numberValue_18 : decode cX3_numberValue 18 = .ok (.imul, 1) := by decide +kernel
theorem dX3_numberValue_19 : decode cX3_numberValue 19 = .ok (.aload_n 0, 1) := by decide +kernel
theorem dX3_numberValue_20 : decode cX3_numberValue 20 = .ok (.iload_n 2, 1) := by decide +kernel
theorem dX3_numberValue_21 : decode cX3_numberValue 21 = .ok (.invokevirtual 86, 3) := by decide +kernel
theorem dX3_numberValue_24 : decode cX3_numberValue 24 = .ok (.iadd, 1) := by decide +kernel
theorem dX3_numberValue_25 : decode cX3_numberValue 25 = .ok (.bipush 48, 2) := by decide +kernel
theorem dX3_numberValue_27 : decode cX3_numberValue 27 = .ok (.isub, 1) := by decide +kernel
theorem dX3_numberValue_28 : decode cX3_numberValue 28 = .ok (.istore_n 1, 1) := by decide +kernel
theorem dX3_numberValue_29 : decode cX3_numberValue 29 = .ok (.iinc 2 1, 3) := by decide +kernel
theorem dX3_numberValue_32 : decode cX3_numberValue 32 = .ok (.goto (-25), 3) := by decide +kernel
theorem dX3_numberValue_35 : decode cX3_numberValue 35 = .ok (.iload_n 1, 1) := by decide +kernel
theorem dX3_numberValue_36 : decode cX3_numberValue 36 = .ok (.ireturn, 1) := by decide +kernel
theorem dX3_commandWord_0 : decode cX3_commandWord 0 = .ok (.aload_n 0, 1) := by decide +kernel
theorem dX3_commandWord_1 : decode cX3_commandWord 1 = .ok (.ldc 92, 2) := by decide +kernel
theorem dX3_commandWord_3 : decode cX3_commandWord 3 = .ok (.invokevirtual 94, 3) := by decide +kernel
theorem dX3_commandWord_6 : decode cX3_commandWord 6 = .ok (.ifCond .eq 5, 3) := by decide +kernel
theorem dX3_commandWord_9 : decode cX3_commandWord 9 = .ok (.iconst 0, 1) := by decide +kernel
theorem dX3_commandWord_10 : decode cX3_commandWord 10 = .ok (.ireturn, 1) := by decide +kernel
theorem dX3_commandWord_11 : decode cX3_commandWord 11 = .ok (.aload_n 0, 1) := by decide +kernel
theorem dX3_commandWord_12 : decode cX3_commandWord 12 = .ok (.ldc 98, 2) := by decide +kernel
theorem dX3_commandWord_14 : decode cX3_commandWord 14 = .ok (.invokevirtual 94, 3) := by decide +kernel
theorem dX3_commandWord_17 : decode cX3_commandWord 17 = .ok (.ifCond .eq 5, 3) := by decide +kernel
theorem dX3_commandWord_20 : decode cX3_commandWord 20 = .ok (.iconst 1, 1) := by decide +kernel
theorem dX3_commandWord_21 : decode cX3_commandWord 21 = .ok (.ireturn, 1) := by decide +kernel
theorem dX3_commandWord_22 : decode cX3_commandWord 22 = .ok (.aload_n 0, 1) := by decide +kernel
theorem dX3_commandWord_23 : decode cX3_commandWord 23 = .ok (.ldc 100, 2) := by decide +kernel
theorem dX3_commandWord_25 : decode cX3_commandWord 25 = .ok (.invokevirtual 94, 3) := by decide +kernel
theorem dX3_commandWord_28 : decode cX3_commandWord 28 = .ok (.ifCond .eq 5, 3) := by decide +kernel
theorem dX3_commandWord_31 : decode cX3_commandWord 31 = .ok (.iconst 2, 1) := by decide +kernel
theorem dX3_commandWord_32 : decode cX3_commandWord 32 = .ok (.ireturn, 1) := by decide +kernel
theorem dX3_commandWord_33 : decode cX3_commandWord 33 = .ok (.aload_n 0, 1) := by decide +kernel
theorem dX3_commandWord_34 : decode cX3_commandWord 34 = .ok (.ldc 102, 2) := by decide +kernel
theorem dX3_commandWord_36 : decode cX3_commandWord 36 = .ok (.invokevirtual 94, 3) := by decide +kernel
theorem dX3_commandWord_39 : decode cX3_commandWord 39 = .ok (.ifCond .eq 5, 3) := by decide +kernel
theorem dX3_commandWord_42 : decode cX3_commandWord 42 = .ok (.iconst 3, 1) := by decide +kernel
theorem dX3_commandWord_43 : decode cX3_commandWord 43 = .ok (.ireturn, 1) := by decide +kernel
theorem dX3_commandWord_44 : decode cX3_commandWord 44 = .ok (.aload_n 0, 1) := by decide +kernel
theorem dX3_commandWord_45 : decode cX3_commandWord 45 = .ok (.ldc 104, 2) := by decide +kernel
theorem dX3_commandWord_47 : decode cX3_commandWord 47 = .ok (.invokevirtual 94, 3) := by decide +kernel
theorem dX3_commandWord_50 : decode cX3_commandWord 50 = .ok (.ifCond .eq 5, 3) := by decide +kernel
theorem dX3_commandWord_53 : decode cX3_commandWord 53 = .ok (.iconst 4, 1) := by decide +kernel
theorem dX3_commandWord_54 : decode cX3_commandWord 54 = .ok (.ireturn, 1) := by decide +kernel
theorem dX3_commandWord_55 : decode cX3_commandWord 55 = .ok (.aload_n 0, 1) := by decide +kernel
theorem dX3_commandWord_56 : decode cX3_commandWord 56 = .ok (.ldc 106, 2) := by decide +kernel
theorem dX3_commandWord_58 : decode cX3_commandWord 58 = .ok (.invokevirtual 94, 3) := by decide +kernel
theorem dX3_commandWord_61 : decode cX3_commandWord 61 = .ok (.ifCond .eq 5, 3) := by decide +kernel
theorem dX3_commandWord_64 : decode cX3_commandWord 64 = .ok (.iconst 5, 1) := by decide +kernel
theorem dX3_commandWord_65 : decode cX3_commandWord 65 = .ok (.ireturn, 1) := by decide +kernel
theorem dX3_commandWord_66 : decode cX3_commandWord 66 = .ok (.aload_n 0, 1) := by decide +kernel
theorem dX3_commandWord_67 : decode cX3_commandWord 67 = .ok (.ldc 108, 2) := by decide +kernel
theorem dX3_commandWord_69 : decode cX3_commandWord 69 = .ok (.invokevirtual 94, 3) := by decide +kernel
theorem dX3_commandWord_72 : decode cX3_commandWord 72 = .ok (.ifCond .eq 8, 3) := by decide +kernel
theorem dX3_commandWord_75 : decode cX3_commandWord 75 = .ok (.bipush 6, 2) := by decide +kernel
theorem dX3_commandWord_77 : decode cX3_commandWord 77 = .ok (.goto 4, 3) := by decide +kernel
theorem dX3_commandWord_80 : decode cX3_commandWord 80 = .ok (.iconst (-1), 1) := by decide +kernel
theorem dX3_commandWord_81 : decode cX3_commandWord 81 = .ok (.ireturn, 1) := by decide +kernel
theorem dX3_isWord_0 : decode cX3_isWord 0 = .ok (.aload_n 1, 1) := by decide +kernel
theorem dX3_isWord_1 : decode cX3_isWord 1 = .ok (.invokevirtual 110, 3) := by decide +kernel
theorem dX3_isWord_4 : decode cX3_isWord 4 = .ok (.aload_n 0, 1) := by decide +kernel
theorem dX3_isWord_5 : decode cX3_isWord 5 = .ok (.getfield 26, 3) := by decide +kernel
theorem dX3_isWord_8 : decode cX3_isWord 8 = .ok (.aload_n 0, 1) := by decide +kernel
theorem dX3_isWord_9 : decode cX3_isWord 9 = .ok (.getfield 35, 3) := by decide +kernel
theorem dX3_isWord_12 : decode cX3_isWord 12 = .ok (.isub, 1) := by decide +kernel
theorem dX3_isWord_13 : decode cX3_isWord 13 = .ok (.if_icmp .eq 5, 3) := by decide +kernel
theorem dX3_isWord_16 : decode cX3_isWord 16 = .ok (.iconst 0, 1) := by decide +kernel
theorem dX3_isWord_17 : decode cX3_isWord 17 = .ok (.ireturn, 1) := by decide +kernel
theorem dX3_isWord_18 : decode cX3_isWord 18 = .ok (.iconst 0, 1) := by decide +kernel
theorem dX3_isWord_19 : decode cX3_isWord 19 = .ok (.istore_n 2, 1) := by decide +kernel
theorem dX3_isWord_20 : decode cX3_isWord 20 = .ok (.iload_n 2, 1) := by decide +kernel
theorem dX3_isWord_21 : decode cX3_isWord 21 = .ok (.aload_n 1, 1) := by decide +kernel
theorem dX3_isWord_22 : decode cX3_isWord 22 = .ok (.invokevirtual 110, 3) := by decide +kernel
theorem dX3_isWord_25 : decode cX3_isWord 25 = .ok (.if_icmp .ge 29, 3) := by decide +kernel
theorem dX3_isWord_28 : decode cX3_isWord 28 = .ok (.aload_n 0, 1) := by decide +kernel
theorem dX3_isWord_29 : decode cX3_isWord 29 = .ok (.aload_n 0, 1) := by decide +kernel
theorem dX3_isWord_30 : decode cX3_isWord 30 = .ok (.getfield 35, 3) := by decide +kernel
theorem dX3_isWord_33 : decode cX3_isWord 33 = .ok (.iload_n 2, 1) := by decide +kernel
theorem dX3_isWord_34 : decode cX3_isWord 34 = .ok (.iadd, 1) := by decide +kernel
theorem dX3_isWord_35 : decode cX3_isWord 35 = .ok (.invokevirtual 86, 3) := by decide +kernel
theorem dX3_isWord_38 : decode cX3_isWord 38 = .ok (.aload_n 1, 1) := by decide +kernel
theorem dX3_isWord_39 : decode cX3_isWord 39 = .ok (.iload_n 2, 1) := by decide +kernel
theorem dX3_isWord_40 : decode cX3_isWord 40 = .ok (.invokevirtual 114, 3) := by decide +kernel
theorem dX3_isWord_43 : decode cX3_isWord 43 = .ok (.if_icmp .eq 5, 3) := by decide +kernel
theorem dX3_isWord_46 : decode cX3_isWord 46 = .ok (.iconst 0, 1) := by decide +kernel
theorem dX3_isWord_47 : decode cX3_isWord 47 = .ok (.ireturn, 1) := by decide +kernel
theorem dX3_isWord_48 : decode cX3_isWord 48 = .ok (.iinc 2 1, 3) := by decide +kernel
theorem dX3_isWord_51 : decode cX3_isWord 51 = .ok (.goto (-31), 3) := by decide +kernel
theorem dX3_isWord_54 : decode cX3_isWord 54 = .ok (.iconst 1, 1) := by decide +kernel
theorem dX3_isWord_55 : decode cX3_isWord 55 = .ok (.ireturn, 1) := by decide +kernel
theorem dX4_init_0 : decode cX4_init 0 = .ok (.aload_n 0, 1) := by decide +kernel
theorem dX4_init_1 : decode cX4_init 1 = .ok (.invokespecial 1, 3) := by decide +kernel
theorem dX4_init_4 : decode cX4_init 4 = .ok (.aload_n 0, 1) := by decide +kernel
theorem dX4_init_5 : decode cX4_init 5 = .ok (.new 7, 3) := by decide +kernel
theorem dX4_init_8 : decode cX4_init 8 = .ok (.dup, 1) := by decide +kernel
theorem dX4_init_9 : decode cX4_init 9 = .ok (.invokespecial 9, 3) := by decide +kernel
theorem dX4_init_12 : decode cX4_init 12 = .ok (.putfield 10, 3) := by decide +kernel
theorem dX4_init_15 : decode cX4_init 15 = .ok (.return_, 1) := by decide +kernel
theorem dX4_keep_0 : decode cX4_keep 0 = .ok (.aload_n 0, 1) := by decide +kernel
theorem dX4_keep_1 : decode cX4_keep 1 = .ok (.getfield 10, 3) := by decide +kernel
theorem dX4_keep_4 : decode cX4_keep 4 = .ok (.aload_n 1, 1) := by decide +kernel
theorem dX4_keep_5 : decode cX4_keep 5 = .ok (.invokevirtual 16, 3) := by decide +kernel
theorem dX4_keep_8 : decode cX4_keep 8 = .ok (.aload_n 0, 1) := by decide +kernel
theorem dX4_keep_9 : decode cX4_keep 9 = .ok (.iconst 1, 1) := by decide +kernel
theorem dX4_keep_10 : decode cX4_keep 10 = .ok (.putfield 20, 3) := by decide +kernel
theorem dX4_keep_13 : decode cX4_keep 13 = .ok (.return_, 1) := by decide +kernel
theorem dX4_copyFrom_0 : decode cX4_copyFrom 0 = .ok (.aload_n 1, 1) := by decide +kernel
theorem dX4_copyFrom_1 : decode cX4_copyFrom 1 = .ok (.getfield 20, 3) := by decide +kernel
theorem dX4_copyFrom_4 : decode cX4_copyFrom 4 = .ok (.ifCond .eq 14, 3) := by decide +kernel
theorem dX4_copyFrom_7 : decode cX4_copyFrom 7 = .ok (.aload_n 0, 1) := by decide +kernel
theorem dX4_copyFrom_8 : decode cX4_copyFrom 8 = .ok (.getfield 10, 3) := by decide +kernel
theorem dX4_copyFrom_11 : decode cX4_copyFrom 11 = .ok (.aload_n 1, 1) := by decide +kernel
theorem dX4_copyFrom_12 : decode cX4_copyFrom 12 = .ok (.getfield 10, 3) := by decide +kernel
theorem dX4_copyFrom_15 : decode cX4_copyFrom 15 = .ok (.invokevirtual 16, 3) := by decide +kernel
theorem dX4_copyFrom_18 : decode cX4_copyFrom 18 = .ok (.aload_n 0, 1) := by decide +kernel
theorem dX4_copyFrom_19 : decode cX4_copyFrom 19 = .ok (.aload_n 1, 1) := by decide +kernel
theorem dX4_copyFrom_20 : decode cX4_copyFrom 20 = .ok (.getfield 20, 3) := by decide +kernel
theorem dX4_copyFrom_23 : decode cX4_copyFrom 23 = .ok (.putfield 20, 3) := by decide +kernel
theorem dX4_copyFrom_26 : decode cX4_copyFrom 26 = .ok (.return_, 1) := by decide +kernel
theorem dX5_init_0 : decode cX5_init 0 = .ok (.aload_n 0, 1) := by decide +kernel
theorem dX5_init_1 : decode cX5_init 1 = .ok (.invokespecial 1, 3) := by decide +kernel
theorem dX5_init_4 : decode cX5_init 4 = .ok (.aload_n 0, 1) := by decide +kernel
theorem dX5_init_5 : decode cX5_init 5 = .ok (.new 7, 3) := by decide +kernel
theorem dX5_init_8 : decode cX5_init 8 = .ok (.dup, 1) := by decide +kernel
theorem dX5_init_9 : decode cX5_init 9 = .ok (.invokespecial 9, 3) := by decide +kernel
theorem dX5_init_12 : decode cX5_init 12 = .ok (.putfield 10, 3) := by decide +kernel
theorem dX5_init_15 : decode cX5_init 15 = .ok (.aload_n 0, 1) := by decide +kernel
theorem dX5_init_16 : decode cX5_init 16 = .ok (.new 16, 3) := by decide +kernel
theorem dX5_init_19 : decode cX5_init 19 = .ok (.dup, 1) := by decide +kernel
theorem dX5_init_20 : decode cX5_init 20 = .ok (.invokespecial 18, 3) := by decide +kernel
theorem dX5_init_23 : decode cX5_init 23 = .ok (.putfield 19, 3) := by decide +kernel
theorem dX5_init_26 : decode cX5_init 26 = .ok (.aload_n 0, 1) := by decide +kernel
theorem dX5_init_27 : decode cX5_init 27 = .ok (.new 16, 3) := by decide +kernel
theorem dX5_init_30 : decode cX5_init 30 = .ok (.dup, 1) := by decide +kernel
theorem dX5_init_31 : decode cX5_init 31 = .ok (.invokespecial 18, 3) := by decide +kernel
theorem dX5_init_34 : decode cX5_init 34 = .ok (.putfield 23, 3) := by decide +kernel
theorem dX5_init_37 : decode cX5_init 37 = .ok (.return_, 1) := by decide +kernel
theorem dX5_slotOf_0 : decode cX5_slotOf 0 = .ok (.iload_n 1, 1) := by decide +kernel
theorem dX5_slotOf_1 : decode cX5_slotOf 1 = .ok (.ifCond .ne 10, 3) := by decide +kernel
theorem dX5_slotOf_4 : decode cX5_slotOf 4 = .ok (.aload_n 0, 1) := by decide +kernel
theorem dX5_slotOf_5 : decode cX5_slotOf 5 = .ok (.getfield 19, 3) := by decide +kernel
theorem dX5_slotOf_8 : decode cX5_slotOf 8 = .ok (.goto 7, 3) := by decide +kernel
theorem dX5_slotOf_11 : decode cX5_slotOf 11 = .ok (.aload_n 0, 1) := by decide +kernel
theorem dX5_slotOf_12 : decode cX5_slotOf 12 = .ok (.getfield 23, 3) := by decide +kernel
theorem dX5_slotOf_15 : decode cX5_slotOf 15 = .ok (.areturn, 1) := by decide +kernel
theorem dX5_snapshots_0 : decode cX5_snapshots 0 = .ok (.aload_n 0, 1) := by decide +kernel
theorem dX5_snapshots_1 : decode cX5_snapshots 1 = .ok (.getfield 19, 3) := by decide +kernel
theorem dX5_snapshots_4 : decode cX5_snapshots 4 = .ok (.getfield 26, 3) := by decide +kernel
theorem dX5_snapshots_7 : decode cX5_snapshots 7 = .ok (.ifCond .eq 7, 3) := by decide +kernel
theorem dX5_snapshots_10 : decode cX5_snapshots 10 = .ok (.iconst 1, 1) := by decide +kernel
theorem dX5_snapshots_11 : decode cX5_snapshots 11 = .ok (.goto 4, 3) := by decide +kernel
theorem dX5_snapshots_14 : decode cX5_snapshots 14 = .ok (.iconst 0, 1) := by decide +kernel
theorem dX5_snapshots_15 : decode cX5_snapshots 15 = .ok (.aload_n 0, 1) := by decide +kernel
theorem dX5_snapshots_16 : decode cX5_snapshots 16 = .ok (.getfield 23, 3) := by decide +kernel
theorem dX5_snapshots_19 : decode cX5_snapshots 19 = .ok (.getfield 26, 3) := by decide +kernel
theorem dX5_snapshots_22 : decode cX5_snapshots 22 = .ok (.ifCond .eq 7, 3) := by decide +kernel
theorem dX5_snapshots_25 : decode cX5_snapshots 25 = .ok (.iconst 1, 1) := by decide +kernel
theorem dX5_snapshots_26 : decode cX5_snapshots 26 = .ok (.goto 4, 3) := by decide +kernel
theorem dX5_snapshots_29 : decode cX5_snapshots 29 = .ok (.iconst 0, 1) := by decide +kernel
theorem dX5_snapshots_30 : decode cX5_snapshots 30 = .ok (.iadd, 1) := by decide +kernel
theorem dX5_snapshots_31 : decode cX5_snapshots 31 = .ok (.ireturn, 1) := by decide +kernel
theorem dX5_copyFrom_0 : decode cX5_copyFrom 0 = .ok (.aload_n 0, 1) := by decide +kernel
theorem dX5_copyFrom_1 : decode cX5_copyFrom 1 = .ok (.getfield 10, 3) := by decide +kernel
theorem dX5_copyFrom_4 : decode cX5_copyFrom 4 = .ok (.aload_n 1, 1) := by decide +kernel
theorem dX5_copyFrom_5 : decode cX5_copyFrom 5 = .ok (.getfield 10, 3) := by decide +kernel
theorem dX5_copyFrom_8 : decode cX5_copyFrom 8 = .ok (.invokevirtual 30, 3) := by decide +kernel
theorem dX5_copyFrom_11 : decode cX5_copyFrom 11 = .ok (.aload_n 0, 1) := by decide +kernel
theorem dX5_copyFrom_12 : decode cX5_copyFrom 12 = .ok (.getfield 19, 3) := by decide +kernel
theorem dX5_copyFrom_15 : decode cX5_copyFrom 15 = .ok (.aload_n 1, 1) := by decide +kernel
theorem dX5_copyFrom_16 : decode cX5_copyFrom 16 = .ok (.getfield 19, 3) := by decide +kernel
theorem dX5_copyFrom_19 : decode cX5_copyFrom 19 = .ok (.invokevirtual 34, 3) := by decide +kernel
theorem dX5_copyFrom_22 : decode cX5_copyFrom 22 = .ok (.aload_n 0, 1) := by decide +kernel
theorem dX5_copyFrom_23 : decode cX5_copyFrom 23 = .ok (.getfield 23, 3) := by decide +kernel
theorem dX5_copyFrom_26 : decode cX5_copyFrom 26 = .ok (.aload_n 1, 1) := by decide +kernel
theorem dX5_copyFrom_27 : decode cX5_copyFrom 27 = .ok (.getfield 23, 3) := by decide +kernel
theorem dX5_copyFrom_30 : decode cX5_copyFrom 30 = .ok (.invokevirtual 34, 3) := by decide +kernel
theorem dX5_copyFrom_33 : decode cX5_copyFrom 33 = .ok (.return_, 1) := by decide +kernel
theorem dX6_init_0 : decode cX6_init 0 = .ok (.aload_n 0, 1) := by decide +kernel
theorem dX6_init_1 : decode cX6_init 1 = .ok (.invokespecial 3, 3) := by decide +kernel
theorem dX6_init_4 : decode cX6_init 4 = .ok (.aload_n 0, 1) := by decide +kernel
theorem dX6_init_5 : decode cX6_init 5 = .ok (.iconst 0, 1) := by decide +kernel
theorem dX6_init_6 : decode cX6_init 6 = .ok (.iload_n 1, 1) := by decide +kernel
theorem dX6_init_7 : decode cX6_init 7 = .ok (.invokestatic 9, 3) := by decide +kernel
theorem dX6_init_10 : decode cX6_init 10 = .ok (.putfield 15, 3) := by decide +kernel
theorem dX6_init_13 : decode cX6_init 13 = .ok (.aload_n 0, 1) := by decide +kernel
theorem dX6_init_14 : decode cX6_init 14 = .ok (.iconst 0, 1) := by decide +kernel
theorem dX6_init_15 : decode cX6_init 15 = .ok (.iload_n 2, 1) := by decide +kernel
theorem dX6_init_16 : decode cX6_init 16 = .ok (.invokestatic 9, 3) := by decide +kernel
theorem dX6_init_19 : decode cX6_init 19 = .ok (.putfield 21, 3) := by decide +kernel
theorem dX6_init_22 : decode cX6_init 22 = .ok (.aload_n 0, 1) := by decide +kernel
theorem dX6_init_23 : decode cX6_init 23 = .ok (.getfield 15, 3) := by decide +kernel
theorem dX6_init_26 : decode cX6_init 26 = .ok (.aload_n 0, 1) := by decide +kernel
theorem dX6_init_27 : decode cX6_init 27 = .ok (.getfield 21, 3) := by decide +kernel
theorem dX6_init_30 : decode cX6_init 30 = .ok (.imul, 1) := by decide +kernel
theorem dX6_init_31 : decode cX6_init 31 = .ok (.istore_n 3, 1) := by decide +kernel
theorem dX6_init_32 : decode cX6_init 32 = .ok (.aload_n 0, 1) := by decide +kernel
theorem dX6_init_33 : decode cX6_init 33 = .ok (.iload_n 3, 1) := by decide +kernel
theorem dX6_init_34 : decode cX6_init 34 = .ok (.ifCond .ge 7, 3) := by decide +kernel
theorem dX6_init_37 : decode cX6_init 37 = .ok (.iconst 0, 1) := by decide +kernel
theorem dX6_init_38 : decode cX6_init 38 = .ok (.goto 4, 3) := by decide +kernel
theorem dX6_init_41 : decode cX6_init 41 = .ok (.iload_n 3, 1) := by decide +kernel
theorem dX6_init_42 : decode cX6_init 42 = .ok (.newarray .int, 2) := by decide +kernel
theorem dX6_init_44 : decode cX6_init 44 = .ok (.putfield 24, 3) := by decide +kernel
theorem dX6_init_47 : decode cX6_init 47 = .ok (.return_, 1) := by decide +kernel
theorem dX6_size_0 : decode cX6_size 0 = .ok (.aload_n 0, 1) := by decide +kernel
theorem dX6_size_1 : decode cX6_size 1 = .ok (.getfield 28, 3) := by decide +kernel
theorem dX6_size_4 : decode cX6_size 4 = .ok (.ireturn, 1) := by decide +kernel
theorem dX6_has_0 : decode cX6_has 0 = .ok (.iload_n 1, 1) := by decide +kernel
theorem dX6_has_1 : decode cX6_has 1 = .ok (.ifCond .lt 15, 3) := by decide +kernel
theorem dX6_has_4 : decode cX6_has 4 = .ok (.iload_n 1, 1) := by decide +kernel
theorem dX6_has_5 : decode cX6_has 5 = .ok (.aload_n 0, 1) := by decide +kernel
theorem dX6_has_6 : decode cX6_has 6 = .ok (.getfield 28, 3) := by decide +kernel
theorem dX6_has_9 : decode cX6_has 9 = .ok (.if_icmp .ge 7, 3) := by decide +kernel
theorem dX6_has_12 : decode cX6_has 12 = .ok (.iconst 1, 1) := by decide +kernel
theorem dX6_has_13 : decode cX6_has 13 = .ok (.goto 4, 3) := by decide +kernel
theorem dX6_has_16 : decode cX6_has 16 = .ok (.iconst 0, 1) := by decide +kernel
theorem dX6_has_17 : decode cX6_has 17 = .ok (.ireturn, 1) := by decide +kernel
theorem dX6_isFull_0 : decode cX6_isFull 0 = .ok (.aload_n 0, 1) := by decide +kernel
theorem dX6_isFull_1 : decode cX6_isFull 1 = .ok (.getfield 28, 3) := by decide +kernel
theorem dX6_isFull_4 : decode cX6_isFull 4 = .ok (.aload_n 0, 1) := by decide +kernel
theorem dX6_isFull_5 : decode cX6_isFull 5 = .ok (.getfield 15, 3) := by decide +kernel
theorem dX6_isFull_8 : decode cX6_isFull 8 = .ok (.if_icmp .lt 7, 3) := by decide +kernel
theorem dX6_isFull_11 : decode cX6_isFull 11 = .ok (.iconst 1, 1) := by decide +kernel
theorem dX6_isFull_12 : decode cX6_isFull 12 = .ok (.goto 4, 3) := by decide +kernel
theorem dX6_isFull_15 : decode cX6_isFull 15 = .ok (.iconst 0, 1) := by decide +kernel
theorem dX6_isFull_16 : decode cX6_isFull 16 = .ok (.ireturn, 1) := by decide +kernel
theorem dX6_addRow_0 : decode cX6_addRow 0 = .ok (.aload_n 0, 1) := by decide +kernel
theorem dX6_addRow_1 : decode cX6_addRow 1 = .ok (.invokevirtual 31, 3) := by decide +kernel
theorem dX6_addRow_4 : decode cX6_addRow 4 = .ok (.ifCond .eq 6, 3) := by decide +kernel
theorem dX6_addRow_7 : decode cX6_addRow 7 = .ok (.bipush (-9), 2) := by decide +kernel
theorem dX6_addRow_9 : decode cX6_addRow 9 = .ok (.ireturn, 1) := by decide +kernel
theorem dX6_addRow_10 : decode cX6_addRow 10 = .ok (.aload_n 0, 1) := by decide +kernel
theorem dX6_addRow_11 : decode cX6_addRow 11 = .ok (.getfield 28, 3) := by decide +kernel
theorem dX6_addRow_14 : decode cX6_addRow 14 = .ok (.istore_n 1, 1) := by decide +kernel
theorem dX6_addRow_15 : decode cX6_addRow 15 = .ok (.aload_n 0, 1) := by decide +kernel
theorem dX6_addRow_16 : decode cX6_addRow 16 = .ok (.iload_n 1, 1) := by decide +kernel
theorem dX6_addRow_17 : decode cX6_addRow 17 = .ok (.iconst 1, 1) := by decide +kernel
theorem dX6_addRow_18 : decode cX6_addRow 18 = .ok (.iadd, 1) := by decide +kernel
theorem dX6_addRow_19 : decode cX6_addRow 19 = .ok (.putfield 28, 3) := by decide +kernel
theorem dX6_addRow_22 : decode cX6_addRow 22 = .ok (.iconst 0, 1) := by decide +kernel
theorem dX6_addRow_23 : decode cX6_addRow 23 = .ok (.istore_n 2, 1) := by decide +kernel
theorem dX6_addRow_24 : decode cX6_addRow 24 = .ok (.iload_n 2, 1) := by decide +kernel
theorem dX6_addRow_25 : decode cX6_addRow 25 = .ok (.aload_n 0, 1) := by decide +kernel
theorem dX6_addRow_26 : decode cX6_addRow 26 = .ok (.getfield 21, 3) := by decide +kernel
theorem dX6_addRow_29 : decode cX6_addRow 29 = .ok (.if_icmp .ge 16, 3) := by decide +kernel
theorem dX6_addRow_32 : decode cX6_addRow 32 = .ok (.aload_n 0, 1) := by decide +kernel
theorem dX6_addRow_33 : decode cX6_addRow 33 = .ok (.iload_n 1, 1) := by decide +kernel
theorem dX6_addRow_34 : decode cX6_addRow 34 = .ok (.iload_n 2, 1) := by decide +kernel
theorem dX6_addRow_35 : decode cX6_addRow 35 = .ok (.iconst 0, 1) := by decide +kernel
theorem dX6_addRow_36 : decode cX6_addRow 36 = .ok (.invokevirtual 35, 3) := by decide +kernel
theorem dX6_addRow_39 : decode cX6_addRow 39 = .ok (.iinc 2 1, 3) := by decide +kernel
theorem dX6_addRow_42 : decode cX6_addRow 42 = .ok (.goto (-18), 3) := by decide +kernel
theorem dX6_addRow_45 : decode cX6_addRow 45 = .ok (.iload_n 1, 1) := by decide +kernel
theorem dX6_addRow_46 : decode cX6_addRow 46 = .ok (.ireturn, 1) := by decide +kernel
theorem dX6_cell_0 : decode cX6_cell 0 = .ok (.iload_n 1, 1) := by decide +kernel
theorem dX6_cell_1 : decode cX6_cell 1 = .ok (.aload_n 0, 1) := by decide +kernel
theorem dX6_cell_2 : decode cX6_cell 2 = .ok (.getfield 21, 3) := by decide +kernel
theorem dX6_cell_5 : decode cX6_cell 5 = .ok (.imul, 1) := by decide +kernel
theorem dX6_cell_6 : decode cX6_cell 6 = .ok (.iload_n 2, 1) := by decide +kernel
theorem dX6_cell_7 : decode cX6_cell 7 = .ok (.iadd, 1) := by decide +kernel
theorem dX6_cell_8 : decode cX6_cell 8 = .ok (.istore_n 3, 1) := by decide +kernel
theorem dX6_cell_9 : decode cX6_cell 9 = .ok (.iload_n 1, 1) := by decide +kernel
theorem dX6_cell_10 : decode cX6_cell 10 = .ok (.ifCond .lt 27, 3) := by decide +kernel
theorem dX6_cell_13 : decode cX6_cell 13 = .ok (.iload_n 1, 1) := by decide +kernel
theorem dX6_cell_14 : decode cX6_cell 14 = .ok (.aload_n 0, 1) := by decide +kernel
theorem dX6_cell_15 : decode cX6_cell 15 = .ok (.getfield 28, 3) := by decide +kernel
theorem dX6_cell_18 : decode cX6_cell 18 = .ok (.if_icmp .ge 19, 3) := by decide +kernel
theorem dX6_cell_21 : decode cX6_cell 21 = .ok (.iload_n 2, 1) := by decide +kernel
theorem dX6_cell_22 : decode cX6_cell 22 = .ok (.ifCond .lt 15, 3) := by decide +kernel
theorem dX6_cell_25 : decode cX6_cell 25 = .ok (.iload_n 2, 1) := by decide +kernel
theorem dX6_cell_26 : decode cX6_cell 26 = .ok (.aload_n 0, 1) := by decide +kernel
theorem dX6_cell_27 : decode cX6_cell 27 = .ok (.getfield 21, 3) := by decide +kernel
theorem dX6_cell_30 : decode cX6_cell 30 = .ok (.if_icmp .ge 7, 3) := by decide +kernel
theorem dX6_cell_33 : decode cX6_cell 33 = .ok (.iconst 1, 1) := by decide +kernel
theorem dX6_cell_34 : decode cX6_cell 34 = .ok (.goto 4, 3) := by decide +kernel
theorem dX6_cell_37 : decode cX6_cell 37 = .ok (.iconst 0, 1) := by decide +kernel
theorem dX6_cell_38 : decode cX6_cell 38 = .ok (.istore 4, 2) := by decide +kernel
theorem dX6_cell_40 : decode cX6_cell 40 = .ok (.iload 4, 2) := by decide +kernel
theorem dX6_cell_42 : decode cX6_cell 42 = .ok (.ifCond .eq 25, 3) := by decide +kernel
theorem dX6_cell_45 : decode cX6_cell 45 = .ok (.iload_n 3, 1) := by decide +kernel
theorem dX6_cell_46 : decode cX6_cell 46 = .ok (.ifCond .lt 21, 3) := by decide +kernel
theorem dX6_cell_49 : decode cX6_cell 49 = .ok (.iload_n 3, 1) := by decide +kernel
theorem dX6_cell_50 : decode cX6_cell 50 = .ok (.aload_n 0, 1) := by decide +kernel
theorem dX6_cell_51 : decode cX6_cell 51 = .ok (.getfield 24, 3) := by decide +kernel
theorem dX6_cell_54 : decode cX6_cell 54 = .ok (.arraylength, 1) := by decide +kernel
theorem dX6_cell_55 : decode cX6_cell 55 = .ok (.if_icmp .ge 12, 3) := by decide +kernel
theorem dX6_cell_58 : decode cX6_cell 58 = .ok (.aload_n 0, 1) := by decide +kernel
theorem dX6_cell_59 : decode cX6_cell 59 = .ok (.getfield 24, 3) := by decide +kernel
theorem dX6_cell_62 : decode cX6_cell 62 = .ok (.iload_n 3, 1) := by decide +kernel
theorem dX6_cell_63 : decode cX6_cell 63 = .ok (.iaload, 1) := by decide +kernel
theorem dX6_cell_64 : decode cX6_cell 64 = .ok (.goto 4, 3) := by decide +kernel
theorem dX6_cell_67 : decode cX6_cell 67 = .ok (.iconst 0, 1) := by decide +kernel
theorem dX6_cell_68 : decode cX6_cell 68 = .ok (.ireturn, 1) := by decide +kernel
theorem dX6_put_0 : decode cX6_put 0 = .ok (.iload_n 1, 1) := by decide +kernel
theorem dX6_put_1 : decode cX6_put 1 = .ok (.aload_n 0, 1) := by decide +kernel
theorem dX6_put_2 : decode cX6_put 2 = .ok (.getfield 21, 3) := by decide +kernel
theorem dX6_put_5 : decode cX6_put 5 = .ok (.imul, 1) := by decide +kernel
theorem dX6_put_6 : decode cX6_put 6 = .ok (.iload_n 2, 1) := by decide +kernel
theorem dX6_put_7 : decode cX6_put 7 = .ok (.iadd, 1) := by decide +kernel
theorem dX6_put_8 : decode cX6_put 8 = .ok (.istore 4, 2) := by decide +kernel
theorem dX6_put_10 : decode cX6_put 10 = .ok (.iload_n 1, 1) := by decide +kernel
theorem dX6_put_11 : decode cX6_put 11 = .ok (.ifCond .lt 27, 3) := by decide +kernel
theorem dX6_put_14 : decode cX6_put 14 = .ok (.iload_n 1, 1) := by decide +kernel
theorem dX6_put_15 : decode cX6_put 15 = .ok (.aload_n 0, 1) := by decide +kernel
theorem dX6_put_16 : decode cX6_put 16 = .ok (.getfield 28, 3) := by decide +kernel
theorem dX6_put_19 : decode cX6_put 19 = .ok (.if_icmp .ge 19, 3) := by decide +kernel
theorem dX6_put_22 : decode cX6_put 22 = .ok (.iload_n 2, 1) := by decide +kernel
theorem dX6_put_23 : decode cX6_put 23 = .ok (.ifCond .lt 15, 3) := by decide +kernel
theorem dX6_put_26 : decode cX6_put 26 = .ok (.iload_n 2, 1) := by decide +kernel
theorem dX6_put_27 : decode cX6_put 27 = .ok (.aload_n 0, 1) := by decide +kernel
theorem dX6_put_28 : decode cX6_put 28 = .ok (.getfield 21, 3) := by decide +kernel
theorem dX6_put_31 : decode cX6_put 31 = .ok (.if_icmp .ge 7, 3) := by decide +kernel
theorem dX6_put_34 : decode cX6_put 34 = .ok (.iconst 1, 1) := by decide +kernel
theorem dX6_put_35 : decode cX6_put 35 = .ok (.goto 4, 3) := by decide +kernel
theorem dX6_put_38 : decode cX6_put 38 = .ok (.iconst 0, 1) := by decide +kernel
theorem dX6_put_39 : decode cX6_put 39 = .ok (.istore 5, 2) := by decide +kernel
theorem dX6_put_41 : decode cX6_put 41 = .ok (.iload 5, 2) := by decide +kernel
theorem dX6_put_43 : decode cX6_put 43 = .ok (.ifCond .eq 26, 3) := by decide +kernel
theorem dX6_put_46 : decode cX6_put 46 = .ok (.iload 4, 2) := by decide +kernel
theorem dX6_put_48 : decode cX6_put 48 = .ok (.ifCond .lt 21, 3) := by decide +kernel
theorem dX6_put_51 : decode cX6_put 51 = .ok (.iload 4, 2) := by decide +kernel
theorem dX6_put_53 : decode cX6_put 53 = .ok (.aload_n 0, 1) := by decide +kernel
theorem dX6_put_54 : decode cX6_put 54 = .ok (.getfield 24, 3) := by decide +kernel
theorem dX6_put_57 : decode cX6_put 57 = .ok (.arraylength, 1) := by decide +kernel
theorem dX6_put_58 : decode cX6_put 58 = .ok (.if_icmp .ge 11, 3) := by decide +kernel
theorem dX6_put_61 : decode cX6_put 61 = .ok (.aload_n 0, 1) := by decide +kernel
theorem dX6_put_62 : decode cX6_put 62 = .ok (.getfield 24, 3) := by decide +kernel
theorem dX6_put_65 : decode cX6_put 65 = .ok (.iload 4, 2) := by decide +kernel
theorem dX6_put_67 : decode cX6_put 67 = .ok (.iload_n 3, 1) := by decide +kernel
theorem dX6_put_68 : decode cX6_put 68 = .ok (.iastore, 1) := by decide +kernel
theorem dX6_put_69 : decode cX6_put 69 = .ok (.return_, 1) := by decide +kernel
theorem dX6_raise_0 : decode cX6_raise 0 = .ok (.aload_n 0, 1) := by decide +kernel
theorem dX6_raise_1 : decode cX6_raise 1 = .ok (.iload_n 1, 1) := by decide +kernel
theorem dX6_raise_2 : decode cX6_raise 2 = .ok (.iload_n 2, 1) := by decide +kernel
theorem dX6_raise_3 : decode cX6_raise 3 = .ok (.aload_n 0, 1) := by decide +kernel
theorem dX6_raise_4 : decode cX6_raise 4 = .ok (.iload_n 1, 1) := by decide +kernel
theorem dX6_raise_5 : decode cX6_raise 5 = .ok (.iload_n 2, 1) := by decide +kernel
theorem dX6_raise_6 : decode cX6_raise 6 = .ok (.invokevirtual 39, 3) := by decide +kernel
theorem dX6_raise_9 : decode cX6_raise 9 = .ok (.iload_n 3, 1) := by decide +kernel
theorem dX6_raise_10 : decode cX6_raise 10 = .ok (.iadd, 1) := by decide +kernel
theorem dX6_raise_11 : decode cX6_raise 11 = .ok (.invokevirtual 35, 3) := by decide +kernel
theorem dX6_raise_14 : decode cX6_raise 14 = .ok (.return_, 1) := by decide +kernel
theorem dX6_total_0 : decode cX6_total 0 = .ok (.iconst 0, 1) := by decide +kernel
theorem dX6_total_1 : decode cX6_total 1 = .ok (.istore_n 2, 1) := by decide +kernel
theorem dX6_total_2 : decode cX6_total 2 = .ok (.iconst 0, 1) := by decide +kernel
theorem dX6_total_3 : decode cX6_total 3 = .ok (.istore_n 3, 1) := by decide +kernel
theorem dX6_total_4 : decode cX6_total 4 = .ok (.iload_n 3, 1) := by decide +kernel
theorem dX6_total_5 : decode cX6_total 5 = .ok (.aload_n 0, 1) := by decide +kernel
theorem dX6_total_6 : decode cX6_total 6 = .ok (.getfield 28, 3) := by decide +kernel
theorem dX6_total_9 : decode cX6_total 9 = .ok (.if_icmp .ge 18, 3) := by decide +kernel
theorem dX6_total_12 : decode cX6_total 12 = .ok (.iload_n 2, 1) := by decide +kernel
theorem dX6_total_13 : decode cX6_total 13 = .ok (.aload_n 0, 1) := by decide +kernel
theorem dX6_total_14 : decode cX6_total 14 = .ok (.iload_n 3, 1) := by decide +kernel
theorem dX6_total_15 : decode cX6_total 15 = .ok (.iload_n 1, 1) := by decide +kernel
theorem dX6_total_16 : decode cX6_total 16 = .ok (.invokevirtual 39, 3) := by decide +kernel
theorem dX6_total_19 : decode cX6_total 19 = .ok (.iadd, 1) := by decide +kernel
theorem dX6_total_20 : decode cX6_total 20 = .ok (.istore_n 2, 1) := by decide +kernel
theorem dX6_total_21 : decode cX6_total 21 = .ok (.iinc 3 1, 3) := by decide +kernel
theorem dX6_total_24 : decode cX6_total 24 = .ok (.goto (-20), 3) := by decide +kernel
theorem dX6_total_27 : decode cX6_total 27 = .ok (.iload_n 2, 1) := by decide +kernel
theorem dX6_total_28 : decode cX6_total 28 = .ok (.ireturn, 1) := by decide +kernel
theorem dX6_copyFrom_0 : decode cX6_copyFrom 0 = .ok (.aload_n 1, 1) := by decide +kernel
theorem dX6_copyFrom_1 : decode cX6_copyFrom 1 = .ok (.getfield 28, 3) := by decide +kernel
theorem dX6_copyFrom_4 : decode cX6_copyFrom 4 = .ok (.aload_n 1, 1) := by decide +kernel
theorem dX6_copyFrom_5 : decode cX6_copyFrom 5 = .ok (.getfield 21, 3) := by decide +kernel
theorem dX6_copyFrom_8 : decode cX6_copyFrom 8 = .ok (.imul, 1) := by decide +kernel
theorem dX6_copyFrom_9 : decode cX6_copyFrom 9 = .ok (.aload_n 1, 1) := by decide +kernel
theorem dX6_copyFrom_10 : decode cX6_copyFrom 10 = .ok (.getfield 24, 3) := by decide +kernel
theorem dX6_copyFrom_13 : decode cX6_copyFrom 13 = .ok (.arraylength, 1) := by decide +kernel
theorem dX6_copyFrom_14 : decode cX6_copyFrom 14 = .ok (.aload_n 0, 1) := by decide +kernel
theorem dX6_copyFrom_15 : decode cX6_copyFrom 15 = .ok (.getfield 24, 3) := by decide +kernel
theorem dX6_copyFrom_18 : decode cX6_copyFrom 18 = .ok (.arraylength, 1) := by decide +kernel
theorem dX6_copyFrom_19 : decode cX6_copyFrom 19 = .ok (.invokestatic 42, 3) := by decide +kernel
theorem dX6_copyFrom_22 : decode cX6_copyFrom 22 = .ok (.invokestatic 42, 3) := by decide +kernel
theorem dX6_copyFrom_25 : decode cX6_copyFrom 25 = .ok (.istore_n 2, 1) := by decide +kernel
theorem dX6_copyFrom_26 : decode cX6_copyFrom 26 = .ok (.iload_n 2, 1) := by decide +kernel
theorem dX6_copyFrom_27 : decode cX6_copyFrom 27 = .ok (.ifCond .le 17, 3) := by decide +kernel
theorem dX6_copyFrom_30 : decode cX6_copyFrom 30 = .ok (.aload_n 1, 1) := by decide +kernel
theorem dX6_copyFrom_31 : decode cX6_copyFrom 31 = .ok (.getfield 24, 3) := by decide +kernel
theorem dX6_copyFrom_34 : decode cX6_copyFrom 34 = .ok (.iconst 0, 1) := by decide +kernel
theorem dX6_copyFrom_35 : decode cX6_copyFrom 35 = .ok (.aload_n 0, 1) := by decide +kernel
theorem dX6_copyFrom_36 : decode cX6_copyFrom 36 = .ok (.getfield 24, 3) := by decide +kernel
theorem dX6_copyFrom_39 : decode cX6_copyFrom 39 = .ok (.iconst 0, 1) := by decide +kernel
theorem dX6_copyFrom_40 : decode cX6_copyFrom 40 = .ok (.iload_n 2, 1) := by decide +kernel
theorem dX6_copyFrom_41 : decode cX6_copyFrom 41 = .ok (.invokestatic 45, 3) := by decide +kernel
theorem dX6_copyFrom_44 : decode cX6_copyFrom 44 = .ok (.aload_n 0, 1) := by decide +kernel
theorem dX6_copyFrom_45 : decode cX6_copyFrom 45 = .ok (.aload_n 1, 1) := by decide +kernel
theorem dX6_copyFrom_46 : decode cX6_copyFrom 46 = .ok (.getfield 28, 3) := by decide +kernel
theorem dX6_copyFrom_49 : decode cX6_copyFrom 49 = .ok (.putfield 28, 3) := by decide +kernel
theorem dX6_copyFrom_52 : decode cX6_copyFrom 52 = .ok (.return_, 1) := by decide +kernel
theorem dX7_init_0 : decode cX7_init 0 = .ok (.aload_n 0, 1) := by decide +kernel
theorem dX7_init_1 : decode cX7_init 1 = .ok (.invokespecial 3, 3) := by decide +kernel
theorem dX7_init_4 : decode cX7_init 4 = .ok (.aload_n 0, 1) := by decide +kernel
theorem dX7_init_5 : decode cX7_init 5 = .ok (.new 9, 3) := by decide +kernel
theorem dX7_init_8 : decode cX7_init 8 = .ok (.dup, 1) := by decide +kernel
theorem dX7_init_9 : decode cX7_init 9 = .ok (.iconst 4, 1) := by decide +kernel
theorem dX7_init_10 : decode cX7_init 10 = .ok (.bipush 11, 2) := by decide +kernel
theorem dX7_init_12 : decode cX7_init 12 = .ok (.invokespecial 11, 3) := by decide +kernel
theorem dX7_init_15 : decode cX7_init 15 = .ok (.putfield 14, 3) := by decide +kernel
theorem dX7_init_18 : decode cX7_init 18 = .ok (.aload_n 0, 1) := by decide +kernel
theorem dX7_init_19 : decode cX7_init 19 = .ok (.new 9, 3) := by decide +kernel
theorem dX7_init_22 : decode cX7_init 22 = .ok (.dup, 1) := by decide +kernel
theorem dX7_init_23 : decode cX7_init 23 = .ok (.bipush 16, 2) := by decide +kernel
theorem dX7_init_25 : decode cX7_init 25 = .ok (.bipush 10, 2) := by decide +kernel
theorem dX7_init_27 : decode cX7_init 27 = .ok (.invokespecial 11, 3) := by decide +kernel
theorem dX7_init_30 : decode cX7_init 30 = .ok (.putfield 20, 3) := by decide +kernel
theorem dX7_init_33 : decode cX7_init 33 = .ok (.aload_n 0, 1) := by decide +kernel
theorem dX7_init_34 : decode cX7_init 34 = .ok (.new 9, 3) := by decide +kernel
theorem dX7_init_37 : decode cX7_init 37 = .ok (.dup, 1) := by decide +kernel
theorem dX7_init_38 : decode cX7_init 38 = .ok (.bipush 8, 2) := by decide +kernel
theorem dX7_init_40 : decode cX7_init 40 = .ok (.iconst 2, 1) := by decide +kernel
theorem dX7_init_41 : decode cX7_init 41 = .ok (.invokespecial 11, 3) := by decide +kernel
theorem dX7_init_44 : decode cX7_init 44 = .ok (.putfield 23, 3) := by decide +kernel
theorem dX7_init_47 : decode cX7_init 47 = .ok (.aload_n 0, 1) := by decide +kernel
theorem dX7_init_48 : decode cX7_init 48 = .ok (.new 9, 3) := by decide +kernel
theorem dX7_init_51 : decode cX7_init 51 = .ok (.dup, 1) := by decide +kernel
theorem dX7_init_52 : decode cX7_init 52 = .ok (.bipush 16, 2) := by decide +kernel
theorem dX7_init_54 : decode cX7_init 54 = .ok (.iconst 4, 1) := by decide +kernel
theorem dX7_init_55 : decode cX7_init 55 = .ok (.invokespecial 11, 3) := by decide +kernel
theorem dX7_init_58 : decode cX7_init 58 = .ok (.putfield 26, 3) := by decide +kernel
theorem dX7_init_61 : decode cX7_init 61 = .ok (.aload_n 0, 1) := by decide +kernel
theorem dX7_init_62 : decode cX7_init 62 = .ok (.new 9, 3) := by decide +kernel
theorem dX7_init_65 : decode cX7_init 65 = .ok (.dup, 1) := by decide +kernel
theorem dX7_init_66 : decode cX7_init 66 = .ok (.getstatic 29, 3) := by decide +kernel
theorem dX7_init_69 : decode cX7_init 69 = .ok (.arraylength, 1) := by decide +kernel
theorem dX7_init_70 : decode cX7_init 70 = .ok (.iconst 1, 1) := by decide +kernel
theorem dX7_init_71 : decode cX7_init 71 = .ok (.invokespecial 11, 3) := by decide +kernel
theorem dX7_init_74 : decode cX7_init 74 = .ok (.putfield 33, 3) := by decide +kernel
theorem dX7_init_77 : decode cX7_init 77 = .ok (.iconst 0, 1) := by decide +kernel
theorem dX7_init_78 : decode cX7_init 78 = .ok (.istore_n 1, 1) := by decide +kernel
theorem dX7_init_79 : decode cX7_init 79 = .ok (.iload_n 1, 1) := by decide +kernel
theorem dX7_init_80 : decode cX7_init 80 = .ok (.getstatic 29, 3) := by decide +kernel
theorem dX7_init_83 : decode cX7_init 83 = .ok (.arraylength, 1) := by decide +kernel
theorem dX7_init_84 : decode cX7_init 84 = .ok (.if_icmp .ge 29, 3) := by decide +kernel
theorem dX7_init_87 : decode cX7_init 87 = .ok (.aload_n 0, 1) := by decide +kernel
theorem dX7_init_88 : decode cX7_init 88 = .ok (.getfield 33, 3) := by decide +kernel
theorem dX7_init_91 : decode cX7_init 91 = .ok (.aload_n 0, 1) := by decide +kernel
theorem dX7_init_92 : decode cX7_init 92 = .ok (.getfield 33, 3) := by decide +kernel
theorem dX7_init_95 : decode cX7_init 95 = .ok (.invokevirtual 36, 3) := by decide +kernel
theorem dX7_init_98 : decode cX7_init 98 = .ok (.iconst 0, 1) := by decide +kernel
theorem dX7_init_99 : decode cX7_init 99 = .ok (.getstatic 29, 3) := by decide +kernel
theorem dX7_init_102 : decode cX7_init 102 = .ok (.iload_n 1, 1) := by decide +kernel
theorem dX7_init_103 : decode cX7_init 103 = .ok (.iaload, 1) := by decide +kernel
theorem dX7_init_104 : decode cX7_init 104 = .ok (.invokevirtual 40, 3) := by decide +kernel
theorem dX7_init_107 : decode cX7_init 107 = .ok (.iinc 1 1, 3) := by decide +kernel
theorem dX7_init_110 : decode cX7_init 110 = .ok (.goto (-31), 3) := by decide +kernel
theorem dX7_init_113 : decode cX7_init 113 = .ok (.return_, 1) := by decide +kernel
theorem dX7_copyFrom_0 : decode cX7_copyFrom 0 = .ok (.aload_n 0, 1) := by decide +kernel
theorem dX7_copyFrom_1 : decode cX7_copyFrom 1 = .ok (.getfield 14, 3) := by decide +kernel
theorem dX7_copyFrom_4 : decode cX7_copyFrom 4 = .ok (.aload_n 1, 1) := by decide +kernel
theorem dX7_copyFrom_5 : decode cX7_copyFrom 5 = .ok (.getfield 14, 3) := by decide +kernel
theorem dX7_copyFrom_8 : decode cX7_copyFrom 8 = .ok (.invokevirtual 44, 3) := by decide +kernel
theorem dX7_copyFrom_11 : decode cX7_copyFrom 11 = .ok (.aload_n 0, 1) := by decide +kernel
theorem dX7_copyFrom_12 : decode cX7_copyFrom 12 = .ok (.getfield 20, 3) := by decide +kernel
theorem dX7_copyFrom_15 : decode cX7_copyFrom 15 = .ok (.aload_n 1, 1) := by decide +kernel
theorem dX7_copyFrom_16 : decode cX7_copyFrom 16 = .ok (.getfield 20, 3) := by decide +kernel
theorem dX7_copyFrom_19 : decode cX7_copyFrom 19 = .ok (.invokevirtual 44, 3) := by decide +kernel
theorem dX7_copyFrom_22 : decode cX7_copyFrom 22 = .ok (.aload_n 0, 1) := by decide +kernel
theorem dX7_copyFrom_23 : decode cX7_copyFrom 23 = .ok (.getfield 23, 3) := by decide +kernel
theorem dX7_copyFrom_26 : decode cX7_copyFrom 26 = .ok (.aload_n 1, 1) := by decide +kernel
theorem dX7_copyFrom_27 : decode cX7_copyFrom 27 = .ok (.getfield 23, 3) := by decide +kernel
theorem dX7_copyFrom_30 : decode cX7_copyFrom 30 = .ok (.invokevirtual 44, 3) := by decide +kernel
theorem dX7_copyFrom_33 : decode cX7_copyFrom 33 = .ok (.aload_n 0, 1) := by decide +kernel
theorem dX7_copyFrom_34 : decode cX7_copyFrom 34 = .ok (.getfield 26, 3) := by decide +kernel
theorem dX7_copyFrom_37 : decode cX7_copyFrom 37 = .ok (.aload_n 1, 1) := by decide +kernel
theorem dX7_copyFrom_38 : decode cX7_copyFrom 38 = .ok (.getfield 26, 3) := by decide +kernel
theorem dX7_copyFrom_41 : decode cX7_copyFrom 41 = .ok (.invokevirtual 44, 3) := by decide +kernel
theorem dX7_copyFrom_44 : decode cX7_copyFrom 44 = .ok (.aload_n 0, 1) := by decide +kernel
theorem dX7_copyFrom_45 : decode cX7_copyFrom 45 = .ok (.getfield 33, 3) := by decide +kernel
theorem dX7_copyFrom_48 : decode cX7_copyFrom 48 = .ok (.aload_n 1, 1) := by decide +kernel
theorem dX7_copyFrom_49 : decode cX7_copyFrom 49 = .ok (.getfield 33, 3) := by decide +kernel
theorem dX7_copyFrom_52 : decode cX7_copyFrom 52 = .ok (.invokevirtual 44, 3) := by decide +kernel
theorem dX7_copyFrom_55 : decode cX7_copyFrom 55 = .ok (.aload_n 0, 1) := by decide +kernel
theorem dX7_copyFrom_56 : decode cX7_copyFrom 56 = .ok (.aload_n 1, 1) := by decide +kernel
theorem dX7_copyFrom_57 : decode cX7_copyFrom 57 = .ok (.getfield 48, 3) := by decide +kernel
theorem dX7_copyFrom_60 : decode cX7_copyFrom 60 = .ok (.putfield 48, 3) := by decide +kernel
theorem dX7_copyFrom_63 : decode cX7_copyFrom 63 = .ok (.return_, 1) := by decide +kernel
theorem dX7_setting_0 : decode cX7_setting 0 = .ok (.aload_n 0, 1) := by decide +kernel
theorem dX7_setting_1 : decode cX7_setting 1 = .ok (.getfield 33, 3) := by decide +kernel
theorem dX7_setting_4 : decode cX7_setting 4 = .ok (.iload_n 1, 1) := by decide +kernel
theorem dX7_setting_5 : decode cX7_setting 5 = .ok (.iconst 0, 1) := by decide +kernel
theorem dX7_setting_6 : decode cX7_setting 6 = .ok (.invokevirtual 52, 3) := by decide +kernel
theorem dX7_setting_9 : decode cX7_setting 9 = .ok (.ireturn, 1) := by decide +kernel
theorem dX7_isBooked_0 : decode cX7_isBooked 0 = .ok (.aload_n 0, 1) := by decide +kernel
theorem dX7_isBooked_1 : decode cX7_isBooked 1 = .ok (.getfield 20, 3) := by decide +kernel
theorem dX7_isBooked_4 : decode cX7_isBooked 4 = .ok (.iload_n 1, 1) := by decide +kernel
theorem dX7_isBooked_5 : decode cX7_isBooked 5 = .ok (.invokevirtual 56, 3) := by decide +kernel
theorem dX7_isBooked_8 : decode cX7_isBooked 8 = .ok (.ifCond .eq 19, 3) := by decide +kernel
theorem dX7_isBooked_11 : decode cX7_isBooked 11 = .ok (.aload_n 0, 1) := by decide +kernel
theorem dX7_isBooked_12 : decode cX7_isBooked 12 = .ok (.getfield 20, 3) := by decide +kernel
theorem dX7_isBooked_15 : decode cX7_isBooked 15 = .ok (.iload_n 1, 1) := by decide +kernel
theorem dX7_isBooked_16 : decode cX7_isBooked 16 = .ok (.iconst 3, 1) := by decide +kernel
theorem dX7_isBooked_17 : decode cX7_isBooked 17 = .ok (.invokevirtual 52, 3) := by decide +kernel
theorem dX7_isBooked_20 : decode cX7_isBooked 20 = .ok (.ifCond .ne 7, 3) := by decide +kernel
theorem dX7_isBooked_23 : decode cX7_isBooked 23 = .ok (.iconst 1, 1) := by decide +kernel
theorem dX7_isBooked_24 : decode cX7_isBooked 24 = .ok (.goto 4, 3) := by decide +kernel
theorem dX7_isBooked_27 : decode cX7_isBooked 27 = .ok (.iconst 0, 1) := by decide +kernel
theorem dX7_isBooked_28 : decode cX7_isBooked 28 = .ok (.ireturn, 1) := by decide +kernel
theorem dX7_bookingsInState_0 : decode cX7_bookingsInState 0 = .ok (.iconst 0, 1) := by decide +kernel
theorem dX7_bookingsInState_1 : decode cX7_bookingsInState 1 = .ok (.istore_n 2, 1) := by decide +kernel
theorem dX7_bookingsInState_2 : decode cX7_bookingsInState 2 = .ok (.iconst 0, 1) := by decide +kernel
theorem dX7_bookingsInState_3 : decode cX7_bookingsInState 3 = .ok (.istore_n 3, 1) := by decide +kernel
theorem dX7_bookingsInState_4 : decode cX7_bookingsInState 4 = .ok (.iload_n 3, 1) := by decide +kernel
theorem dX7_bookingsInState_5 : decode cX7_bookingsInState 5 = .ok (.aload_n 0, 1) := by decide +kernel
theorem dX7_bookingsInState_6 : decode cX7_bookingsInState 6 = .ok (.getfield 20, 3) := by decide +kernel
theorem dX7_bookingsInState_9 : decode cX7_bookingsInState 9 = .ok (.invokevirtual 60, 3) := by decide +kernel
theorem dX7_bookingsInState_12 : decode cX7_bookingsInState 12 = .ok (.if_icmp .ge 25, 3) := by decide +kernel
theorem dX7_bookingsInState_15 : decode cX7_bookingsInState 15 = .ok (.aload_n 0, 1) := by decide +kernel
theorem dX7_bookingsInState_16 : decode cX7_bookingsInState 16 = .ok (.getfield 20, 3) := by decide +kernel
theorem dX7_bookingsInState_19 : decode cX7_bookingsInState 19 = .ok (.iload_n 3, 1) := by decide +kernel
theorem dX7_bookingsInState_20 : decode cX7_bookingsInState 20 = .ok (.iconst 3, 1) := by decide +kernel
theorem dX7_bookingsInState_21 : decode cX7_bookingsInState 21 = .ok (.invokevirtual 52, 3) := by decide +kernel
theorem dX7_bookingsInState_24 : decode cX7_bookingsInState 24 = .ok (.iload_n 1, 1) := by decide +kernel
theorem dX7_bookingsInState_25 : decode cX7_bookingsInState 25 = .ok (.if_icmp .ne 6, 3) := by decide +kernel
theorem dX7_bookingsInState_28 : decode cX7_bookingsInState 28 = .ok (.iinc 2 1, 3) := by decide +kernel
theorem dX7_bookingsInState_31 : decode cX7_bookingsInState 31 = .ok (.iinc 3 1, 3) := by decide +kernel
theorem dX7_bookingsInState_34 : decode cX7_bookingsInState 34 = .ok (.goto (-30), 3) := by decide +kernel
theorem dX7_bookingsInState_37 : decode cX7_bookingsInState 37 = .ok (.iload_n 2, 1) := by decide +kernel
theorem dX7_bookingsInState_38 : decode cX7_bookingsInState 38 = .ok (.ireturn, 1) := by decide +kernel
theorem dX7_period_0 : decode cX7_period 0 = .ok (.aload_n 0, 1) := by decide +kernel
theorem dX7_period_1 : decode cX7_period 1 = .ok (.getfield 14, 3) := by decide +kernel
theorem dX7_period_4 : decode cX7_period 4 = .ok (.iload_n 1, 1) := by decide +kernel
theorem dX7_period_5 : decode cX7_period 5 = .ok (.iconst 0, 1) := by decide +kernel
theorem dX7_period_6 : decode cX7_period 6 = .ok (.invokevirtual 52, 3) := by decide +kernel
theorem dX7_period_9 : decode cX7_period 9 = .ok (.aload_n 0, 1) := by decide +kernel
theorem dX7_period_10 : decode cX7_period 10 = .ok (.getfield 14, 3) := by decide +kernel
theorem dX7_period_13 : decode cX7_period 13 = .ok (.iload_n 1, 1) := by decide +kernel
theorem dX7_period_14 : decode cX7_period 14 = .ok (.iconst 1, 1) := by decide +kernel
theorem dX7_period_15 : decode cX7_period 15 = .ok (.invokevirtual 52, 3) := by decide +kernel
theorem dX7_period_18 : decode cX7_period 18 = .ok (.iadd, 1) := by decide +kernel
theorem dX7_period_19 : decode cX7_period 19 = .ok (.ireturn, 1) := by decide +kernel
theorem dX7_timeBehindPlays_0 : decode cX7_timeBehindPlays 0 = .ok (.iconst 0, 1) := by decide +kernel
theorem dX7_timeBehindPlays_1 : decode cX7_timeBehindPlays 1 = .ok (.istore_n 2, 1) := by decide +kernel
theorem dX7_timeBehindPlays_2 : decode cX7_timeBehindPlays 2 = .ok (.iconst 0, 1) := by decide +kernel
theorem dX7_timeBehindPlays_3 : decode cX7_timeBehindPlays 3 = .ok (.istore_n 3, 1) := by decide +kernel
theorem dX7_timeBehindPlays_4 : decode cX7_timeBehindPlays 4 = .ok (.iload_n 3, 1) := by decide +kernel
theorem dX7_timeBehindPlays_5 : decode cX7_timeBehindPlays 5 = .ok (.aload_n 0, 1) := by decide +kernel
theorem dX7_timeBehindPlays_6 : decode cX7_timeBehindPlays 6 = .ok (.getfield 20, 3) := by decide +kernel
theorem dX7_timeBehindPlays_9 : decode cX7_timeBehindPlays 9 = .ok (.invokevirtual 60, 3) := by decide +kernel
theorem dX7_timeBehindPlays_12 : decode cX7_timeBehindPlays 12 = .ok (.if_icmp .ge 51, 3) := by decide +kernel
theorem dX7_timeBehindPlays_15 : decode cX7_timeBehindPlays 15 = .ok (.aload_n 0, 1) := by decide +kernel
theorem dX7_timeBehindPlays_16 : decode cX7_timeBehindPlays 16 = .ok (.getfield 20, 3) := by decide +kernel
theorem dX7_timeBehindPlays_19 : decode cX7_timeBehindPlays 19 = .ok (.iload_n 3, 1) := by decide +kernel
theorem dX7_timeBehindPlays_20 : decode cX7_timeBehindPlays 20 = .ok (.iconst 0, 1) := by decide +kernel
theorem dX7_timeBehindPlays_21 : decode cX7_timeBehindPlays 21 = .ok (.invokevirtual 52, 3) := by decide +kernel
theorem dX7_timeBehindPlays_24 : decode cX7_timeBehindPlays 24 = .ok (.iload_n 1, 1) := by decide +kernel
theorem dX7_timeBehindPlays_25 : decode cX7_timeBehindPlays 25 = .ok (.if_icmp .ne 32, 3) := by decide +kernel
theorem dX7_timeBehindPlays_28 : decode cX7_timeBehindPlays 28 = .ok (.aload_n 0, 1) := by decide +kernel
theorem dX7_timeBehindPlays_29 : decode cX7_timeBehindPlays 29 = .ok (.getfield 20, 3) := by decide +kernel
theorem dX7_timeBehindPlays_32 : decode cX7_timeBehindPlays 32 = .ok (.iload_n 3, 1) := by decide +kernel
theorem dX7_timeBehindPlays_33 : decode cX7_timeBehindPlays 33 = .ok (.iconst 3, 1) := by decide +kernel
theorem dX7_timeBehindPlays_34 : decode cX7_timeBehindPlays 34 = .ok (.invokevirtual 52, 3) := by decide +kernel
theorem dX7_timeBehindPlays_37 : decode cX7_timeBehindPlays 37 = .ok (.iconst 1, 1) := by decide +kernel
theorem dX7_timeBehindPlays_38 : decode cX7_timeBehindPlays 38 = .ok (.if_icmp .ne 19, 3) := by decide +kernel
theorem dX7_timeBehindPlays_41 : decode cX7_timeBehindPlays 41 = .ok (.iload_n 2, 1) := by decide +kernel
theorem dX7_timeBehindPlays_42 : decode cX7_timeBehindPlays 42 = .ok (.aload_n 0, 1) := by decide +kernel
theorem dX7_timeBehindPlays_43 : decode cX7_timeBehindPlays 43 = .ok (.getfield 20, 3) := by decide +kernel
theorem dX7_timeBehindPlays_46 : decode cX7_timeBehindPlays 46 = .ok (.iload_n 3, 1) := by decide +kernel
theorem dX7_timeBehindPlays_47 : decode cX7_timeBehindPlays 47 = .ok (.iconst 1, 1) := by decide +kernel
theorem dX7_timeBehindPlays_48 : decode cX7_timeBehindPlays 48 = .ok (.invokevirtual 52, 3) := by decide +kernel
theorem dX7_timeBehindPlays_51 : decode cX7_timeBehindPlays 51 = .ok (.iconst 1, 1) := by decide +kernel
theorem dX7_timeBehindPlays_52 : decode cX7_timeBehindPlays 52 = .ok (.iadd, 1) := by decide +kernel
theorem dX7_timeBehindPlays_53 : decode cX7_timeBehindPlays 53 = .ok (.invokestatic 63, 3) := by decide +kernel
theorem dX7_timeBehindPlays_56 : decode cX7_timeBehindPlays 56 = .ok (.istore_n 2, 1) := by decide +kernel
theorem dX7_timeBehindPlays_57 : decode cX7_timeBehindPlays 57 = .ok (.iinc 3 1, 3) := by decide +kernel
theorem dX7_timeBehindPlays_60 : decode cX7_timeBehindPlays 60 = .ok (.goto (-56), 3) := by decide +kernel
theorem dX7_timeBehindPlays_63 : decode cX7_timeBehindPlays 63 = .ok (.iload_n 2, 1) := by decide +kernel
theorem dX7_timeBehindPlays_64 : decode cX7_timeBehindPlays 64 = .ok (.ireturn, 1) := by decide +kernel
theorem dX7_collision_0 : decode cX7_collision 0 = .ok (.aload_n 0, 1) := by decide +kernel
theorem dX7_collision_1 : decode cX7_collision 1 = .ok (.iload_n 1, 1) := by decide +kernel
theorem dX7_collision_2 : decode cX7_collision 2 = .ok (.invokevirtual 68, 3) := by decide +kernel
theorem dX7_collision_5 : decode cX7_collision 5 = .ok (.istore 4, 2) := by decide +kernel
theorem dX7_collision_7 : decode cX7_collision 7 = .ok (.iconst 0, 1) := by decide +kernel
theorem dX7_collision_8 : decode cX7_collision 8 = .ok (.istore 5, 2) := by decide +kernel
theorem dX7_collision_10 : decode cX7_collision 10 = .ok (.iload 5, 2) := by decide +kernel
theorem dX7_collision_12 : decode cX7_collision 12 = .ok (.aload_n 0, 1) := by decide +kernel
theorem dX7_collision_13 : decode cX7_collision 13 = .ok (.getfield 20, 3) := by decide +kernel
theorem dX7_collision_16 : decode cX7_collision 16 = .ok (.invokevirtual 60, 3) := by decide +kernel
theorem dX7_collision_19 : decode cX7_collision 19 = .ok (.if_icmp .ge 87, 3) := by decide +kernel
theorem dX7_collision_22 : decode cX7_collision 22 = .ok (.aload_n 0, 1) := by decide +kernel
theorem dX7_collision_23 : decode cX7_collision 23 = .ok (.getfield 20, 3) := by decide +kernel
theorem dX7_collision_26 : decode cX7_collision 26 = .ok (.iload 5, 2) := by decide +kernel
theorem dX7_collision_28 : decode cX7_collision 28 = .ok (.iconst 3, 1) := by decide +kernel
theorem dX7_collision_29 : decode cX7_collision 29 = .ok (.invokevirtual 52, 3) := by decide +kernel
theorem dX7_collision_32 : decode cX7_collision 32 = .ok (.istore 6, 2) := by decide +kernel
theorem dX7_collision_34 : decode cX7_collision 34 = .ok (.iload 5, 2) := by decide +kernel
theorem dX7_collision_36 : decode cX7_collision 36 = .ok (.iload_n 3, 1) := by decide +kernel
theorem dX7_collision_37 : decode cX7_collision 37 = .ok (.if_icmp .eq 32, 3) := by decide +kernel
theorem dX7_collision_40 : decode cX7_collision 40 = .ok (.aload_n 0, 1) := by decide +kernel
theorem dX7_collision_41 : decode cX7_collision 41 = .ok (.getfield 20, 3) := by decide +kernel
theorem dX7_collision_44 : decode cX7_collision 44 = .ok (.iload 5, 2) := by decide +kernel
theorem dX7_collision_46 : decode cX7_collision 46 = .ok (.iconst 0, 1) := by decide +kernel
theorem dX7_collision_47 : decode cX7_collision 47 = .ok (.invokevirtual 52, 3) := by decide +kernel
theorem dX7_collision_50 : decode cX7_collision 50 = .ok (.iload_n 1, 1) := by decide +kernel
theorem dX7_collision_51 : decode cX7_collision 51 = .ok (.if_icmp .ne 18, 3) := by decide +kernel
theorem dX7_collision_54 : decode cX7_collision 54 = .ok (.iload 6, 2) := by decide +kernel
theorem dX7_collision_56 : decode cX7_collision 56 = .ok (.ifCond .eq 9, 3) := by decide +kernel
theorem dX7_collision_59 : decode cX7_collision 59 = .ok (.iload 6, 2) := by decide +kernel
theorem dX7_collision_61 : decode cX7_collision 61 = .ok (.iconst 1, 1) := by decide +kernel
theorem dX7_collision_62 : decode cX7_collision 62 = .ok (.if_icmp .ne 7, 3) := by decide +kernel
theorem dX7_collision_65 : decode cX7_collision 65 = .ok (.iconst 1, 1) := by decide +kernel
theorem dX7_collision_66 : decode cX7_collision 66 = .ok (.goto 4, 3) := by decide +kernel
theorem dX7_collision_69 : decode cX7_collision 69 = .ok (.iconst 0, 1) := by decide +kernel
theorem dX7_collision_70 : decode cX7_collision 70 = .ok (.istore 7, 2) := by decide +kernel
theorem dX7_collision_72 : decode cX7_collision 72 = .ok (.iload 7, 2) := by decide +kernel
theorem dX7_collision_74 : decode cX7_collision 74 = .ok (.ifCond .eq 26, 3) := by decide +kernel
theorem dX7_collision_77 : decode cX7_collision 77 = .ok (.aload_n 0, 1) := by decide +kernel
theorem dX7_collision_78 : decode cX7_collision 78 = .ok (.getfield 20, 3) := by decide +kernel
theorem dX7_collision_81 : decode cX7_collision 81 = .ok (.iload 5, 2) := by decide +kernel
theorem dX7_collision_83 : decode cX7_collision 83 = .ok (.iconst 1, 1) := by decide +kernel
theorem dX7_collision_84 : decode cX7_collision 84 = .ok (.invokevirtual 52, 3) := by decide +kernel
theorem dX7_collision_87 : decode cX7_collision 87 = .ok (.iload_n 2, 1) := by decide +kernel
theorem dX7_collision_88 : decode cX7_collision 88 = .ok (.isub, 1) := by decide +kernel
theorem dX7_collision_89 : decode cX7_collision 89 = .ok (.invokestatic 72, 3) := by decide +kernel
theorem dX7_collision_92 : decode cX7_collision 92 = .ok (.iload 4, 2) := by decide +kernel
theorem dX7_collision_94 : decode cX7_collision 94 = .ok (.if_icmp .ge 6, 3) := by decide +kernel
theorem dX7_collision_97 : decode cX7_collision 97 = .ok (.iload 5, 2) := by decide +kernel
theorem dX7_collision_99 : decode cX7_collision 99 = .ok (.ireturn, 1) := by decide +kernel
theorem dX7_collision_100 : decode cX7_collision 100 = .ok (.iinc 5 1, 3) := by decide +kernel
theorem dX7_collision_103 : decode cX7_collision 103 = .ok (.goto (-93), 3) := by decide +kernel
theorem dX7_collision_106 : decode cX7_collision 106 = .ok (.bipush (-9), 2) := by decide +kernel
theorem dX7_collision_108 : decode cX7_collision 108 = .ok (.ireturn, 1) := by decide +kernel
theorem dX7_isPossible_0 : decode cX7_isPossible 0 = .ok (.iload_n 2, 1) := by decide +kernel
theorem dX7_isPossible_1 : decode cX7_isPossible 1 = .ok (.aload_n 0, 1) := by decide +kernel
theorem dX7_isPossible_2 : decode cX7_isPossible 2 = .ok (.iload_n 1, 1) := by decide +kernel
theorem dX7_isPossible_3 : decode cX7_isPossible 3 = .ok (.invokevirtual 75, 3) := by decide +kernel
theorem dX7_isPossible_6 : decode cX7_isPossible 6 = .ok (.if_icmp .lt 19, 3) := by decide +kernel
theorem dX7_isPossible_9 : decode cX7_isPossible 9 = .ok (.aload_n 0, 1) := by decide +kernel
theorem dX7_isPossible_10 : decode cX7_isPossible 10 = .ok (.iload_n 1, 1) := by decide +kernel
theorem dX7_isPossible_11 : decode cX7_isPossible 11 = .ok (.iload_n 2, 1) := by decide +kernel
theorem dX7_isPossible_12 : decode cX7_isPossible 12 = .ok (.iload_n 3, 1) := by decide +kernel
theorem dX7_isPossible_13 : decode cX7_isPossible 13 = .ok (.invokevirtual 78, 3) := by decide +kernel
theorem dX7_isPossible_16 : decode cX7_isPossible 16 = .ok (.bipush (-9), 2) := by decide +kernel
theorem dX7_isPossible_18 : decode cX7_isPossible 18 = .ok (.if_icmp .ne 7, 3) := by decide +kernel
theorem dX7_isPossible_21 : decode cX7_isPossible 21 = .ok (.iconst 1, 1) := by decide +kernel
theorem dX7_isPossible_22 : decode cX7_isPossible 22 = .ok (.goto 4, 3) := by decide +kernel
theorem dX7_isPossible_25 : decode cX7_isPossible 25 = .ok (.iconst 0, 1) := by decide +kernel
theorem dX7_isPossible_26 : decode cX7_isPossible 26 = .ok (.ireturn, 1) := by decide +kernel
theorem dX7_nextBooked_0 : decode cX7_nextBooked 0 = .ok (.bipush (-9), 2) := by decide +kernel
theorem dX7_nextBooked_2 : decode cX7_nextBooked 2 = .ok (.istore_n 3, 1) := by decide +kernel
theorem dX7_nextBooked_3 : decode cX7_nextBooked 3 = .ok (.iconst 0, 1) := by decide +kernel
theorem dX7_nextBooked_4 : decode cX7_nextBooked 4 = .ok (.istore 4, 2) := by decide +kernel
theorem dX7_nextBooked_6 : decode cX7_nextBooked 6 = .ok (.iconst 0, 1) := by decide +kernel
theorem dX7_nextBooked_7 : decode cX7_nextBooked 7 = .ok (.istore 5, 2) := by decide +kernel
theorem dX7_nextBooked_9 : decode cX7_nextBooked 9 = .ok (.iload 5, 2) := by decide +kernel
theorem dX7_nextBooked_11 : decode cX7_nextBooked 11 = .ok (.aload_n 0, 1) := by decide +kernel
theorem dX7_nextBooked_12 : decode cX7_nextBooked 12 = .ok (.getfield 20, 3) := by decide +kernel
theorem dX7_nextBooked_15 : decode cX7_nextBooked 15 = .ok (.invokevirtual 60, 3) := by decide +kernel
theorem dX7_nextBooked_18 : decode cX7_nextBooked 18 = .ok (.if_icmp .ge 86, 3) := by decide +kernel
theorem dX7_nextBooked_21 : decode cX7_nextBooked 21 = .ok (.aload_n 0, 1) := by decide +kernel
theorem dX7_nextBooked_22 : decode cX7_nextBooked 22 = .ok (.getfield 20, 3) := by decide +kernel
theorem dX7_nextBooked_25 : decode cX7_nextBooked 25 = .ok (.iload 5, 2) := by decide +kernel
theorem dX7_nextBooked_27 : decode cX7_nextBooked 27 = .ok (.iconst 1, 1) := by decide +kernel
theorem dX7_nextBooked_28 : decode cX7_nextBooked 28 = .ok (.invokevirtual 52, 3) := by decide +kernel
theorem dX7_nextBooked_31 : decode cX7_nextBooked 31 = .ok (.istore 6, 2) := by decide +kernel
theorem dX7_nextBooked_33 : decode cX7_nextBooked 33 = .ok (.aload_n 0, 1) := by decide +kernel
theorem dX7_nextBooked_34 : decode cX7_nextBooked 34 = .ok (.getfield 20, 3) := by decide +kernel
theorem dX7_nextBooked_37 : decode cX7_nextBooked 37 = .ok (.iload 5, 2) := by decide +kernel
theorem dX7_nextBooked_39 : decode cX7_nextBooked 39 = .ok (.iconst 3, 1) := by decide +kernel
theorem dX7_nextBooked_40 : decode cX7_nextBooked 40 = .ok (.invokevirtual 52, 3) := by decide +kernel
theorem dX7_nextBooked_43 : decode cX7_nextBooked 43 = .ok (.ifCond .ne 27, 3) := by decide +kernel
theorem dX7_nextBooked_46 : decode cX7_nextBooked 46 = .ok (.aload_n 0, 1) := by decide +kernel
theorem dX7_nextBooked_47 : decode cX7_nextBooked 47 = .ok (.getfield 20, 3) := by decide +kernel
theorem dX7_nextBooked_50 : decode cX7_nextBooked 50 = .ok (.iload 5, 2) := by decide +kernel
theorem dX7_nextBooked_52 : decode cX7_nextBooked 52 = .ok (.iconst 0, 1) := by decide +kernel
theorem dX7_nextBooked_53 : decode cX7_nextBooked 53 = .ok (.invokevirtual 52, 3) := by decide +kernel
theorem dX7_nextBooked_56 : decode cX7_nextBooked 56 = .ok (.iload_n 1, 1) := by decide +kernel
theorem dX7_nextBooked_57 : decode cX7_nextBooked 57 = .ok (.if_icmp .ne 13, 3) := by decide +kernel
theorem dX7_nextBooked_60 : decode cX7_nextBooked 60 = .ok (.iload 6, 2) := by decide +kernel
theorem dX7_nextBooked_62 : decode cX7_nextBooked 62 = .ok (.iload_n 2, 1) := by decide +kernel
theorem dX7_nextBooked_63 : decode cX7_nextBooked 63 = .ok (.if_icmp .le 7, 3) := by decide +kernel
theorem dX7_nextBooked_66 : decode cX7_nextBooked 66 = .ok (.iconst 1, 1) := by decide +kernel
theorem dX7_nextBooked_67 : decode cX7_nextBooked 67 = .ok (.goto 4, 3) := by decide +kernel
theorem dX7_nextBooked_70 : decode cX7_nextBooked 70 = .ok (.iconst 0, 1) := by decide +kernel
theorem dX7_nextBooked_71 : decode cX7_nextBooked 71 = .ok (.istore 7, 2) := by decide +kernel
theorem dX7_nextBooked_73 : decode cX7_nextBooked 73 = .ok (.iload 7, 2) := by decide +kernel
theorem dX7_nextBooked_75 : decode cX7_nextBooked 75 = .ok (.ifCond .eq 23, 3) := by decide +kernel
theorem dX7_nextBooked_78 : decode cX7_nextBooked 78 = .ok (.iload_n 3, 1) := by decide +kernel
theorem dX7_nextBooked_79 : decode cX7_nextBooked 79 = .ok (.bipush (-9), 2) := by decide +kernel
theorem dX7_nextBooked_81 : decode cX7_nextBooked 81 = .ok (.if_icmp .eq 10, 3) := by decide +kernel
theorem dX7_nextBooked_84 : decode cX7_nextBooked 84 = .ok (.iload 6, 2) := by decide +kernel
theorem dX7_nextBooked_86 : decode cX7_nextBooked 86 = .ok (.iload 4, 2) := by decide +kernel
theorem dX7_nextBooked_88 : decode cX7_nextBooked 88 = .ok (.if_icmp .ge 10, 3) := by decide +kernel
theorem dX7_nextBooked_91 : decode cX7_nextBooked 91 = .ok (.iload 5, 2) := by decide +kernel
theorem dX7_nextBooked_93 : decode cX7_nextBooked 93 = .ok (.istore_n 3, 1) := by decide +kernel
theorem dX7_nextBooked_94 : decode cX7_nextBooked 94 = .ok (.iload 6, 2) := by decide +kernel
theorem dX7_nextBooked_96 : decode cX7_nextBooked 96 = .ok (.istore 4, 2) := by decide +kernel
theorem dX7_nextBooked_98 : decode cX7_nextBooked 98 = .ok (.iinc 5 1, 3) := by decide +kernel
theorem dX7_nextBooked_101 : decode cX7_nextBooked 101 = .ok (.goto (-92), 3) := by decide +kernel
theorem dX7_nextBooked_104 : decode cX7_nextBooked 104 = .ok (.iload_n 3, 1) := by decide +kernel
theorem dX7_nextBooked_105 : decode cX7_nextBooked 105 = .ok (.ireturn, 1) := by decide +kernel
theorem dX7_forecastStart_0 : decode cX7_forecastStart 0 = .ok (.aload_n 0, 1) := by decide +kernel
theorem dX7_forecastStart_1 : decode cX7_forecastStart 1 = .ok (.getfield 20, 3) := by decide +kernel
theorem dX7_forecastStart_4 : decode cX7_forecastStart 4 = .ok (.iload_n 1, 1) := by decide +kernel
theorem dX7_forecastStart_5 : decode cX7_forecastStart 5 = .ok (.iconst 0, 1) := by decide +kernel
theorem dX7_forecastStart_6 : decode cX7_forecastStart 6 = .ok (.invokevirtual 52, 3) := by decide +kernel
theorem dX7_forecastStart_9 : decode cX7_forecastStart 9 = .ok (.istore_n 2, 1) := by decide +kernel
theorem dX7_forecastStart_10 : decode cX7_forecastStart 10 = .ok (.aload_n 0, 1) := by decide +kernel
theorem dX7_forecastStart_11 : decode cX7_forecastStart 11 = .ok (.getfield 14, 3) := by decide +kernel
theorem dX7_forecastStart_14 : decode cX7_forecastStart 14 = .ok (.iload_n 2, 1) := by decide +kernel
theorem dX7_forecastStart_15 : decode cX7_forecastStart 15 = .ok (.iconst 4, 1) := by decide +kernel
theorem dX7_forecastStart_16 : decode cX7_forecastStart 16 = .ok (.invokevirtual 52, 3) := by decide +kernel
theorem dX7_forecastStart_19 : decode cX7_forecastStart 19 = .ok (.istore_n 3, 1) := by decide +kernel
theorem dX7_forecastStart_20 : decode cX7_forecastStart 20 = .ok (.aload_n 0, 1) := by decide +kernel
theorem dX7_forecastStart_21 : decode cX7_forecastStart 21 = .ok (.iload_n 2, 1) := by decide +kernel
theorem dX7_forecastStart_22 : decode cX7_forecastStart 22 = .ok (.iconst (-1), 1) := by decide +kernel
theorem dX7_forecastStart_23 : decode cX7_forecastStart 23 = .ok (.invokevirtual 82, 3) := by decide +kernel
theorem dX7_forecastStart_26 : decode cX7_forecastStart 26 = .ok (.istore 4, 2) := by decide +kernel
theorem dX7_forecastStart_28 : decode cX7_forecastStart 28 = .ok (.iconst 0, 1) := by decide +kernel
theorem dX7_forecastStart_29 : decode cX7_forecastStart 29 = .ok (.istore 5, 2) := by decide +kernel
theorem dX7_forecastStart_31 : decode cX7_forecastStart 31 = .ok (.iload 5, 2) := by decide +kernel
theorem dX7_forecastStart_33 : decode cX7_forecastStart 33 = .ok (.bipush 16, 2) := by decide +kernel
theorem dX7_forecastStart_35 : decode cX7_forecastStart 35 = .ok (.if_icmp .ge 56, 3) := by decide +kernel
theorem dX7_forecastStart_38 : decode cX7_forecastStart 38 = .ok (.iload 4, 2) := by decide +kernel
theorem dX7_forecastStart_40 : decode cX7_forecastStart 40 = .ok (.bipush (-9), 2) := by decide +kernel
theorem dX7_forecastStart_42 : decode cX7_forecastStart 42 = .ok (.if_icmp .eq 49, 3) := by decide +kernel
theorem dX7_forecastStart_45 : decode cX7_forecastStart 45 = .ok (.iload 4, 2) := by decide +kernel
theorem dX7_forecastStart_47 : decode cX7_forecastStart 47 = .ok (.iload_n 1, 1) := by decide +kernel
theorem dX7_forecastStart_48 : decode cX7_forecastStart 48 = .ok (.if_icmp .eq 43, 3) := by decide +kernel
theorem dX7_forecastStart_51 : decode cX7_forecastStart 51 = .ok (.aload_n 0, 1) := by decide +kernel
theorem dX7_forecastStart_52 : decode cX7_forecastStart 52 = .ok (.getfield 20, 3) := by decide +kernel
theorem dX7_forecastStart_55 : decode cX7_forecastStart 55 = .ok (.iload 4, 2) := by decide +kernel
theorem dX7_forecastStart_57 : decode cX7_forecastStart 57 = .ok (.iconst 1, 1) := by decide +kernel
theorem dX7_forecastStart_58 : decode cX7_forecastStart 58 = .ok (.invokevirtual 52, 3) := by decide +kernel
theorem dX7_forecastStart_61 : decode cX7_forecastStart 61 = .ok (.istore 6, 2) := by decide +kernel
theorem dX7_forecastStart_63 : decode cX7_forecastStart 63 = .ok (.iload 6, 2) := by decide +kernel
theorem dX7_forecastStart_65 : decode cX7_forecastStart 65 = .ok (.iload_n 3, 1) := by decide +kernel
theorem dX7_forecastStart_66 : decode cX7_forecastStart 66 = .ok (.invokestatic 63, 3) := by decide +kernel
theorem dX7_forecastStart_69 : decode cX7_forecastStart 69 = .ok (.aload_n 0, 1) := by decide +kernel
theorem dX7_forecastStart_70 : decode cX7_forecastStart 70 = .ok (.iload_n 2, 1) := by decide +kernel
theorem dX7_forecastStart_71 : decode cX7_forecastStart 71 = .ok (.invokevirtual 68, 3) := by decide +kernel
theorem dX7_forecastStart_74 : decode cX7_forecastStart 74 = .ok (.iadd, 1) := by decide +kernel
theorem dX7_forecastStart_75 : decode cX7_forecastStart 75 = .ok (.istore_n 3, 1) := by decide +kernel
theorem dX7_forecastStart_76 : decode cX7_forecastStart 76 = .ok (.aload_n 0, 1) := by decide +kernel
theorem dX7_forecastStart_77 : decode cX7_forecastStart 77 = .ok (.iload_n 2, 1) := by decide +kernel
theorem dX7_forecastStart_78 : decode cX7_forecastStart 78 = .ok (.iload 6, 2) := by decide +kernel
theorem dX7_forecastStart_80 : decode cX7_forecastStart 80 = .ok (.invokevirtual 82, 3) := by decide +kernel
theorem dX7_forecastStart_83 : decode cX7_forecastStart 83 = .ok (.istore 4, 2) := by decide +kernel
theorem dX7_forecastStart_85 : decode cX7_forecastStart 85 = .ok (.iinc 5 1, 3) := by decide +kernel
theorem dX7_forecastStart_88 : decode cX7_forecastStart 88 = .ok (.goto (-57), 3) := by decide +kernel
theorem dX7_forecastStart_91 : decode cX7_forecastStart 91 = .ok (.aload_n 0, 1) := by decide +kernel
theorem dX7_forecastStart_92 : decode cX7_forecastStart 92 = .ok (.getfield 20, 3) := by decide +kernel
theorem dX7_forecastStart_95 : decode cX7_forecastStart 95 = .ok (.iload_n 1, 1) := by decide +kernel
theorem dX7_forecastStart_96 : decode cX7_forecastStart 96 = .ok (.iconst 1, 1) := by decide +kernel
theorem dX7_forecastStart_97 : decode cX7_forecastStart 97 = .ok (.invokevirtual 52, 3) := by decide +kernel
theorem dX7_forecastStart_100 : decode cX7_forecastStart 100 = .ok (.iload_n 3, 1) := by decide +kernel
theorem dX7_forecastStart_101 : decode cX7_forecastStart 101 = .ok (.invokestatic 63, 3) := by decide +kernel
theorem dX7_forecastStart_104 : decode cX7_forecastStart 104 = .ok (.ireturn, 1) := by decide +kernel
theorem dX7_refundForDelay_0 : decode cX7_refundForDelay 0 = .ok (.iload_n 2, 1) := by decide +kernel
theorem dX7_refundForDelay_1 : decode cX7_refundForDelay 1 = .ok (.aload_n 0, 1) := by decide +kernel
theorem dX7_refundForDelay_2 : decode cX7_refundForDelay 2 = .ok (.iconst 3, 1) := by decide +kernel
theorem dX7_refundForDelay_3 : decode cX7_refundForDelay 3 = .ok (.invokevirtual 85, 3) := by decide +kernel
theorem dX7_refundForDelay_6 : decode cX7_refundForDelay 6 = .ok (.isub, 1) := by decide +kernel
theorem dX7_refundForDelay_7 : decode cX7_refundForDelay 7 = .ok (.istore_n 3, 1) := by decide +kernel
theorem dX7_refundForDelay_8 : decode cX7_refundForDelay 8 = .ok (.iload_n 3, 1) := by decide +kernel
theorem dX7_refundForDelay_9 : decode cX7_refundForDelay 9 = .ok (.ifCond .gt 5, 3) := by decide +kernel
theorem dX7_refundForDelay_12 : decode cX7_refundForDelay 12 = .ok (.iconst 0, 1) := by decide +kernel
theorem dX7_refundForDelay_13 : decode cX7_refundForDelay 13 = .ok (.ireturn, 1) := by decide +kernel
theorem dX7_refundForDelay_14 : decode cX7_refundForDelay 14 = .ok (.bipush 100, 2) := by decide +kernel
theorem dX7_refundForDelay_16 : decode cX7_refundForDelay 16 = .ok (.iload_n 3, 1) := by decide +kernel
theorem dX7_refundForDelay_17 : decode cX7_refundForDelay 17 = .ok (.bipush 9, 2) := by decide +kernel
theorem dX7_refundForDelay_19 : decode cX7_refundForDelay 19 = .ok (.iadd, 1) := by decide +kernel
theorem dX7_refundForDelay_20 : decode cX7_refundForDelay 20 = .ok (.bipush 10, 2) := by decide +kernel
theorem dX7_refundForDelay_22 : decode cX7_refundForDelay 22 = .ok (.idiv, 1) := by decide +kernel
theorem dX7_refundForDelay_23 : decode cX7_refundForDelay 23 = .ok (.aload_n 0, 1) := by decide +kernel
theorem dX7_refundForDelay_24 : decode cX7_refundForDelay 24 = .ok (.iconst 4, 1) := by decide +kernel
theorem dX7_refundForDelay_25 : decode cX7_refundForDelay 25 = .ok (.invokevirtual 85, 3) := by decide +kernel
theorem dX7_refundForDelay_28 : decode cX7_refundForDelay 28 = .ok (.imul, 1) := by decide +kernel
theorem dX7_refundForDelay_29 : decode cX7_refundForDelay 29 = .ok (.invokestatic 88, 3) := by decide +kernel
theorem dX7_refundForDelay_32 : decode cX7_refundForDelay 32 = .ok (.istore 4, 2) := by decide +kernel
theorem dX7_refundForDelay_34 : decode cX7_refundForDelay 34 = .ok (.aload_n 0, 1) := by decide +kernel
theorem dX7_refundForDelay_35 : decode cX7_refundForDelay 35 = .ok (.getfield 20, 3) := by decide +kernel
theorem dX7_refundForDelay_38 : decode cX7_refundForDelay 38 = .ok (.iload_n 1, 1) := by decide +kernel
theorem dX7_refundForDelay_39 : decode cX7_refundForDelay 39 = .ok (.iconst 4, 1) := by decide +kernel
theorem dX7_refundForDelay_40 : decode cX7_refundForDelay 40 = .ok (.invokevirtual 52, 3) := by decide +kernel
theorem dX7_refundForDelay_43 : decode cX7_refundForDelay 43 = .ok (.iload 4, 2) := by decide +kernel
theorem dX7_refundForDelay_45 : decode cX7_refundForDelay 45 = .ok (.imul, 1) := by decide +kernel
theorem dX7_refundForDelay_46 : decode cX7_refundForDelay 46 = .ok (.bipush 100, 2) := by decide +kernel
theorem dX7_refundForDelay_48 : decode cX7_refundForDelay 48 = .ok (.idiv, 1) := by decide +kernel
theorem dX7_refundForDelay_49 : decode cX7_refundForDelay 49 = .ok (.ireturn, 1) := by decide +kernel
theorem dX7_paidByVouchers_0 : decode cX7_paidByVouchers 0 = .ok (.iconst 0, 1) := by decide +kernel
theorem dX7_paidByVouchers_1 : decode cX7_paidByVouchers 1 = .ok (.istore_n 2, 1) := by decide +kernel
theorem dX7_paidByVouchers_2 : decode cX7_paidByVouchers 2 = .ok (.iconst 0, 1) := by decide +kernel
theorem dX7_paidByVouchers_3 : decode cX7_paidByVouchers 3 = .ok (.istore_n 3, 1) := by decide +kernel
theorem dX7_paidByVouchers_4 : decode cX7_paidByVouchers 4 = .ok (.iload_n 3, 1) := by decide +kernel
theorem dX7_paidByVouchers_5 : decode cX7_paidByVouchers 5 = .ok (.aload_n 0, 1) := by decide +kernel
theorem dX7_paidByVouchers_6 : decode cX7_paidByVouchers 6 = .ok (.getfield 26, 3) := by decide +kernel
theorem dX7_paidByVouchers_9 : decode cX7_paidByVouchers 9 = .ok (.invokevirtual 60, 3) := by decide +kernel
theorem dX7_paidByVouchers_12 : decode cX7_paidByVouchers 12 = .ok (.if_icmp .ge 34, 3) := by decide +kernel
theorem dX7_paidByVouchers_15 : decode cX7_paidByVouchers 15 = .ok (.aload_n 0, 1) := by decide +kernel
theorem dX7_paidByVouchers_16 : decode cX7_paidByVouchers 16 = .ok (.getfield 26, 3) := by decide +kernel
theorem dX7_paidByVouchers_19 : decode cX7_paidByVouchers 19 = .ok (.iload_n 3, 1) := by decide +kernel
theorem dX7_paidByVouchers_20 : decode cX7_paidByVouchers 20 = .ok (.iconst 0, 1) := by decide +kernel
theorem dX7_paidByVouchers_21 : decode cX7_paidByVouchers 21 = .ok (.invokevirtual 52, 3) := by decide +kernel
theorem dX7_paidByVouchers_24 : decode cX7_paidByVouchers 24 = .ok (.iload_n 1, 1) := by decide +kernel
theorem dX7_paidByVouchers_25 : decode cX7_paidByVouchers 25 = .ok (.if_icmp .ne 15, 3) := by decide +kernel
theorem dX7_paidByVouchers_28 : decode cX7_paidByVouchers 28 = .ok (.iload_n 2, 1) := by decide +kernel
theorem dX7_paidByVouchers_29 : decode cX7_paidByVouchers 29 = .ok (.aload_n 0, 1) := by decide +kernel
theorem dX7_paidByVouchers_30 : decode cX7_paidByVouchers 30 = .ok (.getfield 26, 3) := by decide +kernel
theorem dX7_paidByVouchers_33 : decode cX7_paidByVouchers 33 = .ok (.iload_n 3, 1) := by decide +kernel
theorem dX7_paidByVouchers_34 : decode cX7_paidByVouchers 34 = .ok (.iconst 2, 1) := by decide +kernel
theorem dX7_paidByVouchers_35 : decode cX7_paidByVouchers 35 = .ok (.invokevirtual 52, 3) := by decide +kernel
theorem dX7_paidByVouchers_38 : decode cX7_paidByVouchers 38 = .ok (.iadd, 1) := by decide +kernel
theorem dX7_paidByVouchers_39 : decode cX7_paidByVouchers 39 = .ok (.istore_n 2, 1) := by decide +kernel
theorem dX7_paidByVouchers_40 : decode cX7_paidByVouchers 40 = .ok (.iinc 3 1, 3) := by decide +kernel
theorem dX7_paidByVouchers_43 : decode cX7_paidByVouchers 43 = .ok (.goto (-39), 3) := by decide +kernel
theorem dX7_paidByVouchers_46 : decode cX7_paidByVouchers 46 = .ok (.iload_n 2, 1) := by decide +kernel
theorem dX7_paidByVouchers_47 : decode cX7_paidByVouchers 47 = .ok (.ireturn, 1) := by decide +kernel
theorem dX7_paymentsLeft_0 : decode cX7_paymentsLeft 0 = .ok (.iconst 0, 1) := by decide +kernel
theorem dX7_paymentsLeft_1 : decode cX7_paymentsLeft 1 = .ok (.istore_n 2, 1) := by decide +kernel
theorem dX7_paymentsLeft_2 : decode cX7_paymentsLeft 2 = .ok (.iconst 0, 1) := by decide +kernel
theorem dX7_paymentsLeft_3 : decode cX7_paymentsLeft 3 = .ok (.istore_n 3, 1) := by decide +kernel
theorem dX7_paymentsLeft_4 : decode cX7_paymentsLeft 4 = .ok (.iload_n 3, 1) := by decide +kernel
theorem dX7_paymentsLeft_5 : decode cX7_paymentsLeft 5 = .ok (.aload_n 0, 1) := by decide +kernel
theorem dX7_paymentsLeft_6 : decode cX7_paymentsLeft 6 = .ok (.getfield 26, 3) := by decide +kernel
theorem dX7_paymentsLeft_9 : decode cX7_paymentsLeft 9 = .ok (.invokevirtual 60, 3) := by decide +kernel
theorem dX7_paymentsLeft_12 : decode cX7_paymentsLeft 12 = .ok (.if_icmp .ge 37, 3) := by decide +kernel
theorem dX7_paymentsLeft_15 : decode cX7_paymentsLeft 15 = .ok (.aload_n 0, 1) := by decide +kernel
theorem dX7_paymentsLeft_16 : decode cX7_paymentsLeft 16 = .ok (.getfield 26, 3) := by decide +kernel
theorem dX7_paymentsLeft_19 : decode cX7_paymentsLeft 19 = .ok (.iload_n 3, 1) := by decide +kernel
theorem dX7_paymentsLeft_20 : decode cX7_paymentsLeft 20 = .ok (.iconst 0, 1) := by decide +kernel
theorem dX7_paymentsLeft_21 : decode cX7_paymentsLeft 21 = .ok (.invokevirtual 52, 3) := by decide +kernel
theorem dX7_paymentsLeft_24 : decode cX7_paymentsLeft 24 = .ok (.iload_n 1, 1) := by decide +kernel
theorem dX7_paymentsLeft_25 : decode cX7_paymentsLeft 25 = .ok (.if_icmp .ne 18, 3) := by decide +kernel
theorem dX7_paymentsLeft_28 : decode cX7_paymentsLeft 28 = .ok (.aload_n 0, 1) := by decide +kernel
theorem dX7_paymentsLeft_29 : decode cX7_paymentsLeft 29 = .ok (.getfield 26, 3) := by decide +kernel
theorem dX7_paymentsLeft_32 : decode cX7_paymentsLeft 32 = .ok (.iload_n 3, 1) := by decide +kernel
theorem dX7_paymentsLeft_33 : decode cX7_paymentsLeft 33 = .ok (.iconst 2, 1) := by decide +kernel
theorem dX7_paymentsLeft_34 : decode cX7_paymentsLeft 34 = .ok (.invokevirtual 52, 3) := by decide +kernel
theorem dX7_paymentsLeft_37 : decode cX7_paymentsLeft 37 = .ok (.ifCond .le 6, 3) := by decide +kernel
theorem dX7_paymentsLeft_40 : decode cX7_paymentsLeft 40 = .ok (.iinc 2 1, 3) := by decide +kernel
theorem dX7_paymentsLeft_43 : decode cX7_paymentsLeft 43 = .ok (.iinc 3 1, 3) := by decide +kernel
theorem dX7_paymentsLeft_46 : decode cX7_paymentsLeft 46 = .ok (.goto (-42), 3) := by decide +kernel
theorem dX7_paymentsLeft_49 : decode cX7_paymentsLeft 49 = .ok (.iload_n 2, 1) := by decide +kernel
theorem dX7_paymentsLeft_50 : decode cX7_paymentsLeft 50 = .ok (.ireturn, 1) := by decide +kernel
theorem dX7_bookingsPaidWith_0 : decode cX7_bookingsPaidWith 0 = .ok (.iconst 0, 1) := by decide +kernel
theorem dX7_bookingsPaidWith_1 : decode cX7_bookingsPaidWith 1 = .ok (.istore_n 2, 1) := by decide +kernel
theorem dX7_bookingsPaidWith_2 : decode cX7_bookingsPaidWith 2 = .ok (.iconst 0, 1) := by decide +kernel
theorem dX7_bookingsPaidWith_3 : decode cX7_bookingsPaidWith 3 = .ok (.istore_n 3, 1) := by decide +kernel
theorem dX7_bookingsPaidWith_4 : decode cX7_bookingsPaidWith 4 = .ok (.iload_n 3, 1) := by decide +kernel
theorem dX7_bookingsPaidWith_5 : decode cX7_bookingsPaidWith 5 = .ok (.aload_n 0, 1) := by decide +kernel
theorem dX7_bookingsPaidWith_6 : decode cX7_bookingsPaidWith 6 = .ok (.getfield 20, 3) := by decide +kernel
theorem dX7_bookingsPaidWith_9 : decode cX7_bookingsPaidWith 9 = .ok (.invokevirtual 60, 3) := by decide +kernel
theorem dX7_bookingsPaidWith_12 : decode cX7_bookingsPaidWith 12 = .ok (.if_icmp .ge 21, 3) := by decide +kernel
theorem dX7_bookingsPaidWith_15 : decode cX7_bookingsPaidWith 15 = .ok (.aload_n 0, 1) := by decide +kernel
theorem dX7_bookingsPaidWith_16 : decode cX7_bookingsPaidWith 16 = .ok (.iload_n 3, 1) := by decide +kernel
theorem dX7_bookingsPaidWith_17 : decode cX7_bookingsPaidWith 17 = .ok (.iload_n 1, 1) := by decide +kernel
theorem dX7_bookingsPaidWith_18 : decode cX7_bookingsPaidWith 18 = .ok (.invokevirtual 91, 3) := by decide +kernel
theorem dX7_bookingsPaidWith_21 : decode cX7_bookingsPaidWith 21 = .ok (.ifCond .eq 6, 3) := by decide +kernel
theorem dX7_bookingsPaidWith_24 : decode cX7_bookingsPaidWith 24 = .ok (.iinc 2 1, 3) := by decide +kernel
theorem dX7_bookingsPaidWith_27 : decode cX7_bookingsPaidWith 27 = .ok (.iinc 3 1, 3) := by decide +kernel
theorem dX7_bookingsPaidWith_30 : decode cX7_bookingsPaidWith 30 = .ok (.goto (-26), 3) := by decide +kernel
theorem dX7_bookingsPaidWith_33 : decode cX7_bookingsPaidWith 33 = .ok (.iload_n 2, 1) := by decide +kernel
theorem dX7_bookingsPaidWith_34 : decode cX7_bookingsPaidWith 34 = .ok (.ireturn, 1) := by decide +kernel
theorem dX7_isPaidWith_0 : decode cX7_isPaidWith 0 = .ok (.iconst 0, 1) := by decide +kernel
theorem dX7_isPaidWith_1 : decode cX7_isPaidWith 1 = .ok (.istore_n 3, 1) := by decide +kernel
theorem dX7_isPaidWith_2 : decode cX7_isPaidWith 2 = .ok (.iload_n 3, 1) := by decide +kernel
theorem dX7_isPaidWith_3 : decode cX7_isPaidWith 3 = .ok (.aload_n 0, 1) := by decide +kernel
theorem dX7_isPaidWith_4 : decode cX7_isPaidWith 4 = .ok (.getfield 26, 3) := by decide +kernel
theorem dX7_isPaidWith_7 : decode cX7_isPaidWith 7 = .ok (.invokevirtual 60, 3) := by decide +kernel
theorem dX7_isPaidWith_10 : decode cX7_isPaidWith 10 = .ok (.if_icmp .ge 49, 3) := by decide +kernel
theorem dX7_isPaidWith_13 : decode cX7_isPaidWith 13 = .ok (.aload_n 0, 1) := by decide +kernel
theorem dX7_isPaidWith_14 : decode cX7_isPaidWith 14 = .ok (.getfield 26, 3) := by decide +kernel
theorem dX7_isPaidWith_17 : decode cX7_isPaidWith 17 = .ok (.iload_n 3, 1) := by decide +kernel
theorem dX7_isPaidWith_18 : decode cX7_isPaidWith 18 = .ok (.iconst 0, 1) := by decide +kernel
theorem dX7_isPaidWith_19 : decode cX7_isPaidWith 19 = .ok (.invokevirtual 52, 3) := by decide +kernel
theorem dX7_isPaidWith_22 : decode cX7_isPaidWith 22 = .ok (.iload_n 1, 1) := by decide +kernel
theorem dX7_isPaidWith_23 : decode cX7_isPaidWith 23 = .ok (.if_icmp .ne 30, 3) := by decide +kernel
theorem dX7_isPaidWith_26 : decode cX7_isPaidWith 26 = .ok (.aload_n 0, 1) := by decide +kernel
theorem dX7_isPaidWith_27 : decode cX7_isPaidWith 27 = .ok (.getfield 26, 3) := by decide +kernel
theorem dX7_isPaidWith_30 : decode cX7_isPaidWith 30 = .ok (.iload_n 3, 1) := by decide +kernel
theorem dX7_isPaidWith_31 : decode cX7_isPaidWith 31 = .ok (.iconst 1, 1) := by decide +kernel
theorem dX7_isPaidWith_32 : decode cX7_isPaidWith 32 = .ok (.invokevirtual 52, 3) := by decide +kernel
theorem dX7_isPaidWith_35 : decode cX7_isPaidWith 35 = .ok (.iload_n 2, 1) := by decide +kernel
theorem dX7_isPaidWith_36 : decode cX7_isPaidWith 36 = .ok (.if_icmp .ne 17, 3) := by decide +kernel
theorem dX7_isPaidWith_39 : decode cX7_isPaidWith 39 = .ok (.aload_n 0, 1) := by decide +kernel
theorem dX7_isPaidWith_40 : decode cX7_isPaidWith 40 = .ok (.getfield 26, 3) := by decide +kernel
theorem dX7_isPaidWith_43 : decode cX7_isPaidWith 43 = .ok (.iload_n 3, 1) := by decide +kernel
theorem dX7_isPaidWith_44 : decode cX7_isPaidWith 44 = .ok (.iconst 2, 1) := by decide +kernel
theorem dX7_isPaidWith_45 : decode cX7_isPaidWith 45 = .ok (.invokevirtual 52, 3) := by decide +kernel
theorem dX7_isPaidWith_48 : decode cX7_isPaidWith 48 = .ok (.ifCond .le 5, 3) := by decide +kernel
theorem dX7_isPaidWith_51 : decode cX7_isPaidWith 51 = .ok (.iconst 1, 1) := by decide +kernel
theorem dX7_isPaidWith_52 : decode cX7_isPaidWith 52 = .ok (.ireturn, 1) := by decide +kernel
theorem dX7_isPaidWith_53 : decode cX7_isPaidWith 53 = .ok (.iinc 3 1, 3) := by decide +kernel
theorem dX7_isPaidWith_56 : decode cX7_isPaidWith 56 = .ok (.goto (-54), 3) := by decide +kernel
theorem dX7_isPaidWith_59 : decode cX7_isPaidWith 59 = .ok (.iconst 0, 1) := by decide +kernel
theorem dX7_isPaidWith_60 : decode cX7_isPaidWith 60 = .ok (.ireturn, 1) := by decide +kernel
theorem dX7_paymentAt_0 : decode cX7_paymentAt 0 = .ok (.iconst 0, 1) := by decide +kernel
theorem dX7_paymentAt_1 : decode cX7_paymentAt 1 = .ok (.istore_n 3, 1) := by decide +kernel
theorem dX7_paymentAt_2 : decode cX7_paymentAt 2 = .ok (.iload_n 3, 1) := by decide +kernel
theorem dX7_paymentAt_3 : decode cX7_paymentAt 3 = .ok (.aload_n 0, 1) := by decide +kernel
theorem dX7_paymentAt_4 : decode cX7_paymentAt 4 = .ok (.getfield 26, 3) := by decide +kernel
theorem dX7_paymentAt_7 : decode cX7_paymentAt 7 = .ok (.invokevirtual 60, 3) := by decide +kernel
theorem dX7_paymentAt_10 : decode cX7_paymentAt 10 = .ok (.if_icmp .ge 37, 3) := by decide +kernel
theorem dX7_paymentAt_13 : decode cX7_paymentAt 13 = .ok (.aload_n 0, 1) := by decide +kernel
theorem dX7_paymentAt_14 : decode cX7_paymentAt 14 = .ok (.getfield 26, 3) := by decide +kernel
theorem dX7_paymentAt_17 : decode cX7_paymentAt 17 = .ok (.iload_n 3, 1) := by decide +kernel
theorem dX7_paymentAt_18 : decode cX7_paymentAt 18 = .ok (.iconst 0, 1) := by decide +kernel
theorem dX7_paymentAt_19 : decode cX7_paymentAt 19 = .ok (.invokevirtual 52, 3) := by decide +kernel
theorem dX7_paymentAt_22 : decode cX7_paymentAt 22 = .ok (.iload_n 1, 1) := by decide +kernel
theorem dX7_paymentAt_23 : decode cX7_paymentAt 23 = .ok (.if_icmp .ne 18, 3) := by decide +kernel
theorem dX7_paymentAt_26 : decode cX7_paymentAt 26 = .ok (.aload_n 0, 1) := by decide +kernel
theorem dX7_paymentAt_27 : decode cX7_paymentAt 27 = .ok (.getfield 26, 3) := by decide +kernel
theorem dX7_paymentAt_30 : decode cX7_paymentAt 30 = .ok (.iload_n 3, 1) := by decide +kernel
theorem dX7_paymentAt_31 : decode cX7_paymentAt 31 = .ok (.iconst 3, 1) := by decide +kernel
theorem dX7_paymentAt_32 : decode cX7_paymentAt 32 = .ok (.invokevirtual 52, 3) := by decide +kernel
theorem dX7_paymentAt_35 : decode cX7_paymentAt 35 = .ok (.iload_n 2, 1) := by decide +kernel
theorem dX7_paymentAt_36 : decode cX7_paymentAt 36 = .ok (.if_icmp .ne 5, 3) := by decide +kernel
theorem dX7_paymentAt_39 : decode cX7_paymentAt 39 = .ok (.iload_n 3, 1) := by decide +kernel
theorem dX7_paymentAt_40 : decode cX7_paymentAt 40 = .ok (.ireturn, 1) := by decide +kernel
theorem dX7_paymentAt_41 : decode cX7_paymentAt 41 = .ok (.iinc 3 1, 3) := by decide +kernel
theorem dX7_paymentAt_44 : decode cX7_paymentAt 44 = .ok (.goto (-42), 3) := by decide +kernel
theorem dX7_paymentAt_47 : decode cX7_paymentAt 47 = .ok (.bipush (-9), 2) := by decide +kernel
theorem dX7_paymentAt_49 : decode cX7_paymentAt 49 = .ok (.ireturn, 1) := by decide +kernel
theorem dX8_init_0 : decode cX8_init 0 = .ok (.aload_n 0, 1) := by decide +kernel
theorem dX8_init_1 : decode cX8_init 1 = .ok (.invokespecial 1, 3) := by decide +kernel
theorem dX8_init_4 : decode cX8_init 4 = .ok (.aload_n 0, 1) := by decide +kernel
theorem dX8_init_5 : decode cX8_init 5 = .ok (.new 7, 3) := by decide +kernel
theorem dX8_init_8 : decode cX8_init 8 = .ok (.dup, 1) := by decide +kernel
theorem dX8_init_9 : decode cX8_init 9 = .ok (.invokespecial 9, 3) := by decide +kernel
theorem dX8_init_12 : decode cX8_init 12 = .ok (.putfield 10, 3) := by decide +kernel
theorem dX8_init_15 : decode cX8_init 15 = .ok (.aload_n 0, 1) := by decide +kernel
theorem dX8_init_16 : decode cX8_init 16 = .ok (.aload_n 0, 1) := by decide +kernel
theorem dX8_init_17 : decode cX8_init 17 = .ok (.getfield 10, 3) := by decide +kernel
theorem dX8_init_20 : decode cX8_init 20 = .ok (.getfield 16, 3) := by decide +kernel
theorem dX8_init_23 : decode cX8_init 23 = .ok (.putfield 20, 3) := by decide +kernel
theorem dX8_init_26 : decode cX8_init 26 = .ok (.aload_n 0, 1) := by decide +kernel
theorem dX8_init_27 : decode cX8_init 27 = .ok (.new 21, 3) := by decide +kernel
theorem dX8_init_30 : decode cX8_init 30 = .ok (.dup, 1) := by decide +kernel
theorem dX8_init_31 : decode cX8_init 31 = .ok (.aload_n 0, 1) := by decide +kernel
theorem dX8_init_32 : decode cX8_init 32 = .ok (.getfield 20, 3) := by decide +kernel
theorem dX8_init_35 : decode cX8_init 35 = .ok (.invokespecial 23, 3) := by decide +kernel
theorem dX8_init_38 : decode cX8_init 38 = .ok (.putfield 26, 3) := by decide +kernel
theorem dX8_init_41 : decode cX8_init 41 = .ok (.aload_n 0, 1) := by decide +kernel
theorem dX8_init_42 : decode cX8_init 42 = .ok (.new 30, 3) := by decide +kernel
theorem dX8_init_45 : decode cX8_init 45 = .ok (.dup, 1) := by decide +kernel
theorem dX8_init_46 : decode cX8_init 46 = .ok (.aload_n 0, 1) := by decide +kernel
theorem dX8_init_47 : decode cX8_init 47 = .ok (.getfield 20, 3) := by decide +kernel
theorem dX8_init_50 : decode cX8_init 50 = .ok (.invokespecial 32, 3) := by decide +kernel
theorem dX8_init_53 : decode cX8_init 53 = .ok (.putfield 33, 3) := by decide +kernel
theorem dX8_init_56 : decode cX8_init 56 = .ok (.aload_n 0, 1) := by decide +kernel
theorem dX8_init_57 : decode cX8_init 57 = .ok (.new 37, 3) := by decide +kernel
theorem dX8_init_60 : decode cX8_init 60 = .ok (.dup, 1) := by decide +kernel
theorem dX8_init_61 : decode cX8_init 61 = .ok (.invokespecial 39, 3) := by decide +kernel
theorem dX8_init_64 : decode cX8_init 64 = .ok (.putfield 40, 3) := by decide +kernel
theorem dX8_init_67 : decode cX8_init 67 = .ok (.aload_n 0, 1) := by decide +kernel
theorem dX8_init_68 : decode cX8_init 68 = .ok (.new 44, 3) := by decide +kernel
theorem dX8_init_71 : decode cX8_init 71 = .ok (.dup, 1) := by decide +kernel
theorem dX8_init_72 : decode cX8_init 72 = .ok (.invokespecial 46, 3) := by decide +kernel
theorem dX8_init_75 : decode cX8_init 75 = .ok (.putfield 47, 3) := by decide +kernel
theorem dX8_init_78 : decode cX8_init 78 = .ok (.return_, 1) := by decide +kernel
theorem dX8_addRoom_0 : decode cX8_addRoom 0 = .ok (.aload_n 0, 1) := by decide +kernel
theorem dX8_addRoom_1 : decode cX8_addRoom 1 = .ok (.getfield 40, 3) := by decide +kernel
theorem dX8_addRoom_4 : decode cX8_addRoom 4 = .ok (.aload_n 0, 1) := by decide +kernel
theorem dX8_addRoom_5 : decode cX8_addRoom 5 = .ok (.getfield 10, 3) := by decide +kernel
theorem dX8_addRoom_8 : decode cX8_addRoom 8 = .ok (.invokevirtual 51, 3) := by decide +kernel
theorem dX8_addRoom_11 : decode cX8_addRoom 11 = .ok (.aload_n 0, 1) := by decide +kernel
theorem dX8_addRoom_12 : decode cX8_addRoom 12 = .ok (.getfield 40, 3) := by decide +kernel
theorem dX8_addRoom_15 : decode cX8_addRoom 15 = .ok (.aload_n 0, 1) := by decide +kernel
theorem dX8_addRoom_16 : decode cX8_addRoom 16 = .ok (.getfield 26, 3) := by decide +kernel
theorem dX8_addRoom_19 : decode cX8_addRoom 19 = .ok (.iload_n 1, 1) := by decide +kernel
theorem dX8_addRoom_20 : decode cX8_addRoom 20 = .ok (.iload_n 2, 1) := by decide +kernel
theorem dX8_addRoom_21 : decode cX8_addRoom 21 = .ok (.iload_n 3, 1) := by decide +kernel
theorem dX8_addRoom_22 : decode cX8_addRoom 22 = .ok (.iload 4, 2) := by decide +kernel
theorem dX8_addRoom_24 : decode cX8_addRoom 24 = .ok (.invokevirtual 55, 3) := by decide +kernel
theorem dX8_addRoom_27 : decode cX8_addRoom 27 = .ok (.invokevirtual 59, 3) := by decide +kernel
theorem dX8_addRoom_30 : decode cX8_addRoom 30 = .ok (.ireturn, 1) := by decide +kernel
theorem dX8_setPrice_0 : decode cX8_setPrice 0 = .ok (.aload_n 0, 1) := by decide +kernel
theorem dX8_setPrice_1 : decode cX8_setPrice 1 = .ok (.getfield 40, 3) := by decide +kernel
theorem dX8_setPrice_4 : decode cX8_setPrice 4 = .ok (.aload_n 0, 1) := by decide +kernel
theorem dX8_setPrice_5 : decode cX8_setPrice 5 = .ok (.getfield 10, 3) := by decide +kernel
theorem dX8_setPrice_8 : decode cX8_setPrice 8 = .ok (.invokevirtual 51, 3) := by decide +kernel
theorem dX8_setPrice_11 : decode cX8_setPrice 11 = .ok (.aload_n 0, 1) := by decide +kernel
theorem dX8_setPrice_12 : decode cX8_setPrice 12 = .ok (.getfield 40, 3) := by decide +kernel
theorem dX8_setPrice_15 : decode cX8_setPrice 15 = .ok (.aload_n 0, 1) := by decide +kernel
theorem dX8_setPrice_16 : decode cX8_setPrice 16 = .ok (.getfield 26, 3) := by decide +kernel
theorem dX8_setPrice_19 : decode cX8_setPrice 19 = .ok (.iload_n 1, 1) := by decide +kernel
theorem dX8_setPrice_20 : decode cX8_setPrice 20 = .ok (.iload_n 2, 1) := by decide +kernel
theorem dX8_setPrice_21 : decode cX8_setPrice 21 = .ok (.invokevirtual 63, 3) := by decide +kernel
theorem dX8_setPrice_24 : decode cX8_setPrice 24 = .ok (.invokevirtual 59, 3) := by decide +kernel
theorem dX8_setPrice_27 : decode cX8_setPrice 27 = .ok (.ireturn, 1) := by decide +kernel
theorem dX8_set_0 : decode cX8_set 0 = .ok (.aload_n 0, 1) := by decide +kernel
theorem dX8_set_1 : decode cX8_set 1 = .ok (.getfield 40, 3) := by decide +kernel
theorem dX8_set_4 : decode cX8_set 4 = .ok (.aload_n 0, 1) := by decide +kernel
theorem dX8_set_5 : decode cX8_set 5 = .ok (.getfield 10, 3) := by decide +kernel
theorem dX8_set_8 : decode cX8_set 8 = .ok (.invokevirtual 51, 3) := by decide +kernel
theorem dX8_set_11 : decode cX8_set 11 = .ok (.aload_n 0, 1) := by decide +kernel
theorem dX8_set_12 : decode cX8_set 12 = .ok (.getfield 40, 3) := by decide +kernel
theorem dX8_set_15 : decode cX8_set 15 = .ok (.aload_n 0, 1) := by decide +kernel
theorem dX8_set_16 : decode cX8_set 16 = .ok (.getfield 26, 3) := by decide +kernel
theorem dX8_set_19 : decode cX8_set 19 = .ok (.iload_n 1, 1) := by decide +kernel
theorem dX8_set_20 : decode cX8_set 20 = .ok (.iload_n 2, 1) := by decide +kernel
theorem dX8_set_21 : decode cX8_set 21 = .ok (.invokevirtual 67, 3) := by decide +kernel
theorem dX8_set_24 : decode cX8_set 24 = .ok (.invokevirtual 59, 3) := by decide +kernel
theorem dX8_set_27 : decode cX8_set 27 = .ok (.ireturn, 1) := by decide +kernel
theorem dX8_sellVoucher_0 : decode cX8_sellVoucher 0 = .ok (.aload_n 0, 1) := by decide +kernel
theorem dX8_sellVoucher_1 : decode cX8_sellVoucher 1 = .ok (.getfield 40, 3) := by decide +kernel
theorem dX8_sellVoucher_4 : decode cX8_sellVoucher 4 = .ok (.aload_n 0, 1) := by decide +kernel
theorem dX8_sellVoucher_5 : decode cX8_sellVoucher 5 = .ok (.getfield 10, 3) := by decide +kernel
theorem dX8_sellVoucher_8 : decode cX8_sellVoucher 8 = .ok (.invokevirtual 51, 3) := by decide +kernel
theorem dX8_sellVoucher_11 : decode cX8_sellVoucher 11 = .ok (.aload_n 0, 1) := by decide +kernel
theorem dX8_sellVoucher_12 : decode cX8_sellVoucher 12 = .ok (.getfield 40, 3) := by decide +kernel
theorem dX8_sellVoucher_15 : decode cX8_sellVoucher 15 = .ok (.aload_n 0, 1) := by decide +kernel
theorem dX8_sellVoucher_16 : decode cX8_sellVoucher 16 = .ok (.getfield 26, 3) := by decide +kernel
theorem dX8_sellVoucher_19 : decode cX8_sellVoucher 19 = .ok (.iload_n 1, 1) := by decide +kernel
theorem dX8_sellVoucher_20 : decode cX8_sellVoucher 20 = .ok (.invokevirtual 70, 3) := by decide +kernel
theorem dX8_sellVoucher_23 : decode cX8_sellVoucher 23 = .ok (.invokevirtual 59, 3) := by decide +kernel
theorem dX8_sellVoucher_26 : decode cX8_sellVoucher 26 = .ok (.ireturn, 1) := by decide +kernel
theorem dX8_book_0 : decode cX8_book 0 = .ok (.aload_n 0, 1) := by decide +kernel
theorem dX8_book_1 : decode cX8_book 1 = .ok (.getfield 40, 3) := by decide +kernel
theorem dX8_book_4 : decode cX8_book 4 = .ok (.aload_n 0, 1) := by decide +kernel
theorem dX8_book_5 : decode cX8_book 5 = .ok (.getfield 10, 3) := by decide +kernel
theorem dX8_book_8 : decode cX8_book 8 = .ok (.invokevirtual 51, 3) := by decide +kernel
theorem dX8_book_11 : decode cX8_book 11 = .ok (.aload_n 0, 1) := by decide +kernel
theorem dX8_book_12 : decode cX8_book 12 = .ok (.getfield 40, 3) := by decide +kernel
theorem dX8_book_15 : decode cX8_book 15 = .ok (.aload_n 0, 1) := by decide +kernel
theorem dX8_book_16 : decode cX8_book 16 = .ok (.getfield 26, 3) := by decide +kernel
theorem dX8_book_19 : decode cX8_book 19 = .ok (.iload_n 1, 1) := by decide +kernel
theorem dX8_book_20 : decode cX8_book 20 = .ok (.iload_n 2, 1) := by decide +kernel
theorem dX8_book_21 : decode cX8_book 21 = .ok (.iload_n 3, 1) := by decide +kernel
theorem dX8_book_22 : decode cX8_book 22 = .ok (.iload 4, 2) := by decide +kernel
theorem dX8_book_24 : decode cX8_book 24 = .ok (.invokevirtual 73, 3) := by decide +kernel
theorem dX8_book_27 : decode cX8_book 27 = .ok (.invokevirtual 59, 3) := by decide +kernel
theorem dX8_book_30 : decode cX8_book 30 = .ok (.ireturn, 1) := by decide +kernel
theorem dX8_move_0 : decode cX8_move 0 = .ok (.aload_n 0, 1) := by decide +kernel
theorem dX8_move_1 : decode cX8_move 1 = .ok (.getfield 40, 3) := by decide +kernel
theorem dX8_move_4 : decode cX8_move 4 = .ok (.aload_n 0, 1) := by decide +kernel
theorem dX8_move_5 : decode cX8_move 5 = .ok (.getfield 10, 3) := by decide +kernel
theorem dX8_move_8 : decode cX8_move 8 = .ok (.invokevirtual 51, 3) := by decide +kernel
theorem dX8_move_11 : decode cX8_move 11 = .ok (.aload_n 0, 1) := by decide +kernel
theorem dX8_move_12 : decode cX8_move 12 = .ok (.getfield 40, 3) := by decide +kernel
theorem dX8_move_15 : decode cX8_move 15 = .ok (.aload_n 0, 1) := by decide +kernel
theorem dX8_move_16 : decode cX8_move 16 = .ok (.getfield 26, 3) := by decide +kernel
theorem dX8_move_19 : decode cX8_move 19 = .ok (.iload_n 1, 1) := by decide +kernel
theorem dX8_move_20 : decode cX8_move 20 = .ok (.iload_n 2, 1) := by decide +kernel
theorem dX8_move_21 : decode cX8_move 21 = .ok (.invokevirtual 76, 3) := by decide +kernel
theorem dX8_move_24 : decode cX8_move 24 = .ok (.invokevirtual 59, 3) := by decide +kernel
theorem dX8_move_27 : decode cX8_move 27 = .ok (.ireturn, 1) := by decide +kernel
theorem dX8_cancel_0 : decode cX8_cancel 0 = .ok (.aload_n 0, 1) := by decide +kernel
theorem dX8_cancel_1 : decode cX8_cancel 1 = .ok (.getfield 40, 3) := by decide +kernel
theorem dX8_cancel_4 : decode cX8_cancel 4 = .ok (.aload_n 0, 1) := by decide +kernel
theorem dX8_cancel_5 : decode cX8_cancel 5 = .ok (.getfield 10, 3) := by decide +kernel
theorem dX8_cancel_8 : decode cX8_cancel 8 = .ok (.invokevirtual 51, 3) := by decide +kernel
theorem dX8_cancel_11 : decode cX8_cancel 11 = .ok (.aload_n 0, 1) := by decide +kernel
theorem dX8_cancel_12 : decode cX8_cancel 12 = .ok (.getfield 40, 3) := by decide +kernel
theorem dX8_cancel_15 : decode cX8_cancel 15 = .ok (.aload_n 0, 1) := by decide +kernel
theorem dX8_cancel_16 : decode cX8_cancel 16 = .ok (.getfield 26, 3) := by decide +kernel
theorem dX8_cancel_19 : decode cX8_cancel 19 = .ok (.iload_n 1, 1) := by decide +kernel
theorem dX8_cancel_20 : decode cX8_cancel 20 = .ok (.invokevirtual 79, 3) := by decide +kernel
theorem dX8_cancel_23 : decode cX8_cancel 23 = .ok (.invokevirtual 59, 3) := by decide +kernel
theorem dX8_cancel_26 : decode cX8_cancel 26 = .ok (.ireturn, 1) := by decide +kernel
theorem dX8_merge_0 : decode cX8_merge 0 = .ok (.aload_n 0, 1) := by decide +kernel
theorem dX8_merge_1 : decode cX8_merge 1 = .ok (.getfield 40, 3) := by decide +kernel
theorem dX8_merge_4 : decode cX8_merge 4 = .ok (.aload_n 0, 1) := by decide +kernel
theorem dX8_merge_5 : decode cX8_merge 5 = .ok (.getfield 10, 3) := by decide +kernel
theorem dX8_merge_8 : decode cX8_merge 8 = .ok (.invokevirtual 51, 3) := by decide +kernel
theorem dX8_merge_11 : decode cX8_merge 11 = .ok (.aload_n 0, 1) := by decide +kernel
theorem dX8_merge_12 : decode cX8_merge 12 = .ok (.getfield 40, 3) := by decide +kernel
theorem dX8_merge_15 : decode cX8_merge 15 = .ok (.aload_n 0, 1) := by decide +kernel
theorem dX8_merge_16 : decode cX8_merge 16 = .ok (.getfield 26, 3) := by decide +kernel
theorem dX8_merge_19 : decode cX8_merge 19 = .ok (.iload_n 1, 1) := by decide +kernel
theorem dX8_merge_20 : decode cX8_merge 20 = .ok (.iload_n 2, 1) := by decide +kernel
theorem dX8_merge_21 : decode cX8_merge 21 = .ok (.invokevirtual 82, 3) := by decide +kernel
theorem dX8_merge_24 : decode cX8_merge 24 = .ok (.invokevirtual 59, 3) := by decide +kernel
theorem dX8_merge_27 : decode cX8_merge 27 = .ok (.ireturn, 1) := by decide +kernel
theorem dX8_play_0 : decode cX8_play 0 = .ok (.aload_n 0, 1) := by decide +kernel
theorem dX8_play_1 : decode cX8_play 1 = .ok (.getfield 40, 3) := by decide +kernel
theorem dX8_play_4 : decode cX8_play 4 = .ok (.aload_n 0, 1) := by decide +kernel
theorem dX8_play_5 : decode cX8_play 5 = .ok (.getfield 10, 3) := by decide +kernel
theorem dX8_play_8 : decode cX8_play 8 = .ok (.invokevirtual 51, 3) := by decide +kernel
theorem dX8_play_11 : decode cX8_play 11 = .ok (.aload_n 0, 1) := by decide +kernel
theorem dX8_play_12 : decode cX8_play 12 = .ok (.getfield 40, 3) := by decide +kernel
theorem dX8_play_15 : decode cX8_play 15 = .ok (.aload_n 0, 1) := by decide +kernel
theorem dX8_play_16 : decode cX8_play 16 = .ok (.getfield 26, 3) := by decide +kernel
theorem dX8_play_19 : decode cX8_play 19 = .ok (.iload_n 1, 1) := by decide +kernel
theorem dX8_play_20 : decode cX8_play 20 = .ok (.iload_n 2, 1) := by decide +kernel
theorem dX8_play_21 : decode cX8_play 21 = .ok (.iload_n 3, 1) := by decide +kernel
theorem dX8_play_22 : decode cX8_play 22 = .ok (.iload 4, 2) := by decide +kernel
theorem dX8_play_24 : decode cX8_play 24 = .ok (.invokevirtual 85, 3) := by decide +kernel
theorem dX8_play_27 : decode cX8_play 27 = .ok (.invokevirtual 59, 3) := by decide +kernel
theorem dX8_play_30 : decode cX8_play 30 = .ok (.ireturn, 1) := by decide +kernel
theorem dX8_take_0 : decode cX8_take 0 = .ok (.iload_n 1, 1) := by decide +kernel
theorem dX8_take_1 : decode cX8_take 1 = .ok (.iconst 0, 1) := by decide +kernel
theorem dX8_take_2 : decode cX8_take 2 = .ok (.iconst 1, 1) := by decide +kernel
theorem dX8_take_3 : decode cX8_take 3 = .ok (.invokestatic 88, 3) := by decide +kernel
theorem dX8_take_6 : decode cX8_take 6 = .ok (.ifCond .ne 5, 3) := by decide +kernel
theorem dX8_take_9 : decode cX8_take 9 = .ok (.iconst (-1), 1) := by decide +kernel
theorem dX8_take_10 : decode cX8_take 10 = .ok (.ireturn, 1) := by decide +kernel
theorem dX8_take_11 : decode cX8_take 11 = .ok (.aload_n 0, 1) := by decide +kernel
theorem dX8_take_12 : decode cX8_take 12 = .ok (.getfield 40, 3) := by decide +kernel
theorem dX8_take_15 : decode cX8_take 15 = .ok (.aload_n 0, 1) := by decide +kernel
theorem dX8_take_16 : decode cX8_take 16 = .ok (.getfield 10, 3) := by decide +kernel
theorem dX8_take_19 : decode cX8_take 19 = .ok (.invokevirtual 51, 3) := by decide +kernel
theorem dX8_take_22 : decode cX8_take 22 = .ok (.aload_n 0, 1) := by decide +kernel
theorem dX8_take_23 : decode cX8_take 23 = .ok (.getfield 10, 3) := by decide +kernel
theorem dX8_take_26 : decode cX8_take 26 = .ok (.iload_n 1, 1) := by decide +kernel
theorem dX8_take_27 : decode cX8_take 27 = .ok (.invokevirtual 92, 3) := by decide +kernel
theorem dX8_take_30 : decode cX8_take 30 = .ok (.aload_n 0, 1) := by decide +kernel
theorem dX8_take_31 : decode cX8_take 31 = .ok (.getfield 20, 3) := by decide +kernel
theorem dX8_take_34 : decode cX8_take 34 = .ok (.invokevirtual 96, 3) := by decide +kernel
theorem dX8_take_37 : decode cX8_take 37 = .ok (.aload_n 0, 1) := by decide +kernel
theorem dX8_take_38 : decode cX8_take 38 = .ok (.getfield 40, 3) := by decide +kernel
theorem dX8_take_41 : decode cX8_take 41 = .ok (.aload_n 0, 1) := by decide +kernel
theorem dX8_take_42 : decode cX8_take 42 = .ok (.getfield 20, 3) := by decide +kernel
theorem dX8_take_45 : decode cX8_take 45 = .ok (.getfield 101, 3) := by decide +kernel
theorem dX8_take_48 : decode cX8_take 48 = .ok (.invokevirtual 59, 3) := by decide +kernel
theorem dX8_take_51 : decode cX8_take 51 = .ok (.ireturn, 1) := by decide +kernel
theorem dX8_restore_0 : decode cX8_restore 0 = .ok (.iload_n 1, 1) := by decide +kernel
theorem dX8_restore_1 : decode cX8_restore 1 = .ok (.iconst 0, 1) := by decide +kernel
theorem dX8_restore_2 : decode cX8_restore 2 = .ok (.iconst 1, 1) := by decide +kernel
theorem dX8_restore_3 : decode cX8_restore 3 = .ok (.invokestatic 88, 3) := by decide +kernel
theorem dX8_restore_6 : decode cX8_restore 6 = .ok (.ifCond .ne 5, 3) := by decide +kernel
theorem dX8_restore_9 : decode cX8_restore 9 = .ok (.iconst (-1), 1) := by decide +kernel
theorem dX8_restore_10 : decode cX8_restore 10 = .ok (.ireturn, 1) := by decide +kernel
theorem dX8_restore_11 : decode cX8_restore 11 = .ok (.aload_n 0, 1) := by decide +kernel
theorem dX8_restore_12 : decode cX8_restore 12 = .ok (.getfield 10, 3) := by decide +kernel
theorem dX8_restore_15 : decode cX8_restore 15 = .ok (.iload_n 1, 1) := by decide +kernel
theorem dX8_restore_16 : decode cX8_restore 16 = .ok (.invokevirtual 92, 3) := by decide +kernel
theorem dX8_restore_19 : decode cX8_restore 19 = .ok (.astore_n 2, 1) := by decide +kernel
theorem dX8_restore_20 : decode cX8_restore 20 = .ok (.aload_n 2, 1) := by decide +kernel
theorem dX8_restore_21 : decode cX8_restore 21 = .ok (.getfield 107, 3) := by decide +kernel
theorem dX8_restore_24 : decode cX8_restore 24 = .ok (.ifCond .ne 6, 3) := by decide +kernel
theorem dX8_restore_27 : decode cX8_restore 27 = .ok (.bipush (-2), 2) := by decide +kernel
theorem dX8_restore_29 : decode cX8_restore 29 = .ok (.ireturn, 1) := by decide +kernel
theorem dX8_restore_30 : decode cX8_restore 30 = .ok (.aload_n 0, 1) := by decide +kernel
theorem dX8_restore_31 : decode cX8_restore 31 = .ok (.getfield 40, 3) := by decide +kernel
theorem dX8_restore_34 : decode cX8_restore 34 = .ok (.aload_n 0, 1) := by decide +kernel
theorem dX8_restore_35 : decode cX8_restore 35 = .ok (.getfield 10, 3) := by decide +kernel
theorem dX8_restore_38 : decode cX8_restore 38 = .ok (.invokevirtual 51, 3) := by decide +kernel
theorem dX8_restore_41 : decode cX8_restore 41 = .ok (.aload_n 0, 1) := by decide +kernel
theorem dX8_restore_42 : decode cX8_restore 42 = .ok (.getfield 20, 3) := by decide +kernel
theorem dX8_restore_45 : decode cX8_restore 45 = .ok (.aload_n 2, 1) := by decide +kernel
theorem dX8_restore_46 : decode cX8_restore 46 = .ok (.getfield 111, 3) := by decide +kernel
theorem dX8_restore_49 : decode cX8_restore 49 = .ok (.invokevirtual 114, 3) := by decide +kernel
theorem dX8_restore_52 : decode cX8_restore 52 = .ok (.aload_n 0, 1) := by decide +kernel
theorem dX8_restore_53 : decode cX8_restore 53 = .ok (.getfield 40, 3) := by decide +kernel
theorem dX8_restore_56 : decode cX8_restore 56 = .ok (.aload_n 0, 1) := by decide +kernel
theorem dX8_restore_57 : decode cX8_restore 57 = .ok (.getfield 20, 3) := by decide +kernel
theorem dX8_restore_60 : decode cX8_restore 60 = .ok (.getfield 101, 3) := by decide +kernel
theorem dX8_restore_63 : decode cX8_restore 63 = .ok (.invokevirtual 59, 3) := by decide +kernel
theorem dX8_restore_66 : decode cX8_restore 66 = .ok (.ireturn, 1) := by decide +kernel
theorem dX8_undo_0 : decode cX8_undo 0 = .ok (.aload_n 0, 1) := by decide +kernel
theorem dX8_undo_1 : decode cX8_undo 1 = .ok (.getfield 40, 3) := by decide +kernel
theorem dX8_undo_4 : decode cX8_undo 4 = .ok (.aload_n 0, 1) := by decide +kernel
theorem dX8_undo_5 : decode cX8_undo 5 = .ok (.getfield 10, 3) := by decide +kernel
theorem dX8_undo_8 : decode cX8_undo 8 = .ok (.invokevirtual 117, 3) := by decide +kernel
theorem dX8_undo_11 : decode cX8_undo 11 = .ok (.ireturn, 1) := by decide +kernel
theorem dX8_append_0 : decode cX8_append 0 = .ok (.aload_n 0, 1) := by decide +kernel
theorem dX8_append_1 : decode cX8_append 1 = .ok (.getfield 47, 3) := by decide +kernel
theorem dX8_append_4 : decode cX8_append 4 = .ok (.iload_n 1, 1) := by decide +kernel
theorem dX8_append_5 : decode cX8_append 5 = .ok (.invokevirtual 121, 3) := by decide +kernel
theorem dX8_append_8 : decode cX8_append 8 = .ok (.ireturn, 1) := by decide +kernel
theorem dX8_clearText_0 : decode cX8_clearText 0 = .ok (.aload_n 0, 1) := by decide +kernel
theorem dX8_clearText_1 : decode cX8_clearText 1 = .ok (.getfield 47, 3) := by decide +kernel
theorem dX8_clearText_4 : decode cX8_clearText 4 = .ok (.invokevirtual 124, 3) := by decide +kernel
theorem dX8_clearText_7 : decode cX8_clearText 7 = .ok (.ireturn, 1) := by decide +kernel
theorem dX8_run_0 : decode cX8_run 0 = .ok (.aload_n 0, 1) := by decide +kernel
theorem dX8_run_1 : decode cX8_run 1 = .ok (.getfield 40, 3) := by decide +kernel
theorem dX8_run_4 : decode cX8_run 4 = .ok (.aload_n 0, 1) := by decide +kernel
theorem dX8_run_5 : decode cX8_run 5 = .ok (.getfield 10, 3) := by decide +kernel
theorem dX8_run_8 : decode cX8_run 8 = .ok (.invokevirtual 51, 3) := by decide +kernel
theorem dX8_run_11 : decode cX8_run 11 = .ok (.aload_n 0, 1) := by decide +kernel
theorem dX8_run_12 : decode cX8_run 12 = .ok (.getfield 47, 3) := by decide +kernel
theorem dX8_run_15 : decode cX8_run 15 = .ok (.aload_n 0, 1) := by decide +kernel
theorem dX8_run_16 : decode cX8_run 16 = .ok (.getfield 26, 3) := by decide +kernel
theorem dX8_run_19 : decode cX8_run 19 = .ok (.invokevirtual 128, 3) := by decide +kernel
theorem dX8_run_22 : decode cX8_run 22 = .ok (.istore_n 1, 1) := by decide +kernel
theorem dX8_run_23 : decode cX8_run 23 = .ok (.iload_n 1, 1) := by decide +kernel
theorem dX8_run_24 : decode cX8_run 24 = .ok (.ifCond .ge 16, 3) := by decide +kernel
theorem dX8_run_27 : decode cX8_run 27 = .ok (.aload_n 0, 1) := by decide +kernel
theorem dX8_run_28 : decode cX8_run 28 = .ok (.getfield 40, 3) := by decide +kernel
theorem dX8_run_31 : decode cX8_run 31 = .ok (.aload_n 0, 1) := by decide +kernel
theorem dX8_run_32 : decode cX8_run 32 = .ok (.getfield 10, 3) := by decide +kernel
theorem dX8_run_35 : decode cX8_run 35 = .ok (.invokevirtual 132, 3) := by decide +kernel
theorem dX8_run_38 : decode cX8_run 38 = .ok (.iload_n 1, 1) := by decide +kernel
theorem dX8_run_39 : decode cX8_run 39 = .ok (.ireturn, 1) := by decide +kernel
theorem dX8_run_40 : decode cX8_run 40 = .ok (.aload_n 0, 1) := by decide +kernel
theorem dX8_run_41 : decode cX8_run 41 = .ok (.getfield 47, 3) := by decide +kernel
theorem dX8_run_44 : decode cX8_run 44 = .ok (.invokevirtual 124, 3) := by decide +kernel
theorem dX8_run_47 : decode cX8_run 47 = .ok (.pop, 1) := by decide +kernel
theorem dX8_run_48 : decode cX8_run 48 = .ok (.aload_n 0, 1) := by decide +kernel
theorem dX8_run_49 : decode cX8_run 49 = .ok (.getfield 40, 3) := by decide +kernel
theorem dX8_run_52 : decode cX8_run 52 = .ok (.iload_n 1, 1) := by decide +kernel
theorem dX8_run_53 : decode cX8_run 53 = .ok (.invokevirtual 59, 3) := by decide +kernel
theorem dX8_run_56 : decode cX8_run 56 = .ok (.ireturn, 1) := by decide +kernel
theorem dX8_count_0 : decode cX8_count 0 = .ok (.iload_n 1, 1) := by decide +kernel
theorem dX8_count_1 : decode cX8_count 1 = .ok (.bipush 6, 2) := by decide +kernel
theorem dX8_count_3 : decode cX8_count 3 = .ok (.bipush 10, 2) := by decide +kernel
theorem dX8_count_5 : decode cX8_count 5 = .ok (.invokestatic 88, 3) := by decide +kernel
theorem dX8_count_8 : decode cX8_count 8 = .ok (.ifCond .eq 15, 3) := by decide +kernel
theorem dX8_count_11 : decode cX8_count 11 = .ok (.aload_n 0, 1) := by decide +kernel
theorem dX8_count_12 : decode cX8_count 12 = .ok (.getfield 20, 3) := by decide +kernel
theorem dX8_count_15 : decode cX8_count 15 = .ok (.iload_n 1, 1) := by decide +kernel
theorem dX8_count_16 : decode cX8_count 16 = .ok (.bipush 6, 2) := by decide +kernel
theorem dX8_count_18 : decode cX8_count 18 = .ok (.isub, 1) := by decide +kernel
theorem dX8_count_19 : decode cX8_count 19 = .ok (.invokevirtual 135, 3) := by decide +kernel
theorem dX8_count_22 : decode cX8_count 22 = .ok (.ireturn, 1) := by decide +kernel
theorem dX8_count_23 : decode cX8_count 23 = .ok (.iload_n 1, 1) := by decide +kernel
theorem dX8_count_24 : decode cX8_count 24 = .ok (.bipush 11, 2) := by decide +kernel
theorem dX8_count_26 : decode cX8_count 26 = .ok (.bipush 14, 2) := by decide +kernel
theorem dX8_count_28 : decode cX8_count 28 = .ok (.invokestatic 88, 3) := by decide +kernel
theorem dX8_count_31 : decode cX8_count 31 = .ok (.ifCond .eq 15, 3) := by decide +kernel
theorem dX8_count_34 : decode cX8_count 34 = .ok (.aload_n 0, 1) := by decide +kernel
theorem dX8_count_35 : decode cX8_count 35 = .ok (.getfield 20, 3) := by decide +kernel
theorem dX8_count_38 : decode cX8_count 38 = .ok (.iload_n 1, 1) := by decide +kernel
theorem dX8_count_39 : decode cX8_count 39 = .ok (.bipush 11, 2) := by decide +kernel
theorem dX8_count_41 : decode cX8_count 41 = .ok (.isub, 1) := by decide +kernel
theorem dX8_count_42 : decode cX8_count 42 = .ok (.invokevirtual 138, 3) := by decide +kernel
theorem dX8_count_45 : decode cX8_count 45 = .ok (.ireturn, 1) := by decide +kernel
theorem dX8_count_46 : decode cX8_count 46 = .ok (.iload_n 1, 1) := by decide +kernel
theorem dX8_count_47 : decode cX8_count 47 = .ok (.tableswitch 94 0 5 #[37, 48, 59, 70, 78, 86], 37) := by decide +kernel
theorem dX8_count_84 : decode cX8_count 84 = .ok (.aload_n 0, 1) := by decide +kernel
theorem dX8_count_85 : decode cX8_count 85 = .ok (.getfield 20, 3) := by decide +kernel
theorem dX8_count_88 : decode cX8_count 88 = .ok (.getfield 141, 3) := by decide +kernel
theorem dX8_count_91 : decode cX8_count 91 = .ok (.invokevirtual 145, 3) := by decide +kernel
theorem dX8_count_94 : decode cX8_count 94 = .ok (.ireturn, 1) := by decide +kernel
theorem dX8_count_95 : decode cX8_count 95 = .ok (.aload_n 0, 1) := by decide +kernel
theorem dX8_count_96 : decode cX8_count 96 = .ok (.getfield 20, 3) := by decide +kernel
theorem dX8_count_99 : decode cX8_count 99 = .ok (.getfield 150, 3) := by decide +kernel
theorem dX8_count_102 : decode cX8_count 102 = .ok (.invokevirtual 145, 3) := by decide +kernel
theorem dX8_count_105 : decode cX8_count 105 = .ok (.ireturn, 1) := by decide +kernel
theorem dX8_count_106 : decode cX8_count 106 = .ok (.aload_n 0, 1) := by decide +kernel
theorem dX8_count_107 : decode cX8_count 107 = .ok (.getfield 20, 3) := by decide +kernel
theorem dX8_count_110 : decode cX8_count 110 = .ok (.getfield 153, 3) := by decide +kernel
theorem dX8_count_113 : decode cX8_count 113 = .ok (.invokevirtual 145, 3) := by decide +kernel
theorem dX8_count_116 : decode cX8_count 116 = .ok (.ireturn, 1) := by decide +kernel
theorem dX8_count_117 : decode cX8_count 117 = .ok (.aload_n 0, 1) := by decide +kernel
theorem dX8_count_118 : decode cX8_count 118 = .ok (.getfield 10, 3) := by decide +kernel
theorem dX8_count_121 : decode cX8_count 121 = .ok (.invokevirtual 156, 3) := by decide +kernel
theorem dX8_count_124 : decode cX8_count 124 = .ok (.ireturn, 1) := by decide +kernel
theorem dX8_count_125 : decode cX8_count 125 = .ok (.aload_n 0, 1) := by decide +kernel
theorem dX8_count_126 : decode cX8_count 126 = .ok (.getfield 40, 3) := by decide +kernel
theorem dX8_count_129 : decode cX8_count 129 = .ok (.invokevirtual 159, 3) := by decide +kernel
theorem dX8_count_132 : decode cX8_count 132 = .ok (.ireturn, 1) := by decide +kernel
theorem dX8_count_133 : decode cX8_count 133 = .ok (.aload_n 0, 1) := by decide +kernel
theorem dX8_count_134 : decode cX8_count 134 = .ok (.getfield 47, 3) := by decide +kernel
theorem dX8_count_137 : decode cX8_count 137 = .ok (.invokevirtual 160, 3) := by decide +kernel
theorem dX8_count_140 : decode cX8_count 140 = .ok (.ireturn, 1) := by decide +kernel
theorem dX8_count_141 : decode cX8_count 141 = .ok (.iconst (-1), 1) := by decide +kernel
theorem dX8_count_142 : decode cX8_count 142 = .ok (.ireturn, 1) := by decide +kernel
theorem dX8_room_0 : decode cX8_room 0 = .ok (.aload_n 0, 1) := by decide +kernel
theorem dX8_room_1 : decode cX8_room 1 = .ok (.getfield 20, 3) := by decide +kernel
theorem dX8_room_4 : decode cX8_room 4 = .ok (.getfield 141, 3) := by decide +kernel
theorem dX8_room_7 : decode cX8_room 7 = .ok (.iload_n 1, 1) := by decide +kernel
theorem dX8_room_8 : decode cX8_room 8 = .ok (.invokevirtual 161, 3) := by decide +kernel
theorem dX8_room_11 : decode cX8_room 11 = .ok (.ifCond .eq 13, 3) := by decide +kernel
theorem dX8_room_14 : decode cX8_room 14 = .ok (.iload_n 2, 1) := by decide +kernel
theorem dX8_room_15 : decode cX8_room 15 = .ok (.iconst 0, 1) := by decide +kernel
theorem dX8_room_16 : decode cX8_room 16 = .ok (.bipush 11, 2) := by decide +kernel
theorem dX8_room_18 : decode cX8_room 18 = .ok (.invokestatic 88, 3) := by decide +kernel
theorem dX8_room_21 : decode cX8_room 21 = .ok (.ifCond .ne 5, 3) := by decide +kernel
theorem dX8_room_24 : decode cX8_room 24 = .ok (.iconst (-1), 1) := by decide +kernel
theorem dX8_room_25 : decode cX8_room 25 = .ok (.ireturn, 1) := by decide +kernel
theorem dX8_room_26 : decode cX8_room 26 = .ok (.iload_n 2, 1) := by decide +kernel
theorem dX8_room_27 : decode cX8_room 27 = .ok (.bipush 11, 2) := by decide +kernel
theorem dX8_room_29 : decode cX8_room 29 = .ok (.if_icmp .ne 15, 3) := by decide +kernel
theorem dX8_room_32 : decode cX8_room 32 = .ok (.aload_n 0, 1) := by decide +kernel
theorem dX8_room_33 : decode cX8_room 33 = .ok (.getfield 20, 3) := by decide +kernel
theorem dX8_room_36 : decode cX8_room 36 = .ok (.iload_n 1, 1) := by decide +kernel
theorem dX8_room_37 : decode cX8_room 37 = .ok (.iconst (-1), 1) := by decide +kernel
theorem dX8_room_38 : decode cX8_room 38 = .ok (.invokevirtual 165, 3) := by decide +kernel
theorem dX8_room_41 : decode cX8_room 41 = .ok (.goto 15, 3) := by decide +kernel
theorem dX8_room_44 : decode cX8_room 44 = .ok (.aload_n 0, 1) := by decide +kernel
theorem dX8_room_45 : decode cX8_room 45 = .ok (.getfield 20, 3) := by decide +kernel
theorem dX8_room_48 : decode cX8_room 48 = .ok (.getfield 141, 3) := by decide +kernel
theorem dX8_room_51 : decode cX8_room 51 = .ok (.iload_n 1, 1) := by decide +kernel
theorem dX8_room_52 : decode cX8_room 52 = .ok (.iload_n 2, 1) := by decide +kernel
theorem dX8_room_53 : decode cX8_room 53 = .ok (.invokevirtual 168, 3) := by decide +kernel
theorem dX8_room_56 : decode cX8_room 56 = .ok (.ireturn, 1) := by decide +kernel
theorem dX8_booking_0 : decode cX8_booking 0 = .ok (.aload_n 0, 1) := by decide +kernel
theorem dX8_booking_1 : decode cX8_booking 1 = .ok (.getfield 20, 3) := by decide +kernel
theorem dX8_booking_4 : decode cX8_booking 4 = .ok (.getfield 150, 3) := by decide +kernel
theorem dX8_booking_7 : decode cX8_booking 7 = .ok (.iload_n 1, 1) := by decide +kernel
theorem dX8_booking_8 : decode cX8_booking 8 = .ok (.invokevirtual 161, 3) := by decide +kernel
theorem dX8_booking_11 : decode cX8_booking 11 = .ok (.ifCond .eq 13, 3) := by decide +kernel
theorem dX8_booking_14 : decode cX8_booking 14 = .ok (.iload_n 2, 1) := by decide +kernel
theorem dX8_booking_15 : decode cX8_booking 15 = .ok (.iconst 0, 1) := by decide +kernel
theorem dX8_booking_16 : decode cX8_booking 16 = .ok (.bipush 10, 2) := by decide +kernel
theorem dX8_booking_18 : decode cX8_booking 18 = .ok (.invokestatic 88, 3) := by decide +kernel
theorem dX8_booking_21 : decode cX8_booking 21 = .ok (.ifCond .ne 5, 3) := by decide +kernel
theorem dX8_booking_24 : decode cX8_booking 24 = .ok (.iconst (-1), 1) := by decide +kernel
theorem dX8_booking_25 : decode cX8_booking 25 = .ok (.ireturn, 1) := by decide +kernel
theorem dX8_booking_26 : decode cX8_booking 26 = .ok (.iload_n 2, 1) := by decide +kernel
theorem dX8_booking_27 : decode cX8_booking 27 = .ok (.lookupswitch 43 #[(6, 25), (10, 34)], 25) := by decide +kernel
theorem dX8_booking_52 : decode cX8_booking 52 = .ok (.aload_n 0, 1) := by decide +kernel
theorem dX8_booking_53 : decode cX8_booking 53 = .ok (.getfield 20, 3) := by decide +kernel
theorem dX8_booking_56 : decode cX8_booking 56 = .ok (.iload_n 1, 1) := by decide +kernel
theorem dX8_booking_57 : decode cX8_booking 57 = .ok (.invokevirtual 171, 3) := by decide +kernel
theorem dX8_booking_60 : decode cX8_booking 60 = .ok (.ireturn, 1) := by decide +kernel
theorem dX8_booking_61 : decode cX8_booking 61 = .ok (.aload_n 0, 1) := by decide +kernel
theorem dX8_booking_62 : decode cX8_booking 62 = .ok (.getfield 20, 3) := by decide +kernel
theorem dX8_booking_65 : decode cX8_booking 65 = .ok (.iload_n 1, 1) := by decide +kernel
theorem dX8_booking_66 : decode cX8_booking 66 = .ok (.invokevirtual 174, 3) := by decide +kernel
theorem dX8_booking_69 : decode cX8_booking 69 = .ok (.ireturn, 1) := by decide +kernel
theorem dX8_booking_70 : decode cX8_booking 70 = .ok (.aload_n 0, 1) := by decide +kernel
theorem dX8_booking_71 : decode cX8_booking 71 = .ok (.getfield 20, 3) := by decide +kernel
theorem dX8_booking_74 : decode cX8_booking 74 = .ok (.getfield 150, 3) := by decide +kernel
theorem dX8_booking_77 : decode cX8_booking 77 = .ok (.iload_n 1, 1) := by decide +kernel
theorem dX8_booking_78 : decode cX8_booking 78 = .ok (.iload_n 2, 1) := by decide +kernel
theorem dX8_booking_79 : decode cX8_booking 79 = .ok (.invokevirtual 168, 3) := by decide +kernel
theorem dX8_booking_82 : decode cX8_booking 82 = .ok (.ireturn, 1) := by decide +kernel
theorem dX8_voucher_0 : decode cX8_voucher 0 = .ok (.aload_n 0, 1) := by decide +kernel
theorem dX8_voucher_1 : decode cX8_voucher 1 = .ok (.getfield 20, 3) := by decide +kernel
theorem dX8_voucher_4 : decode cX8_voucher 4 = .ok (.getfield 153, 3) := by decide +kernel
theorem dX8_voucher_7 : decode cX8_voucher 7 = .ok (.iload_n 1, 1) := by decide +kernel
theorem dX8_voucher_8 : decode cX8_voucher 8 = .ok (.invokevirtual 161, 3) := by decide +kernel
theorem dX8_voucher_11 : decode cX8_voucher 11 = .ok (.ifCond .eq 12, 3) := by decide +kernel
theorem dX8_voucher_14 : decode cX8_voucher 14 = .ok (.iload_n 2, 1) := by decide +kernel
theorem dX8_voucher_15 : decode cX8_voucher 15 = .ok (.iconst 0, 1) := by decide +kernel
theorem dX8_voucher_16 : decode cX8_voucher 16 = .ok (.iconst 2, 1) := by decide +kernel
theorem dX8_voucher_17 : decode cX8_voucher 17 = .ok (.invokestatic 88, 3) := by decide +kernel
theorem dX8_voucher_20 : decode cX8_voucher 20 = .ok (.ifCond .ne 5, 3) := by decide +kernel
theorem dX8_voucher_23 : decode cX8_voucher 23 = .ok (.iconst (-1), 1) := by decide +kernel
theorem dX8_voucher_24 : decode cX8_voucher 24 = .ok (.ireturn, 1) := by decide +kernel
theorem dX8_voucher_25 : decode cX8_voucher 25 = .ok (.iload_n 2, 1) := by decide +kernel
theorem dX8_voucher_26 : decode cX8_voucher 26 = .ok (.iconst 2, 1) := by decide +kernel
theorem dX8_voucher_27 : decode cX8_voucher 27 = .ok (.if_icmp .ne 14, 3) := by decide +kernel
theorem dX8_voucher_30 : decode cX8_voucher 30 = .ok (.aload_n 0, 1) := by decide +kernel
theorem dX8_voucher_31 : decode cX8_voucher 31 = .ok (.getfield 20, 3) := by decide +kernel
theorem dX8_voucher_34 : decode cX8_voucher 34 = .ok (.iload_n 1, 1) := by decide +kernel
theorem dX8_voucher_35 : decode cX8_voucher 35 = .ok (.invokevirtual 177, 3) := by decide +kernel
theorem dX8_voucher_38 : decode cX8_voucher 38 = .ok (.goto 15, 3) := by decide +kernel
theorem dX8_voucher_41 : decode cX8_voucher 41 = .ok (.aload_n 0, 1) := by decide +kernel
theorem dX8_voucher_42 : decode cX8_voucher 42 = .ok (.getfield 20, 3) := by decide +kernel
theorem dX8_voucher_45 : decode cX8_voucher 45 = .ok (.getfield 153, 3) := by decide +kernel
theorem dX8_voucher_48 : decode cX8_voucher 48 = .ok (.iload_n 1, 1) := by decide +kernel
theorem dX8_voucher_49 : decode cX8_voucher 49 = .ok (.iload_n 2, 1) := by decide +kernel
theorem dX8_voucher_50 : decode cX8_voucher 50 = .ok (.invokevirtual 168, 3) := by decide +kernel
theorem dX8_voucher_53 : decode cX8_voucher 53 = .ok (.ireturn, 1) := by decide +kernel
theorem dX8_money_0 : decode cX8_money 0 = .ok (.iload_n 1, 1) := by decide +kernel
theorem dX8_money_1 : decode cX8_money 1 = .ok (.tableswitch 124 0 6 #[43, 51, 63, 75, 88, 100, 112], 43) := by decide +kernel
theorem dX8_money_44 : decode cX8_money 44 = .ok (.aload_n 0, 1) := by decide +kernel
theorem dX8_money_45 : decode cX8_money 45 = .ok (.getfield 20, 3) := by decide +kernel
theorem dX8_money_48 : decode cX8_money 48 = .ok (.getfield 101, 3) := by decide +kernel
theorem dX8_money_51 : decode cX8_money 51 = .ok (.ireturn, 1) := by decide +kernel
theorem dX8_money_52 : decode cX8_money 52 = .ok (.aload_n 0, 1) := by decide +kernel
theorem dX8_money_53 : decode cX8_money 53 = .ok (.getfield 20, 3) := by decide +kernel
theorem dX8_money_56 : decode cX8_money 56 = .ok (.getfield 153, 3) := by decide +kernel
theorem dX8_money_59 : decode cX8_money 59 = .ok (.iconst 1, 1) := by decide +kernel
theorem dX8_money_60 : decode cX8_money 60 = .ok (.invokevirtual 180, 3) := by decide +kernel
theorem dX8_money_63 : decode cX8_money 63 = .ok (.ireturn, 1) := by decide +kernel
theorem dX8_money_64 : decode cX8_money 64 = .ok (.aload_n 0, 1) := by decide +kernel
theorem dX8_money_65 : decode cX8_money 65 = .ok (.getfield 20, 3) := by decide +kernel
theorem dX8_money_68 : decode cX8_money 68 = .ok (.getfield 150, 3) := by decide +kernel
theorem dX8_money_71 : decode cX8_money 71 = .ok (.iconst 4, 1) := by decide +kernel
theorem dX8_money_72 : decode cX8_money 72 = .ok (.invokevirtual 180, 3) := by decide +kernel
theorem dX8_money_75 : decode cX8_money 75 = .ok (.ireturn, 1) := by decide +kernel
theorem dX8_money_76 : decode cX8_money 76 = .ok (.aload_n 0, 1) := by decide +kernel
theorem dX8_money_77 : decode cX8_money 77 = .ok (.getfield 20, 3) := by decide +kernel
theorem dX8_money_80 : decode cX8_money 80 = .ok (.getfield 150, 3) := by decide +kernel
theorem dX8_money_83 : decode cX8_money 83 = .ok (.bipush 7, 2) := by decide +kernel
theorem dX8_money_85 : decode cX8_money 85 = .ok (.invokevirtual 180, 3) := by decide +kernel
theorem dX8_money_88 : decode cX8_money 88 = .ok (.ireturn, 1) := by decide +kernel
theorem dX8_money_89 : decode cX8_money 89 = .ok (.aload_n 0, 1) := by decide +kernel
theorem dX8_money_90 : decode cX8_money 90 = .ok (.getfield 20, 3) := by decide +kernel
theorem dX8_money_93 : decode cX8_money 93 = .ok (.getfield 150, 3) := by decide +kernel
theorem dX8_money_96 : decode cX8_money 96 = .ok (.iconst 5, 1) := by decide +kernel
theorem dX8_money_97 : decode cX8_money 97 = .ok (.invokevirtual 180, 3) := by decide +kernel
theorem dX8_money_100 : decode cX8_money 100 = .ok (.ireturn, 1) := by decide +kernel
theorem dX8_money_101 : decode cX8_money 101 = .ok (.aload_n 0, 1) := by decide +kernel
theorem dX8_money_102 : decode cX8_money 102 = .ok (.getfield 20, 3) := by decide +kernel
theorem dX8_money_105 : decode cX8_money 105 = .ok (.getfield 183, 3) := by decide +kernel
theorem dX8_money_108 : decode cX8_money 108 = .ok (.iconst 2, 1) := by decide +kernel
theorem dX8_money_109 : decode cX8_money 109 = .ok (.invokevirtual 180, 3) := by decide +kernel
theorem dX8_money_112 : decode cX8_money 112 = .ok (.ireturn, 1) := by decide +kernel
theorem dX8_money_113 : decode cX8_money 113 = .ok (.aload_n 0, 1) := by decide +kernel
theorem dX8_money_114 : decode cX8_money 114 = .ok (.getfield 20, 3) := by decide +kernel
theorem dX8_money_117 : decode cX8_money 117 = .ok (.getfield 153, 3) := by decide +kernel
theorem dX8_money_120 : decode cX8_money 120 = .ok (.iconst 0, 1) := by decide +kernel
theorem dX8_money_121 : decode cX8_money 121 = .ok (.invokevirtual 180, 3) := by decide +kernel
theorem dX8_money_124 : decode cX8_money 124 = .ok (.ireturn, 1) := by decide +kernel
theorem dX8_money_125 : decode cX8_money 125 = .ok (.iconst (-1), 1) := by decide +kernel
theorem dX8_money_126 : decode cX8_money 126 = .ok (.ireturn, 1) := by decide +kernel
theorem dX8_forecast_0 : decode cX8_forecast 0 = .ok (.aload_n 0, 1) := by decide +kernel
theorem dX8_forecast_1 : decode cX8_forecast 1 = .ok (.getfield 33, 3) := by decide +kernel
theorem dX8_forecast_4 : decode cX8_forecast 4 = .ok (.iload_n 1, 1) := by decide +kernel
theorem dX8_forecast_5 : decode cX8_forecast 5 = .ok (.iload_n 2, 1) := by decide +kernel
theorem dX8_forecast_6 : decode cX8_forecast 6 = .ok (.invokevirtual 186, 3) := by decide +kernel
theorem dX8_forecast_9 : decode cX8_forecast 9 = .ok (.ireturn, 1) := by decide +kernel
theorem dX8_freeTime_0 : decode cX8_freeTime 0 = .ok (.aload_n 0, 1) := by decide +kernel
theorem dX8_freeTime_1 : decode cX8_freeTime 1 = .ok (.getfield 33, 3) := by decide +kernel
theorem dX8_freeTime_4 : decode cX8_freeTime 4 = .ok (.iload_n 1, 1) := by decide +kernel
theorem dX8_freeTime_5 : decode cX8_freeTime 5 = .ok (.iload_n 2, 1) := by decide +kernel
theorem dX8_freeTime_6 : decode cX8_freeTime 6 = .ok (.invokevirtual 189, 3) := by decide +kernel
theorem dX8_freeTime_9 : decode cX8_freeTime 9 = .ok (.ireturn, 1) := by decide +kernel
theorem dX8_mergeable_0 : decode cX8_mergeable 0 = .ok (.aload_n 0, 1) := by decide +kernel
theorem dX8_mergeable_1 : decode cX8_mergeable 1 = .ok (.getfield 33, 3) := by decide +kernel
theorem dX8_mergeable_4 : decode cX8_mergeable 4 = .ok (.iload_n 1, 1) := by decide +kernel
theorem dX8_mergeable_5 : decode cX8_mergeable 5 = .ok (.iload_n 2, 1) := by decide +kernel
theorem dX8_mergeable_6 : decode cX8_mergeable 6 = .ok (.invokevirtual 192, 3) := by decide +kernel
theorem dX8_mergeable_9 : decode cX8_mergeable 9 = .ok (.ireturn, 1) := by decide +kernel
theorem dX8_slack_0 : decode cX8_slack 0 = .ok (.aload_n 0, 1) := by decide +kernel
theorem dX8_slack_1 : decode cX8_slack 1 = .ok (.getfield 33, 3) := by decide +kernel
theorem dX8_slack_4 : decode cX8_slack 4 = .ok (.iload_n 1, 1) := by decide +kernel
theorem dX8_slack_5 : decode cX8_slack 5 = .ok (.invokevirtual 195, 3) := by decide +kernel
theorem dX8_slack_8 : decode cX8_slack 8 = .ok (.ireturn, 1) := by decide +kernel
theorem dX8_hintsFor_0 : decode cX8_hintsFor 0 = .ok (.aload_n 0, 1) := by decide +kernel
theorem dX8_hintsFor_1 : decode cX8_hintsFor 1 = .ok (.getfield 33, 3) := by decide +kernel
theorem dX8_hintsFor_4 : decode cX8_hintsFor 4 = .ok (.iload_n 1, 1) := by decide +kernel
theorem dX8_hintsFor_5 : decode cX8_hintsFor 5 = .ok (.iload_n 2, 1) := by decide +kernel
theorem dX8_hintsFor_6 : decode cX8_hintsFor 6 = .ok (.invokevirtual 198, 3) := by decide +kernel
theorem dX8_hintsFor_9 : decode cX8_hintsFor 9 = .ok (.ireturn, 1) := by decide +kernel
theorem dX8_busiest_0 : decode cX8_busiest 0 = .ok (.aload_n 0, 1) := by decide +kernel
theorem dX8_busiest_1 : decode cX8_busiest 1 = .ok (.getfield 33, 3) := by decide +kernel
theorem dX8_busiest_4 : decode cX8_busiest 4 = .ok (.iload_n 1, 1) := by decide +kernel
theorem dX8_busiest_5 : decode cX8_busiest 5 = .ok (.invokevirtual 201, 3) := by decide +kernel
theorem dX8_busiest_8 : decode cX8_busiest 8 = .ok (.ireturn, 1) := by decide +kernel
theorem dX8_inRange_0 : decode cX8_inRange 0 = .ok (.iload_n 0, 1) := by decide +kernel
theorem dX8_inRange_1 : decode cX8_inRange 1 = .ok (.iload_n 1, 1) := by decide +kernel
theorem dX8_inRange_2 : decode cX8_inRange 2 = .ok (.if_icmp .lt 12, 3) := by decide +kernel
theorem dX8_inRange_5 : decode cX8_inRange 5 = .ok (.iload_n 0, 1) := by decide +kernel
theorem dX8_inRange_6 : decode cX8_inRange 6 = .ok (.iload_n 2, 1) := by decide +kernel
theorem dX8_inRange_7 : decode cX8_inRange 7 = .ok (.if_icmp .gt 7, 3) := by decide +kernel
theorem dX8_inRange_10 : decode cX8_inRange 10 = .ok (.iconst 1, 1) := by decide +kernel
theorem dX8_inRange_11 : decode cX8_inRange 11 = .ok (.goto 4, 3) := by decide +kernel
theorem dX8_inRange_14 : decode cX8_inRange 14 = .ok (.iconst 0, 1) := by decide +kernel
theorem dX8_inRange_15 : decode cX8_inRange 15 = .ok (.ireturn, 1) := by decide +kernel
theorem dX9_init_0 : decode cX9_init 0 = .ok (.aload_n 0, 1) := by decide +kernel
theorem dX9_init_1 : decode cX9_init 1 = .ok (.invokespecial 1, 3) := by decide +kernel
theorem dX9_init_4 : decode cX9_init 4 = .ok (.aload_n 0, 1) := by decide +kernel
theorem dX9_init_5 : decode cX9_init 5 = .ok (.sipush 1553, 3) := by decide +kernel
theorem dX9_init_8 : decode cX9_init 8 = .ok (.newarray .int, 2) := by decide +kernel
theorem dX9_init_10 : decode cX9_init 10 = .ok (.putfield 7, 3) := by decide +kernel
theorem dX9_init_13 : decode cX9_init 13 = .ok (.aload_n 0, 1) := by decide +kernel
theorem dX9_init_14 : decode cX9_init 14 = .ok (.sipush 7765, 3) := by decide +kernel
theorem dX9_init_17 : decode cX9_init 17 = .ok (.newarray .int, 2) := by decide +kernel
theorem dX9_init_19 : decode cX9_init 19 = .ok (.putfield 13, 3) := by decide +kernel
theorem dX9_init_22 : decode cX9_init 22 = .ok (.aload_n 0, 1) := by decide +kernel
theorem dX9_init_23 : decode cX9_init 23 = .ok (.sipush 1553, 3) := by decide +kernel
theorem dX9_init_26 : decode cX9_init 26 = .ok (.newarray .int, 2) := by decide +kernel
theorem dX9_init_28 : decode cX9_init 28 = .ok (.putfield 16, 3) := by decide +kernel
theorem dX9_init_31 : decode cX9_init 31 = .ok (.aload_n 0, 1) := by decide +kernel
theorem dX9_init_32 : decode cX9_init 32 = .ok (.sipush 140, 3) := by decide +kernel
theorem dX9_init_35 : decode cX9_init 35 = .ok (.newarray .int, 2) := by decide +kernel
theorem dX9_init_37 : decode cX9_init 37 = .ok (.putfield 19, 3) := by decide +kernel
theorem dX9_init_40 : decode cX9_init 40 = .ok (.aload_n 0, 1) := by decide +kernel
theorem dX9_init_41 : decode cX9_init 41 = .ok (.iconst 4, 1) := by decide +kernel
theorem dX9_init_42 : decode cX9_init 42 = .ok (.newarray .int, 2) := by decide +kernel
theorem dX9_init_44 : decode cX9_init 44 = .ok (.putfield 22, 3) := by decide +kernel
theorem dX9_init_47 : decode cX9_init 47 = .ok (.aload_n 0, 1) := by decide +kernel
theorem dX9_init_48 : decode cX9_init 48 = .ok (.getfield 7, 3) := by decide +kernel
theorem dX9_init_51 : decode cX9_init 51 = .ok (.iconst 4, 1) := by decide +kernel
theorem dX9_init_52 : decode cX9_init 52 = .ok (.iconst 2, 1) := by decide +kernel
theorem dX9_init_53 : decode cX9_init 53 = .ok (.iastore, 1) := by decide +kernel
theorem dX9_init_54 : decode cX9_init 54 = .ok (.aload_n 0, 1) := by decide +kernel
theorem dX9_init_55 : decode cX9_init 55 = .ok (.getfield 7, 3) := by decide +kernel
theorem dX9_init_58 : decode cX9_init 58 = .ok (.iconst 5, 1) := by decide +kernel
theorem dX9_init_59 : decode cX9_init 59 = .ok (.bipush 10, 2) := by decide +kernel
theorem dX9_init_61 : decode cX9_init 61 = .ok (.iastore, 1) := by decide +kernel
theorem dX9_init_62 : decode cX9_init 62 = .ok (.aload_n 0, 1) := by decide +kernel
theorem dX9_init_63 : decode cX9_init 63 = .ok (.getfield 7, 3) := by decide +kernel
theorem dX9_init_66 : decode cX9_init 66 = .ok (.bipush 6, 2) := by decide +kernel
theorem dX9_init_68 : decode cX9_init 68 = .ok (.iconst 5, 1) := by decide +kernel
theorem dX9_init_69 : decode cX9_init 69 = .ok (.iastore, 1) := by decide +kernel
theorem dX9_init_70 : decode cX9_init 70 = .ok (.aload_n 0, 1) := by decide +kernel
theorem dX9_init_71 : decode cX9_init 71 = .ok (.getfield 7, 3) := by decide +kernel
theorem dX9_init_74 : decode cX9_init 74 = .ok (.bipush 7, 2) := by decide +kernel
theorem dX9_init_76 : decode cX9_init 76 = .ok (.bipush 15, 2) := by decide +kernel
theorem dX9_init_78 : decode cX9_init 78 = .ok (.iastore, 1) := by decide +kernel
theorem dX9_init_79 : decode cX9_init 79 = .ok (.aload_n 0, 1) := by decide +kernel
theorem dX9_init_80 : decode cX9_init 80 = .ok (.getfield 7, 3) := by decide +kernel
theorem dX9_init_83 : decode cX9_init 83 = .ok (.bipush 8, 2) := by decide +kernel
theorem dX9_init_85 : decode cX9_init 85 = .ok (.bipush 20, 2) := by decide +kernel
theorem dX9_init_87 : decode cX9_init 87 = .ok (.iastore, 1) := by decide +kernel
theorem dX9_init_88 : decode cX9_init 88 = .ok (.return_, 1) := by decide +kernel
theorem dX9_in_0 : decode cX9_in 0 = .ok (.iload_n 0, 1) := by decide +kernel
theorem dX9_in_1 : decode cX9_in 1 = .ok (.iload_n 1, 1) := by decide +kernel
theorem dX9_in_2 : decode cX9_in 2 = .ok (.if_icmp .lt 12, 3) := by decide +kernel
theorem dX9_in_5 : decode cX9_in 5 = .ok (.iload_n 0, 1) := by decide +kernel
theorem dX9_in_6 : decode cX9_in 6 = .ok (.iload_n 2, 1) := by decide +kernel
theorem dX9_in_7 : decode cX9_in 7 = .ok (.if_icmp .gt 7, 3) := by decide +kernel
theorem dX9_in_10 : decode cX9_in 10 = .ok (.iconst 1, 1) := by decide +kernel
theorem dX9_in_11 : decode cX9_in 11 = .ok (.goto 4, 3) := by decide +kernel
theorem dX9_in_14 : decode cX9_in 14 = .ok (.iconst 0, 1) := by decide +kernel
theorem dX9_in_15 : decode cX9_in 15 = .ok (.ireturn, 1) := by decide +kernel
theorem dX9_lesser_0 : decode cX9_lesser 0 = .ok (.iload_n 0, 1) := by decide +kernel
theorem dX9_lesser_1 : decode cX9_lesser 1 = .ok (.iload_n 1, 1) := by decide +kernel
theorem dX9_lesser_2 : decode cX9_lesser 2 = .ok (.if_icmp .ge 7, 3) := by decide +kernel
theorem dX9_lesser_5 : decode cX9_lesser 5 = .ok (.iload_n 0, 1) := by decide +kernel
theorem dX9_lesser_6 : decode cX9_lesser 6 = .ok (.goto 4, 3) := by decide +kernel
theorem dX9_lesser_9 : decode cX9_lesser 9 = .ok (.iload_n 1, 1) := by decide +kernel
theorem dX9_lesser_10 : decode cX9_lesser 10 = .ok (.ireturn, 1) := by decide +kernel
theorem dX9_greater_0 : decode cX9_greater 0 = .ok (.iload_n 0, 1) := by decide +kernel
theorem dX9_greater_1 : decode cX9_greater 1 = .ok (.iload_n 1, 1) := by decide +kernel
theorem dX9_greater_2 : decode cX9_greater 2 = .ok (.if_icmp .le 7, 3) := by decide +kernel
theorem dX9_greater_5 : decode cX9_greater 5 = .ok (.iload_n 0, 1) := by decide +kernel
theorem dX9_greater_6 : decode cX9_greater 6 = .ok (.goto 4, 3) := by decide +kernel
theorem dX9_greater_9 : decode cX9_greater 9 = .ok (.iload_n 1, 1) := by decide +kernel
theorem dX9_greater_10 : decode cX9_greater 10 = .ok (.ireturn, 1) := by decide +kernel
theorem dX9_hold_0 : decode cX9_hold 0 = .ok (.iconst 0, 1) := by decide +kernel
theorem dX9_hold_1 : decode cX9_hold 1 = .ok (.istore_n 1, 1) := by decide +kernel
theorem dX9_hold_2 : decode cX9_hold 2 = .ok (.iload_n 1, 1) := by decide +kernel
theorem dX9_hold_3 : decode cX9_hold 3 = .ok (.sipush 1553, 3) := by decide +kernel
theorem dX9_hold_6 : decode cX9_hold 6 = .ok (.if_icmp .ge 21, 3) := by decide +kernel
theorem dX9_hold_9 : decode cX9_hold 9 = .ok (.aload_n 0, 1) := by decide +kernel
theorem dX9_hold_10 : decode cX9_hold 10 = .ok (.getfield 16, 3) := by decide +kernel
theorem dX9_hold_13 : decode cX9_hold 13 = .ok (.iload_n 1, 1) := by decide +kernel
theorem dX9_hold_14 : decode cX9_hold 14 = .ok (.aload_n 0, 1) := by decide +kernel
theorem dX9_hold_15 : decode cX9_hold 15 = .ok (.getfield 7, 3) := by decide +kernel
theorem dX9_hold_18 : decode cX9_hold 18 = .ok (.iload_n 1, 1) := by decide +kernel
theorem dX9_hold_19 : decode cX9_hold 19 = .ok (.iaload, 1) := by decide +kernel
theorem dX9_hold_20 : decode cX9_hold 20 = .ok (.iastore, 1) := by decide +kernel
theorem dX9_hold_21 : decode cX9_hold 21 = .ok (.iinc 1 1, 3) := by decide +kernel
theorem dX9_hold_24 : decode cX9_hold 24 = .ok (.goto (-22), 3) := by decide +kernel
theorem dX9_hold_27 : decode cX9_hold 27 = .ok (.return_, 1) := by decide +kernel
theorem dX9_lets_0 : decode cX9_lets 0 = .ok (.iconst 0, 1) := by decide +kernel
theorem dX9_lets_1 : decode cX9_lets 1 = .ok (.istore_n 1, 1) := by decide +kernel
theorem dX9_lets_2 : decode cX9_lets 2 = .ok (.iload_n 1, 1) := by decide +kernel
theorem dX9_lets_3 : decode cX9_lets 3 = .ok (.sipush 1553, 3) := by decide +kernel
theorem dX9_lets_6 : decode cX9_lets 6 = .ok (.if_icmp .ge 21, 3) := by decide +kernel
theorem dX9_lets_9 : decode cX9_lets 9 = .ok (.aload_n 0, 1) := by decide +kernel
theorem dX9_lets_10 : decode cX9_lets 10 = .ok (.getfield 7, 3) := by decide +kernel
theorem dX9_lets_13 : decode cX9_lets 13 = .ok (.iload_n 1, 1) := by decide +kernel
theorem dX9_lets_14 : decode cX9_lets 14 = .ok (.aload_n 0, 1) := by decide +kernel
theorem dX9_lets_15 : decode cX9_lets 15 = .ok (.getfield 16, 3) := by decide +kernel
theorem dX9_lets_18 : decode cX9_lets 18 = .ok (.iload_n 1, 1) := by decide +kernel
theorem dX9_lets_19 : decode cX9_lets 19 = .ok (.iaload, 1) := by decide +kernel
theorem dX9_lets_20 : decode cX9_lets 20 = .ok (.iastore, 1) := by decide +kernel
theorem dX9_lets_21 : decode cX9_lets 21 = .ok (.iinc 1 1, 3) := by decide +kernel
theorem dX9_lets_24 : decode cX9_lets 24 = .ok (.goto (-22), 3) := by decide +kernel
theorem dX9_lets_27 : decode cX9_lets 27 = .ok (.return_, 1) := by decide +kernel
theorem dX9_ends_0 : decode cX9_ends 0 = .ok (.iload_n 1, 1) := by decide +kernel
theorem dX9_ends_1 : decode cX9_ends 1 = .ok (.ifCond .ge 5, 3) := by decide +kernel
theorem dX9_ends_4 : decode cX9_ends 4 = .ok (.iload_n 1, 1) := by decide +kernel
theorem dX9_ends_5 : decode cX9_ends 5 = .ok (.ireturn, 1) := by decide +kernel
theorem dX9_ends_6 : decode cX9_ends 6 = .ok (.aload_n 0, 1) := by decide +kernel
theorem dX9_ends_7 : decode cX9_ends 7 = .ok (.getfield 25, 3) := by decide +kernel
theorem dX9_ends_10 : decode cX9_ends 10 = .ok (.iconst 5, 1) := by decide +kernel
theorem dX9_ends_11 : decode cX9_ends 11 = .ok (.if_icmp .ne 44, 3) := by decide +kernel
theorem dX9_ends_14 : decode cX9_ends 14 = .ok (.iconst 0, 1) := by decide +kernel
theorem dX9_ends_15 : decode cX9_ends 15 = .ok (.istore_n 2, 1) := by decide +kernel
theorem dX9_ends_16 : decode cX9_ends 16 = .ok (.iload_n 2, 1) := by decide +kernel
theorem dX9_ends_17 : decode cX9_ends 17 = .ok (.sipush 6212, 3) := by decide +kernel
theorem dX9_ends_20 : decode cX9_ends 20 = .ok (.if_icmp .ge 25, 3) := by decide +kernel
theorem dX9_ends_23 : decode cX9_ends 23 = .ok (.aload_n 0, 1) := by decide +kernel
theorem dX9_ends_24 : decode cX9_ends 24 = .ok (.getfield 13, 3) := by decide +kernel
theorem dX9_ends_27 : decode cX9_ends 27 = .ok (.iload_n 2, 1) := by decide +kernel
theorem dX9_ends_28 : decode cX9_ends 28 = .ok (.aload_n 0, 1) := by decide +kernel
theorem dX9_ends_29 : decode cX9_ends 29 = .ok (.getfield 13, 3) := by decide +kernel
theorem dX9_ends_32 : decode cX9_ends 32 = .ok (.iload_n 2, 1) := by decide +kernel
theorem dX9_ends_33 : decode cX9_ends 33 = .ok (.sipush 1553, 3) := by decide +kernel
theorem dX9_ends_36 : decode cX9_ends 36 = .ok (.iadd, 1) := by decide +kernel
theorem dX9_ends_37 : decode cX9_ends 37 = .ok (.iaload, 1) := by decide +kernel
theorem dX9_ends_38 : decode cX9_ends 38 = .ok (.iastore, 1) := by decide +kernel
theorem dX9_ends_39 : decode cX9_ends 39 = .ok (.iinc 2 1, 3) := by decide +kernel
theorem dX9_ends_42 : decode cX9_ends 42 = .ok (.goto (-26), 3) := by decide +kernel
theorem dX9_ends_45 : decode cX9_ends 45 = .ok (.aload_n 0, 1) := by decide +kernel
theorem dX9_ends_46 : decode cX9_ends 46 = .ok (.dup, 1) := by decide +kernel
theorem dX9_ends_47 : decode cX9_ends 47 = .ok (.getfield 25, 3) := by decide +kernel
theorem dX9_ends_50 : decode cX9_ends 50 = .ok (.iconst 1, 1) := by decide +kernel
theorem dX9_ends_51 : decode cX9_ends 51 = .ok (.isub, 1) := by decide +kernel
theorem dX9_ends_52 : decode cX9_ends 52 = .ok (.putfield 25, 3) := by decide +kernel
theorem dX9_ends_55 : decode cX9_ends 55 = .ok (.iconst 0, 1) := by decide +kernel
theorem dX9_ends_56 : decode cX9_ends 56 = .ok (.istore_n 2, 1) := by decide +kernel
theorem dX9_ends_57 : decode cX9_ends 57 = .ok (.iload_n 2, 1) := by decide +kernel
theorem dX9_ends_58 : decode cX9_ends 58 = .ok (.sipush 1553, 3) := by decide +kernel
theorem dX9_ends_61 : decode cX9_ends 61 = .ok (.if_icmp .ge 30, 3) := by decide +kernel
theorem dX9_ends_64 : decode cX9_ends 64 = .ok (.aload_n 0, 1) := by decide +kernel
theorem dX9_ends_65 : decode cX9_ends 65 = .ok (.getfield 13, 3) := by decide +kernel
theorem dX9_ends_68 : decode cX9_ends 68 = .ok (.sipush 1553, 3) := by decide +kernel
theorem dX9_ends_71 : decode cX9_ends 71 = .ok (.aload_n 0, 1) := by decide +kernel
theorem dX9_ends_72 : decode cX9_ends 72 = .ok (.getfield 25, 3) := by decide +kernel
theorem dX9_ends_75 : decode cX9_ends 75 = .ok (.imul, 1) := by decide +kernel
theorem dX9_ends_76 : decode cX9_ends 76 = .ok (.iload_n 2, 1) := by decide +kernel
theorem dX9_ends_77 : decode cX9_ends 77 = .ok (.iadd, 1) := by decide +kernel
theorem dX9_ends_78 : decode cX9_ends 78 = .ok (.aload_n 0, 1) := by decide +kernel
theorem dX9_ends_79 : decode cX9_ends 79 = .ok (.getfield 16, 3) := by decide +kernel
theorem dX9_ends_82 : decode cX9_ends 82 = .ok (.iload_n 2, 1) := by decide +kernel
theorem dX9_ends_83 : decode cX9_ends 83 = .ok (.iaload, 1) := by decide +kernel
theorem dX9_ends_84 : decode cX9_ends 84 = .ok (.iastore, 1) := by decide +kernel
theorem dX9_ends_85 : decode cX9_ends 85 = .ok (.iinc 2 1, 3) := by decide +kernel
theorem dX9_ends_88 : decode cX9_ends 88 = .ok (.goto (-31), 3) := by decide +kernel
theorem dX9_ends_91 : decode cX9_ends 91 = .ok (.aload_n 0, 1) := by decide +kernel
theorem dX9_ends_92 : decode cX9_ends 92 = .ok (.dup, 1) := by decide +kernel
theorem dX9_ends_93 : decode cX9_ends 93 = .ok (.getfield 25, 3) := by decide +kernel
theorem dX9_ends_96 : decode cX9_ends 96 = .ok (.iconst 1, 1) := by decide +kernel
theorem dX9_ends_97 : decode cX9_ends 97 = .ok (.iadd, 1) := by decide +kernel
theorem dX9_ends_98 : decode cX9_ends 98 = .ok (.putfield 25, 3) := by decide +kernel
theorem dX9_ends_101 : decode cX9_ends 101 = .ok (.iload_n 1, 1) := by decide +kernel
theorem dX9_ends_102 : decode cX9_ends 102 = .ok (.ireturn, 1) := by decide +kernel
theorem dX9_isRoom_0 : decode cX9_isRoom 0 = .ok (.iload_n 1, 1) := by decide +kernel
theorem dX9_isRoom_1 : decode cX9_isRoom 1 = .ok (.ifCond .lt 17, 3) := by decide +kernel
theorem dX9_isRoom_4 : decode cX9_isRoom 4 = .ok (.iload_n 1, 1) := by decide +kernel
theorem dX9_isRoom_5 : decode cX9_isRoom 5 = .ok (.aload_n 0, 1) := by decide +kernel
theorem dX9_isRoom_6 : decode cX9_isRoom 6 = .ok (.getfield 7, 3) := by decide +kernel
theorem dX9_isRoom_9 : decode cX9_isRoom 9 = .ok (.iconst 0, 1) := by decide +kernel
theorem dX9_isRoom_10 : decode cX9_isRoom 10 = .ok (.iaload, 1) := by decide +kernel
theorem dX9_isRoom_11 : decode cX9_isRoom 11 = .ok (.if_icmp .ge 7, 3) := by decide +kernel
theorem dX9_isRoom_14 : decode cX9_isRoom 14 = .ok (.iconst 1, 1) := by decide +kernel
theorem dX9_isRoom_15 : decode cX9_isRoom 15 = .ok (.goto 4, 3) := by decide +kernel
theorem dX9_isRoom_18 : decode cX9_isRoom 18 = .ok (.iconst 0, 1) := by decide +kernel
theorem dX9_isRoom_19 : decode cX9_isRoom 19 = .ok (.ireturn, 1) := by decide +kernel
theorem dX9_isBooking_0 : decode cX9_isBooking 0 = .ok (.iload_n 1, 1) := by decide +kernel
theorem dX9_isBooking_1 : decode cX9_isBooking 1 = .ok (.ifCond .lt 17, 3) := by decide +kernel
theorem dX9_isBooking_4 : decode cX9_isBooking 4 = .ok (.iload_n 1, 1) := by decide +kernel
theorem dX9_isBooking_5 : decode cX9_isBooking 5 = .ok (.aload_n 0, 1) := by decide +kernel
theorem dX9_isBooking_6 : decode cX9_isBooking 6 = .ok (.getfield 7, 3) := by decide +kernel
theorem dX9_isBooking_9 : decode cX9_isBooking 9 = .ok (.iconst 1, 1) := by decide +kernel
theorem dX9_isBooking_10 : decode cX9_isBooking 10 = .ok (.iaload, 1) := by decide +kernel
theorem dX9_isBooking_11 : decode cX9_isBooking 11 = .ok (.if_icmp .ge 7, 3) := by decide +kernel
theorem dX9_isBooking_14 : decode cX9_isBooking 14 = .ok (.iconst 1, 1) := by decide +kernel
theorem dX9_isBooking_15 : decode cX9_isBooking 15 = .ok (.goto 4, 3) := by decide +kernel
theorem dX9_isBooking_18 : decode cX9_isBooking 18 = .ok (.iconst 0, 1) := by decide +kernel
theorem dX9_isBooking_19 : decode cX9_isBooking 19 = .ok (.ireturn, 1) := by decide +kernel
theorem dX9_isVoucher_0 : decode cX9_isVoucher 0 = .ok (.iload_n 1, 1) := by decide +kernel
theorem dX9_isVoucher_1 : decode cX9_isVoucher 1 = .ok (.ifCond .lt 17, 3) := by decide +kernel
theorem dX9_isVoucher_4 : decode cX9_isVoucher 4 = .ok (.iload_n 1, 1) := by decide +kernel
theorem dX9_isVoucher_5 : decode cX9_isVoucher 5 = .ok (.aload_n 0, 1) := by decide +kernel
theorem dX9_isVoucher_6 : decode cX9_isVoucher 6 = .ok (.getfield 7, 3) := by decide +kernel
theorem dX9_isVoucher_9 : decode cX9_isVoucher 9 = .ok (.iconst 2, 1) := by decide +kernel
theorem dX9_isVoucher_10 : decode cX9_isVoucher 10 = .ok (.iaload, 1) := by decide +kernel
