theorem dX9_isNumber_97 : decode cX9_isNumber 97 = .ok (.isub, 1) := by decide +kernel
theorem dX9_isNumber_98 : decode cX9_isNumber 98 = .ok (.iconst 1, 1) := by decide +kernel
theorem dX9_isNumber_99 : decode cX9_isNumber 99 = .ok (.if_icmp .eq 17, 3) := by decide +kernel
theorem dX9_isNumber_102 : decode cX9_isNumber 102 = .ok (.aload_n 0, 1) := by decide +kernel
theorem dX9_isNumber_103 : decode cX9_isNumber 103 = .ok (.getfield 19, 3) := by decide +kernel
theorem dX9_isNumber_106 : decode cX9_isNumber 106 = .ok (.aload_n 0, 1) := by decide +kernel
theorem dX9_isNumber_107 : decode cX9_isNumber 107 = .ok (.getfield 124, 3) := by decide +kernel
theorem dX9_isNumber_110 : decode cX9_isNumber 110 = .ok (.iaload, 1) := by decide +kernel
theorem dX9_isNumber_111 : decode cX9_isNumber 111 = .ok (.bipush 48, 2) := by decide +kernel
theorem dX9_isNumber_113 : decode cX9_isNumber 113 = .ok (.if_icmp .eq 7, 3) := by decide +kernel
theorem dX9_isNumber_116 : decode cX9_isNumber 116 = .ok (.iconst 1, 1) := by decide +kernel
theorem dX9_isNumber_117 : decode cX9_isNumber 117 = .ok (.goto 4, 3) := by decide +kernel
theorem dX9_isNumber_120 : decode cX9_isNumber 120 = .ok (.iconst 0, 1) := by decide +kernel
theorem dX9_isNumber_121 : decode cX9_isNumber 121 = .ok (.ireturn, 1) := by decide +kernel
theorem dX9_isStop_0 : decode cX9_isStop 0 = .ok (.aload_n 0, 1) := by decide +kernel
theorem dX9_isStop_1 : decode cX9_isStop 1 = .ok (.invokevirtual 141, 3) := by decide +kernel
theorem dX9_isStop_4 : decode cX9_isStop 4 = .ok (.aload_n 0, 1) := by decide +kernel
theorem dX9_isStop_5 : decode cX9_isStop 5 = .ok (.bipush 59, 2) := by decide +kernel
theorem dX9_isStop_7 : decode cX9_isStop 7 = .ok (.bipush 59, 2) := by decide +kernel
theorem dX9_isStop_9 : decode cX9_isStop 9 = .ok (.invokevirtual 120, 3) := by decide +kernel
theorem dX9_isStop_12 : decode cX9_isStop 12 = .ok (.istore_n 1, 1) := by decide +kernel
theorem dX9_isStop_13 : decode cX9_isStop 13 = .ok (.aload_n 0, 1) := by decide +kernel
theorem dX9_isStop_14 : decode cX9_isStop 14 = .ok (.dup, 1) := by decide +kernel
theorem dX9_isStop_15 : decode cX9_isStop 15 = .ok (.getfield 117, 3) := by decide +kernel
theorem dX9_isStop_18 : decode cX9_isStop 18 = .ok (.iload_n 1, 1) := by decide +kernel
theorem dX9_isStop_19 : decode cX9_isStop 19 = .ok (.ifCond .eq 7, 3) := by decide +kernel
theorem dX9_isStop_22 : decode cX9_isStop 22 = .ok (.iconst 1, 1) := by decide +kernel
theorem dX9_isStop_23 : decode cX9_isStop 23 = .ok (.goto 4, 3) := by decide +kernel
theorem dX9_isStop_26 : decode cX9_isStop 26 = .ok (.iconst 0, 1) := by decide +kernel
theorem dX9_isStop_27 : decode cX9_isStop 27 = .ok (.iadd, 1) := by decide +kernel
theorem dX9_isStop_28 : decode cX9_isStop 28 = .ok (.putfield 117, 3) := by decide +kernel
theorem dX9_isStop_31 : decode cX9_isStop 31 = .ok (.iload_n 1, 1) := by decide +kernel
theorem dX9_isStop_32 : decode cX9_isStop 32 = .ok (.ireturn, 1) := by decide +kernel
theorem dX9_does_0 : decode cX9_does 0 = .ok (.aload_n 0, 1) := by decide +kernel
theorem dX9_does_1 : decode cX9_does 1 = .ok (.getfield 22, 3) := by decide +kernel
theorem dX9_does_4 : decode cX9_does 4 = .ok (.iconst 0, 1) := by decide +kernel
theorem dX9_does_5 : decode cX9_does 5 = .ok (.iaload, 1) := by decide +kernel
theorem dX9_does_6 : decode cX9_does 6 = .ok (.istore_n 1, 1) := by decide +kernel
theorem dX9_does_7 : decode cX9_does 7 = .ok (.aload_n 0, 1) := by decide +kernel
theorem dX9_does_8 : decode cX9_does 8 = .ok (.getfield 22, 3) := by decide +kernel
theorem dX9_does_11 : decode cX9_does 11 = .ok (.iconst 1, 1) := by decide +kernel
theorem dX9_does_12 : decode cX9_does 12 = .ok (.iaload, 1) := by decide +kernel
theorem dX9_does_13 : decode cX9_does 13 = .ok (.istore_n 2, 1) := by decide +kernel
theorem dX9_does_14 : decode cX9_does 14 = .ok (.aload_n 0, 1) := by decide +kernel
theorem dX9_does_15 : decode cX9_does 15 = .ok (.getfield 22, 3) := by decide +kernel
theorem dX9_does_18 : decode cX9_does 18 = .ok (.iconst 2, 1) := by decide +kernel
theorem dX9_does_19 : decode cX9_does 19 = .ok (.iaload, 1) := by decide +kernel
theorem dX9_does_20 : decode cX9_does 20 = .ok (.istore_n 3, 1) := by decide +kernel
theorem dX9_does_21 : decode cX9_does 21 = .ok (.aload_n 0, 1) := by decide +kernel
theorem dX9_does_22 : decode cX9_does 22 = .ok (.getfield 22, 3) := by decide +kernel
theorem dX9_does_25 : decode cX9_does 25 = .ok (.iconst 3, 1) := by decide +kernel
theorem dX9_does_26 : decode cX9_does 26 = .ok (.iaload, 1) := by decide +kernel
theorem dX9_does_27 : decode cX9_does 27 = .ok (.istore 4, 2) := by decide +kernel
theorem dX9_does_29 : decode cX9_does 29 = .ok (.aload_n 0, 1) := by decide +kernel
theorem dX9_does_30 : decode cX9_does 30 = .ok (.getfield 144, 3) := by decide +kernel
theorem dX9_does_33 : decode cX9_does 33 = .ok (.ldc2_w 127, 3) := by decide +kernel
theorem dX9_does_36 : decode cX9_does 36 = .ok (.lcmp, 1) := by decide +kernel
theorem dX9_does_37 : decode cX9_does 37 = .ok (.ifCond .ne 13, 3) := by decide +kernel
theorem dX9_does_40 : decode cX9_does 40 = .ok (.aload_n 0, 1) := by decide +kernel
theorem dX9_does_41 : decode cX9_does 41 = .ok (.iload_n 1, 1) := by decide +kernel
theorem dX9_does_42 : decode cX9_does 42 = .ok (.iload_n 2, 1) := by decide +kernel
theorem dX9_does_43 : decode cX9_does 43 = .ok (.iload_n 3, 1) := by decide +kernel
theorem dX9_does_44 : decode cX9_does 44 = .ok (.iload 4, 2) := by decide +kernel
theorem dX9_does_46 : decode cX9_does 46 = .ok (.invokevirtual 36, 3) := by decide +kernel
theorem dX9_does_49 : decode cX9_does 49 = .ok (.ireturn, 1) := by decide +kernel
theorem dX9_does_50 : decode cX9_does 50 = .ok (.aload_n 0, 1) := by decide +kernel
theorem dX9_does_51 : decode cX9_does 51 = .ok (.getfield 144, 3) := by decide +kernel
theorem dX9_does_54 : decode cX9_does 54 = .ok (.ldc2_w 137, 3) := by decide +kernel
theorem dX9_does_57 : decode cX9_does 57 = .ok (.lcmp, 1) := by decide +kernel
theorem dX9_does_58 : decode cX9_does 58 = .ok (.ifCond .ne 9, 3) := by decide +kernel
theorem dX9_does_61 : decode cX9_does 61 = .ok (.aload_n 0, 1) := by decide +kernel
theorem dX9_does_62 : decode cX9_does 62 = .ok (.iload_n 1, 1) := by decide +kernel
theorem dX9_does_63 : decode cX9_does 63 = .ok (.invokevirtual 55, 3) := by decide +kernel
theorem dX9_does_66 : decode cX9_does 66 = .ok (.ireturn, 1) := by decide +kernel
theorem dX9_does_67 : decode cX9_does 67 = .ok (.aload_n 0, 1) := by decide +kernel
theorem dX9_does_68 : decode cX9_does 68 = .ok (.getfield 144, 3) := by decide +kernel
theorem dX9_does_71 : decode cX9_does 71 = .ok (.ldc2_w 133, 3) := by decide +kernel
theorem dX9_does_74 : decode cX9_does 74 = .ok (.lcmp, 1) := by decide +kernel
theorem dX9_does_75 : decode cX9_does 75 = .ok (.ifCond .eq 14, 3) := by decide +kernel
theorem dX9_does_78 : decode cX9_does 78 = .ok (.aload_n 0, 1) := by decide +kernel
theorem dX9_does_79 : decode cX9_does 79 = .ok (.getfield 144, 3) := by decide +kernel
theorem dX9_does_82 : decode cX9_does 82 = .ok (.ldc2_w 129, 3) := by decide +kernel
theorem dX9_does_85 : decode cX9_does 85 = .ok (.lcmp, 1) := by decide +kernel
theorem dX9_does_86 : decode cX9_does 86 = .ok (.ifCond .ne 28, 3) := by decide +kernel
theorem dX9_does_89 : decode cX9_does 89 = .ok (.aload_n 0, 1) := by decide +kernel
theorem dX9_does_90 : decode cX9_does 90 = .ok (.iload_n 1, 1) := by decide +kernel
theorem dX9_does_91 : decode cX9_does 91 = .ok (.iload_n 2, 1) := by decide +kernel
theorem dX9_does_92 : decode cX9_does 92 = .ok (.iload_n 3, 1) := by decide +kernel
theorem dX9_does_93 : decode cX9_does 93 = .ok (.aload_n 0, 1) := by decide +kernel
theorem dX9_does_94 : decode cX9_does 94 = .ok (.getfield 144, 3) := by decide +kernel
theorem dX9_does_97 : decode cX9_does 97 = .ok (.ldc2_w 129, 3) := by decide +kernel
theorem dX9_does_100 : decode cX9_does 100 = .ok (.lcmp, 1) := by decide +kernel
theorem dX9_does_101 : decode cX9_does 101 = .ok (.ifCond .ne 8, 3) := by decide +kernel
theorem dX9_does_104 : decode cX9_does 104 = .ok (.iload 4, 2) := by decide +kernel
theorem dX9_does_106 : decode cX9_does 106 = .ok (.goto 4, 3) := by decide +kernel
theorem dX9_does_109 : decode cX9_does 109 = .ok (.iconst (-1), 1) := by decide +kernel
theorem dX9_does_110 : decode cX9_does 110 = .ok (.invokevirtual 74, 3) := by decide +kernel
theorem dX9_does_113 : decode cX9_does 113 = .ok (.ireturn, 1) := by decide +kernel
theorem dX9_does_114 : decode cX9_does 114 = .ok (.aload_n 0, 1) := by decide +kernel
theorem dX9_does_115 : decode cX9_does 115 = .ok (.getfield 144, 3) := by decide +kernel
theorem dX9_does_118 : decode cX9_does 118 = .ok (.ldc2_w 131, 3) := by decide +kernel
theorem dX9_does_121 : decode cX9_does 121 = .ok (.lcmp, 1) := by decide +kernel
theorem dX9_does_122 : decode cX9_does 122 = .ok (.ifCond .ne 15, 3) := by decide +kernel
theorem dX9_does_125 : decode cX9_does 125 = .ok (.aload_n 0, 1) := by decide +kernel
theorem dX9_does_126 : decode cX9_does 126 = .ok (.iload_n 1, 1) := by decide +kernel
theorem dX9_does_127 : decode cX9_does 127 = .ok (.iload_n 2, 1) := by decide +kernel
theorem dX9_does_128 : decode cX9_does 128 = .ok (.iload_n 3, 1) := by decide +kernel
theorem dX9_does_129 : decode cX9_does 129 = .ok (.iload 4, 2) := by decide +kernel
theorem dX9_does_131 : decode cX9_does 131 = .ok (.invokevirtual 111, 3) := by decide +kernel
theorem dX9_does_134 : decode cX9_does 134 = .ok (.goto 28, 3) := by decide +kernel
theorem dX9_does_137 : decode cX9_does 137 = .ok (.aload_n 0, 1) := by decide +kernel
theorem dX9_does_138 : decode cX9_does 138 = .ok (.getfield 144, 3) := by decide +kernel
theorem dX9_does_141 : decode cX9_does 141 = .ok (.ldc2_w 139, 3) := by decide +kernel
theorem dX9_does_144 : decode cX9_does 144 = .ok (.lcmp, 1) := by decide +kernel
theorem dX9_does_145 : decode cX9_does 145 = .ok (.ifCond .ne 11, 3) := by decide +kernel
theorem dX9_does_148 : decode cX9_does 148 = .ok (.aload_n 0, 1) := by decide +kernel
theorem dX9_does_149 : decode cX9_does 149 = .ok (.iload_n 1, 1) := by decide +kernel
theorem dX9_does_150 : decode cX9_does 150 = .ok (.invokevirtual 99, 3) := by decide +kernel
theorem dX9_does_153 : decode cX9_does 153 = .ok (.goto 9, 3) := by decide +kernel
theorem dX9_does_156 : decode cX9_does 156 = .ok (.aload_n 0, 1) := by decide +kernel
theorem dX9_does_157 : decode cX9_does 157 = .ok (.iload_n 1, 1) := by decide +kernel
theorem dX9_does_158 : decode cX9_does 158 = .ok (.iload_n 2, 1) := by decide +kernel
theorem dX9_does_159 : decode cX9_does 159 = .ok (.invokevirtual 102, 3) := by decide +kernel
theorem dX9_does_162 : decode cX9_does 162 = .ok (.ireturn, 1) := by decide +kernel
theorem dX9_isDone_0 : decode cX9_isDone 0 = .ok (.aload_n 0, 1) := by decide +kernel
theorem dX9_isDone_1 : decode cX9_isDone 1 = .ok (.invokevirtual 152, 3) := by decide +kernel
theorem dX9_isDone_4 : decode cX9_isDone 4 = .ok (.ifCond .ne 5, 3) := by decide +kernel
theorem dX9_isDone_7 : decode cX9_isDone 7 = .ok (.iconst 0, 1) := by decide +kernel
theorem dX9_isDone_8 : decode cX9_isDone 8 = .ok (.ireturn, 1) := by decide +kernel
theorem dX9_isDone_9 : decode cX9_isDone 9 = .ok (.aload_n 0, 1) := by decide +kernel
theorem dX9_isDone_10 : decode cX9_isDone 10 = .ok (.getfield 124, 3) := by decide +kernel
theorem dX9_isDone_13 : decode cX9_isDone 13 = .ok (.istore_n 1, 1) := by decide +kernel
theorem dX9_isDone_14 : decode cX9_isDone 14 = .ok (.aload_n 0, 1) := by decide +kernel
theorem dX9_isDone_15 : decode cX9_isDone 15 = .ok (.getfield 144, 3) := by decide +kernel
theorem dX9_isDone_18 : decode cX9_isDone 18 = .ok (.invokestatic 148, 3) := by decide +kernel
theorem dX9_isDone_21 : decode cX9_isDone 21 = .ok (.istore_n 2, 1) := by decide +kernel
theorem dX9_isDone_22 : decode cX9_isDone 22 = .ok (.iconst 0, 1) := by decide +kernel
theorem dX9_isDone_23 : decode cX9_isDone 23 = .ok (.istore_n 3, 1) := by decide +kernel
theorem dX9_isDone_24 : decode cX9_isDone 24 = .ok (.iload_n 3, 1) := by decide +kernel
theorem dX9_isDone_25 : decode cX9_isDone 25 = .ok (.iload_n 2, 1) := by decide +kernel
theorem dX9_isDone_26 : decode cX9_isDone 26 = .ok (.if_icmp .ge 19, 3) := by decide +kernel
theorem dX9_isDone_29 : decode cX9_isDone 29 = .ok (.aload_n 0, 1) := by decide +kernel
theorem dX9_isDone_30 : decode cX9_isDone 30 = .ok (.iload_n 3, 1) := by decide +kernel
theorem dX9_isDone_31 : decode cX9_isDone 31 = .ok (.invokevirtual 156, 3) := by decide +kernel
theorem dX9_isDone_34 : decode cX9_isDone 34 = .ok (.ifCond .ne 5, 3) := by decide +kernel
theorem dX9_isDone_37 : decode cX9_isDone 37 = .ok (.iconst 0, 1) := by decide +kernel
theorem dX9_isDone_38 : decode cX9_isDone 38 = .ok (.ireturn, 1) := by decide +kernel
theorem dX9_isDone_39 : decode cX9_isDone 39 = .ok (.iinc 3 1, 3) := by decide +kernel
theorem dX9_isDone_42 : decode cX9_isDone 42 = .ok (.goto (-18), 3) := by decide +kernel
theorem dX9_isDone_45 : decode cX9_isDone 45 = .ok (.aload_n 0, 1) := by decide +kernel
theorem dX9_isDone_46 : decode cX9_isDone 46 = .ok (.invokevirtual 159, 3) := by decide +kernel
theorem dX9_isDone_49 : decode cX9_isDone 49 = .ok (.ifCond .ne 5, 3) := by decide +kernel
theorem dX9_isDone_52 : decode cX9_isDone 52 = .ok (.iconst 0, 1) := by decide +kernel
theorem dX9_isDone_53 : decode cX9_isDone 53 = .ok (.ireturn, 1) := by decide +kernel
theorem dX9_isDone_54 : decode cX9_isDone 54 = .ok (.aload_n 0, 1) := by decide +kernel
theorem dX9_isDone_55 : decode cX9_isDone 55 = .ok (.iload_n 1, 1) := by decide +kernel
theorem dX9_isDone_56 : decode cX9_isDone 56 = .ok (.putfield 124, 3) := by decide +kernel
theorem dX9_isDone_59 : decode cX9_isDone 59 = .ok (.aload_n 0, 1) := by decide +kernel
theorem dX9_isDone_60 : decode cX9_isDone 60 = .ok (.invokevirtual 162, 3) := by decide +kernel
theorem dX9_isDone_63 : decode cX9_isDone 63 = .ok (.ifCond .lt 7, 3) := by decide +kernel
theorem dX9_isDone_66 : decode cX9_isDone 66 = .ok (.iconst 1, 1) := by decide +kernel
theorem dX9_isDone_67 : decode cX9_isDone 67 = .ok (.goto 4, 3) := by decide +kernel
theorem dX9_isDone_70 : decode cX9_isDone 70 = .ok (.iconst 0, 1) := by decide +kernel
theorem dX9_isDone_71 : decode cX9_isDone 71 = .ok (.ireturn, 1) := by decide +kernel
theorem dX9_run_0 : decode cX9_run 0 = .ok (.aload_n 0, 1) := by decide +kernel
theorem dX9_run_1 : decode cX9_run 1 = .ok (.invokevirtual 33, 3) := by decide +kernel
theorem dX9_run_4 : decode cX9_run 4 = .ok (.aload_n 0, 1) := by decide +kernel
theorem dX9_run_5 : decode cX9_run 5 = .ok (.iconst 0, 1) := by decide +kernel
theorem dX9_run_6 : decode cX9_run 6 = .ok (.putfield 117, 3) := by decide +kernel
theorem dX9_run_9 : decode cX9_run 9 = .ok (.aload_n 0, 1) := by decide +kernel
theorem dX9_run_10 : decode cX9_run 10 = .ok (.invokevirtual 141, 3) := by decide +kernel
theorem dX9_run_13 : decode cX9_run 13 = .ok (.iconst 0, 1) := by decide +kernel
theorem dX9_run_14 : decode cX9_run 14 = .ok (.istore_n 1, 1) := by decide +kernel
theorem dX9_run_15 : decode cX9_run 15 = .ok (.aload_n 0, 1) := by decide +kernel
theorem dX9_run_16 : decode cX9_run 16 = .ok (.getfield 117, 3) := by decide +kernel
theorem dX9_run_19 : decode cX9_run 19 = .ok (.aload_n 0, 1) := by decide +kernel
theorem dX9_run_20 : decode cX9_run 20 = .ok (.getfield 114, 3) := by decide +kernel
theorem dX9_run_23 : decode cX9_run 23 = .ok (.if_icmp .ge 33, 3) := by decide +kernel
theorem dX9_run_26 : decode cX9_run 26 = .ok (.aload_n 0, 1) := by decide +kernel
theorem dX9_run_27 : decode cX9_run 27 = .ok (.invokevirtual 166, 3) := by decide +kernel
theorem dX9_run_30 : decode cX9_run 30 = .ok (.ifCond .ne 16, 3) := by decide +kernel
theorem dX9_run_33 : decode cX9_run 33 = .ok (.aload_n 0, 1) := by decide +kernel
theorem dX9_run_34 : decode cX9_run 34 = .ok (.invokevirtual 169, 3) := by decide +kernel
theorem dX9_run_37 : decode cX9_run 37 = .ok (.sipush (-1000), 3) := by decide +kernel
theorem dX9_run_40 : decode cX9_run 40 = .ok (.aload_n 0, 1) := by decide +kernel
theorem dX9_run_41 : decode cX9_run 41 = .ok (.getfield 124, 3) := by decide +kernel
theorem dX9_run_44 : decode cX9_run 44 = .ok (.isub, 1) := by decide +kernel
theorem dX9_run_45 : decode cX9_run 45 = .ok (.ireturn, 1) := by decide +kernel
theorem dX9_run_46 : decode cX9_run 46 = .ok (.iinc 1 1, 3) := by decide +kernel
theorem dX9_run_49 : decode cX9_run 49 = .ok (.aload_n 0, 1) := by decide +kernel
theorem dX9_run_50 : decode cX9_run 50 = .ok (.invokevirtual 141, 3) := by decide +kernel
theorem dX9_run_53 : decode cX9_run 53 = .ok (.goto (-38), 3) := by decide +kernel
theorem dX9_run_56 : decode cX9_run 56 = .ok (.aload_n 0, 1) := by decide +kernel
theorem dX9_run_57 : decode cX9_run 57 = .ok (.iconst 0, 1) := by decide +kernel
theorem dX9_run_58 : decode cX9_run 58 = .ok (.putfield 114, 3) := by decide +kernel
theorem dX9_run_61 : decode cX9_run 61 = .ok (.aload_n 0, 1) := by decide +kernel
theorem dX9_run_62 : decode cX9_run 62 = .ok (.iload_n 1, 1) := by decide +kernel
theorem dX9_run_63 : decode cX9_run 63 = .ok (.invokevirtual 40, 3) := by decide +kernel
theorem dX9_run_66 : decode cX9_run 66 = .ok (.ireturn, 1) := by decide +kernel
theorem dX9_inState_0 : decode cX9_inState 0 = .ok (.iconst 0, 1) := by decide +kernel
theorem dX9_inState_1 : decode cX9_inState 1 = .ok (.istore_n 2, 1) := by decide +kernel
theorem dX9_inState_2 : decode cX9_inState 2 = .ok (.iconst 0, 1) := by decide +kernel
theorem dX9_inState_3 : decode cX9_inState 3 = .ok (.istore_n 3, 1) := by decide +kernel
theorem dX9_inState_4 : decode cX9_inState 4 = .ok (.iload_n 3, 1) := by decide +kernel
theorem dX9_inState_5 : decode cX9_inState 5 = .ok (.aload_n 0, 1) := by decide +kernel
theorem dX9_inState_6 : decode cX9_inState 6 = .ok (.getfield 7, 3) := by decide +kernel
theorem dX9_inState_9 : decode cX9_inState 9 = .ok (.iconst 1, 1) := by decide +kernel
theorem dX9_inState_10 : decode cX9_inState 10 = .ok (.iaload, 1) := by decide +kernel
theorem dX9_inState_11 : decode cX9_inState 11 = .ok (.if_icmp .ge 27, 3) := by decide +kernel
theorem dX9_inState_14 : decode cX9_inState 14 = .ok (.iload_n 2, 1) := by decide +kernel
theorem dX9_inState_15 : decode cX9_inState 15 = .ok (.aload_n 0, 1) := by decide +kernel
theorem dX9_inState_16 : decode cX9_inState 16 = .ok (.iload_n 3, 1) := by decide +kernel
theorem dX9_inState_17 : decode cX9_inState 17 = .ok (.iconst 3, 1) := by decide +kernel
theorem dX9_inState_18 : decode cX9_inState 18 = .ok (.invokevirtual 58, 3) := by decide +kernel
theorem dX9_inState_21 : decode cX9_inState 21 = .ok (.iload_n 1, 1) := by decide +kernel
theorem dX9_inState_22 : decode cX9_inState 22 = .ok (.if_icmp .ne 7, 3) := by decide +kernel
theorem dX9_inState_25 : decode cX9_inState 25 = .ok (.iconst 1, 1) := by decide +kernel
theorem dX9_inState_26 : decode cX9_inState 26 = .ok (.goto 4, 3) := by decide +kernel
theorem dX9_inState_29 : decode cX9_inState 29 = .ok (.iconst 0, 1) := by decide +kernel
theorem dX9_inState_30 : decode cX9_inState 30 = .ok (.iadd, 1) := by decide +kernel
theorem dX9_inState_31 : decode cX9_inState 31 = .ok (.istore_n 2, 1) := by decide +kernel
theorem dX9_inState_32 : decode cX9_inState 32 = .ok (.iinc 3 1, 3) := by decide +kernel
theorem dX9_inState_35 : decode cX9_inState 35 = .ok (.goto (-31), 3) := by decide +kernel
theorem dX9_inState_38 : decode cX9_inState 38 = .ok (.iload_n 2, 1) := by decide +kernel
theorem dX9_inState_39 : decode cX9_inState 39 = .ok (.ireturn, 1) := by decide +kernel
theorem dX9_count_0 : decode cX9_count 0 = .ok (.iload_n 1, 1) := by decide +kernel
theorem dX9_count_1 : decode cX9_count 1 = .ok (.tableswitch 74 0 5 #[39, 39, 39, 46, 64, 69], 39) := by decide +kernel
theorem dX9_count_40 : decode cX9_count 40 = .ok (.aload_n 0, 1) := by decide +kernel
theorem dX9_count_41 : decode cX9_count 41 = .ok (.getfield 7, 3) := by decide +kernel
theorem dX9_count_44 : decode cX9_count 44 = .ok (.iload_n 1, 1) := by decide +kernel
theorem dX9_count_45 : decode cX9_count 45 = .ok (.iaload, 1) := by decide +kernel
theorem dX9_count_46 : decode cX9_count 46 = .ok (.ireturn, 1) := by decide +kernel
theorem dX9_count_47 : decode cX9_count 47 = .ok (.aload_n 0, 1) := by decide +kernel
theorem dX9_count_48 : decode cX9_count 48 = .ok (.getfield 7, 3) := by decide +kernel
theorem dX9_count_51 : decode cX9_count 51 = .ok (.sipush 517, 3) := by decide +kernel
theorem dX9_count_54 : decode cX9_count 54 = .ok (.iaload, 1) := by decide +kernel
theorem dX9_count_55 : decode cX9_count 55 = .ok (.aload_n 0, 1) := by decide +kernel
theorem dX9_count_56 : decode cX9_count 56 = .ok (.getfield 7, 3) := by decide +kernel
theorem dX9_count_59 : decode cX9_count 59 = .ok (.sipush 1035, 3) := by decide +kernel
theorem dX9_count_62 : decode cX9_count 62 = .ok (.iaload, 1) := by decide +kernel
theorem dX9_count_63 : decode cX9_count 63 = .ok (.iadd, 1) := by decide +kernel
theorem dX9_count_64 : decode cX9_count 64 = .ok (.ireturn, 1) := by decide +kernel
theorem dX9_count_65 : decode cX9_count 65 = .ok (.aload_n 0, 1) := by decide +kernel
theorem dX9_count_66 : decode cX9_count 66 = .ok (.getfield 25, 3) := by decide +kernel
theorem dX9_count_69 : decode cX9_count 69 = .ok (.ireturn, 1) := by decide +kernel
theorem dX9_count_70 : decode cX9_count 70 = .ok (.aload_n 0, 1) := by decide +kernel
theorem dX9_count_71 : decode cX9_count 71 = .ok (.getfield 114, 3) := by decide +kernel
theorem dX9_count_74 : decode cX9_count 74 = .ok (.ireturn, 1) := by decide +kernel
theorem dX9_count_75 : decode cX9_count 75 = .ok (.iload_n 1, 1) := by decide +kernel
theorem dX9_count_76 : decode cX9_count 76 = .ok (.bipush 6, 2) := by decide +kernel
theorem dX9_count_78 : decode cX9_count 78 = .ok (.bipush 10, 2) := by decide +kernel
theorem dX9_count_80 : decode cX9_count 80 = .ok (.invokestatic 29, 3) := by decide +kernel
theorem dX9_count_83 : decode cX9_count 83 = .ok (.ifCond .eq 17, 3) := by decide +kernel
theorem dX9_count_86 : decode cX9_count 86 = .ok (.aload_n 0, 1) := by decide +kernel
theorem dX9_count_87 : decode cX9_count 87 = .ok (.getfield 7, 3) := by decide +kernel
theorem dX9_count_90 : decode cX9_count 90 = .ok (.iconst 4, 1) := by decide +kernel
theorem dX9_count_91 : decode cX9_count 91 = .ok (.iload_n 1, 1) := by decide +kernel
theorem dX9_count_92 : decode cX9_count 92 = .ok (.iadd, 1) := by decide +kernel
theorem dX9_count_93 : decode cX9_count 93 = .ok (.bipush 6, 2) := by decide +kernel
theorem dX9_count_95 : decode cX9_count 95 = .ok (.isub, 1) := by decide +kernel
theorem dX9_count_96 : decode cX9_count 96 = .ok (.iaload, 1) := by decide +kernel
theorem dX9_count_97 : decode cX9_count 97 = .ok (.goto 26, 3) := by decide +kernel
theorem dX9_count_100 : decode cX9_count 100 = .ok (.iload_n 1, 1) := by decide +kernel
theorem dX9_count_101 : decode cX9_count 101 = .ok (.bipush 11, 2) := by decide +kernel
theorem dX9_count_103 : decode cX9_count 103 = .ok (.bipush 14, 2) := by decide +kernel
theorem dX9_count_105 : decode cX9_count 105 = .ok (.invokestatic 29, 3) := by decide +kernel
theorem dX9_count_108 : decode cX9_count 108 = .ok (.ifCond .eq 14, 3) := by decide +kernel
theorem dX9_count_111 : decode cX9_count 111 = .ok (.aload_n 0, 1) := by decide +kernel
theorem dX9_count_112 : decode cX9_count 112 = .ok (.iload_n 1, 1) := by decide +kernel
theorem dX9_count_113 : decode cX9_count 113 = .ok (.bipush 11, 2) := by decide +kernel
theorem dX9_count_115 : decode cX9_count 115 = .ok (.isub, 1) := by decide +kernel
theorem dX9_count_116 : decode cX9_count 116 = .ok (.invokevirtual 172, 3) := by decide +kernel
theorem dX9_count_119 : decode cX9_count 119 = .ok (.goto 4, 3) := by decide +kernel
theorem dX9_count_122 : decode cX9_count 122 = .ok (.iconst (-1), 1) := by decide +kernel
theorem dX9_count_123 : decode cX9_count 123 = .ok (.ireturn, 1) := by decide +kernel
theorem dX9_room_0 : decode cX9_room 0 = .ok (.aload_n 0, 1) := by decide +kernel
theorem dX9_room_1 : decode cX9_room 1 = .ok (.iload_n 1, 1) := by decide +kernel
theorem dX9_room_2 : decode cX9_room 2 = .ok (.invokevirtual 44, 3) := by decide +kernel
theorem dX9_room_5 : decode cX9_room 5 = .ok (.ifCond .eq 13, 3) := by decide +kernel
theorem dX9_room_8 : decode cX9_room 8 = .ok (.iload_n 2, 1) := by decide +kernel
theorem dX9_room_9 : decode cX9_room 9 = .ok (.iconst 0, 1) := by decide +kernel
theorem dX9_room_10 : decode cX9_room 10 = .ok (.bipush 11, 2) := by decide +kernel
theorem dX9_room_12 : decode cX9_room 12 = .ok (.invokestatic 29, 3) := by decide +kernel
theorem dX9_room_15 : decode cX9_room 15 = .ok (.ifCond .ne 5, 3) := by decide +kernel
theorem dX9_room_18 : decode cX9_room 18 = .ok (.iconst (-1), 1) := by decide +kernel
theorem dX9_room_19 : decode cX9_room 19 = .ok (.ireturn, 1) := by decide +kernel
theorem dX9_room_20 : decode cX9_room 20 = .ok (.iload_n 2, 1) := by decide +kernel
theorem dX9_room_21 : decode cX9_room 21 = .ok (.bipush 11, 2) := by decide +kernel
theorem dX9_room_23 : decode cX9_room 23 = .ok (.if_icmp .ge 12, 3) := by decide +kernel
theorem dX9_room_26 : decode cX9_room 26 = .ok (.aload_n 0, 1) := by decide +kernel
theorem dX9_room_27 : decode cX9_room 27 = .ok (.iload_n 1, 1) := by decide +kernel
theorem dX9_room_28 : decode cX9_room 28 = .ok (.iload_n 2, 1) := by decide +kernel
theorem dX9_room_29 : decode cX9_room 29 = .ok (.invokevirtual 48, 3) := by decide +kernel
theorem dX9_room_32 : decode cX9_room 32 = .ok (.goto 9, 3) := by decide +kernel
theorem dX9_room_35 : decode cX9_room 35 = .ok (.aload_n 0, 1) := by decide +kernel
theorem dX9_room_36 : decode cX9_room 36 = .ok (.iload_n 1, 1) := by decide +kernel
theorem dX9_room_37 : decode cX9_room 37 = .ok (.iconst (-1), 1) := by decide +kernel
theorem dX9_room_38 : decode cX9_room 38 = .ok (.invokevirtual 83, 3) := by decide +kernel
theorem dX9_room_41 : decode cX9_room 41 = .ok (.ireturn, 1) := by decide +kernel
theorem dX9_paymentsOf_0 : decode cX9_paymentsOf 0 = .ok (.iconst 0, 1) := by decide +kernel
theorem dX9_paymentsOf_1 : decode cX9_paymentsOf 1 = .ok (.istore_n 2, 1) := by decide +kernel
theorem dX9_paymentsOf_2 : decode cX9_paymentsOf 2 = .ok (.iconst 0, 1) := by decide +kernel
theorem dX9_paymentsOf_3 : decode cX9_paymentsOf 3 = .ok (.istore_n 3, 1) := by decide +kernel
theorem dX9_paymentsOf_4 : decode cX9_paymentsOf 4 = .ok (.iload_n 3, 1) := by decide +kernel
theorem dX9_paymentsOf_5 : decode cX9_paymentsOf 5 = .ok (.aload_n 0, 1) := by decide +kernel
theorem dX9_paymentsOf_6 : decode cX9_paymentsOf 6 = .ok (.getfield 7, 3) := by decide +kernel
theorem dX9_paymentsOf_9 : decode cX9_paymentsOf 9 = .ok (.sipush 197, 3) := by decide +kernel
theorem dX9_paymentsOf_12 : decode cX9_paymentsOf 12 = .ok (.iload_n 1, 1) := by decide +kernel
theorem dX9_paymentsOf_13 : decode cX9_paymentsOf 13 = .ok (.iadd, 1) := by decide +kernel
theorem dX9_paymentsOf_14 : decode cX9_paymentsOf 14 = .ok (.iaload, 1) := by decide +kernel
theorem dX9_paymentsOf_15 : decode cX9_paymentsOf 15 = .ok (.if_icmp .ge 44, 3) := by decide +kernel
theorem dX9_paymentsOf_18 : decode cX9_paymentsOf 18 = .ok (.iload_n 2, 1) := by decide +kernel
theorem dX9_paymentsOf_19 : decode cX9_paymentsOf 19 = .ok (.aload_n 0, 1) := by decide +kernel
theorem dX9_paymentsOf_20 : decode cX9_paymentsOf 20 = .ok (.getfield 7, 3) := by decide +kernel
theorem dX9_paymentsOf_23 : decode cX9_paymentsOf 23 = .ok (.sipush 485, 3) := by decide +kernel
theorem dX9_paymentsOf_26 : decode cX9_paymentsOf 26 = .ok (.aload_n 0, 1) := by decide +kernel
theorem dX9_paymentsOf_27 : decode cX9_paymentsOf 27 = .ok (.getfield 7, 3) := by decide +kernel
theorem dX9_paymentsOf_30 : decode cX9_paymentsOf 30 = .ok (.sipush 213, 3) := by decide +kernel
theorem dX9_paymentsOf_33 : decode cX9_paymentsOf 33 = .ok (.bipush 16, 2) := by decide +kernel
theorem dX9_paymentsOf_35 : decode cX9_paymentsOf 35 = .ok (.iload_n 1, 1) := by decide +kernel
theorem dX9_paymentsOf_36 : decode cX9_paymentsOf 36 = .ok (.imul, 1) := by decide +kernel
theorem dX9_paymentsOf_37 : decode cX9_paymentsOf 37 = .ok (.iadd, 1) := by decide +kernel
theorem dX9_paymentsOf_38 : decode cX9_paymentsOf 38 = .ok (.iload_n 3, 1) := by decide +kernel
theorem dX9_paymentsOf_39 : decode cX9_paymentsOf 39 = .ok (.iadd, 1) := by decide +kernel
theorem dX9_paymentsOf_40 : decode cX9_paymentsOf 40 = .ok (.iaload, 1) := by decide +kernel
theorem dX9_paymentsOf_41 : decode cX9_paymentsOf 41 = .ok (.iadd, 1) := by decide +kernel
theorem dX9_paymentsOf_42 : decode cX9_paymentsOf 42 = .ok (.iaload, 1) := by decide +kernel
theorem dX9_paymentsOf_43 : decode cX9_paymentsOf 43 = .ok (.ifCond .le 7, 3) := by decide +kernel
theorem dX9_paymentsOf_46 : decode cX9_paymentsOf 46 = .ok (.iconst 1, 1) := by decide +kernel
theorem dX9_paymentsOf_47 : decode cX9_paymentsOf 47 = .ok (.goto 4, 3) := by decide +kernel
theorem dX9_paymentsOf_50 : decode cX9_paymentsOf 50 = .ok (.iconst 0, 1) := by decide +kernel
theorem dX9_paymentsOf_51 : decode cX9_paymentsOf 51 = .ok (.iadd, 1) := by decide +kernel
theorem dX9_paymentsOf_52 : decode cX9_paymentsOf 52 = .ok (.istore_n 2, 1) := by decide +kernel
theorem dX9_paymentsOf_53 : decode cX9_paymentsOf 53 = .ok (.iinc 3 1, 3) := by decide +kernel
theorem dX9_paymentsOf_56 : decode cX9_paymentsOf 56 = .ok (.goto (-52), 3) := by decide +kernel
theorem dX9_paymentsOf_59 : decode cX9_paymentsOf 59 = .ok (.iload_n 2, 1) := by decide +kernel
theorem dX9_paymentsOf_60 : decode cX9_paymentsOf 60 = .ok (.ireturn, 1) := by decide +kernel
theorem dX9_booking_0 : decode cX9_booking 0 = .ok (.aload_n 0, 1) := by decide +kernel
theorem dX9_booking_1 : decode cX9_booking 1 = .ok (.iload_n 1, 1) := by decide +kernel
theorem dX9_booking_2 : decode cX9_booking 2 = .ok (.invokevirtual 77, 3) := by decide +kernel
theorem dX9_booking_5 : decode cX9_booking 5 = .ok (.ifCond .eq 13, 3) := by decide +kernel
theorem dX9_booking_8 : decode cX9_booking 8 = .ok (.iload_n 2, 1) := by decide +kernel
theorem dX9_booking_9 : decode cX9_booking 9 = .ok (.iconst 0, 1) := by decide +kernel
theorem dX9_booking_10 : decode cX9_booking 10 = .ok (.bipush 10, 2) := by decide +kernel
theorem dX9_booking_12 : decode cX9_booking 12 = .ok (.invokestatic 29, 3) := by decide +kernel
theorem dX9_booking_15 : decode cX9_booking 15 = .ok (.ifCond .ne 5, 3) := by decide +kernel
theorem dX9_booking_18 : decode cX9_booking 18 = .ok (.iconst (-1), 1) := by decide +kernel
theorem dX9_booking_19 : decode cX9_booking 19 = .ok (.ireturn, 1) := by decide +kernel
theorem dX9_booking_20 : decode cX9_booking 20 = .ok (.iload_n 2, 1) := by decide +kernel
theorem dX9_booking_21 : decode cX9_booking 21 = .ok (.bipush 6, 2) := by decide +kernel
theorem dX9_booking_23 : decode cX9_booking 23 = .ok (.if_icmp .ge 12, 3) := by decide +kernel
theorem dX9_booking_26 : decode cX9_booking 26 = .ok (.aload_n 0, 1) := by decide +kernel
theorem dX9_booking_27 : decode cX9_booking 27 = .ok (.iload_n 1, 1) := by decide +kernel
theorem dX9_booking_28 : decode cX9_booking 28 = .ok (.iload_n 2, 1) := by decide +kernel
theorem dX9_booking_29 : decode cX9_booking 29 = .ok (.invokevirtual 58, 3) := by decide +kernel
theorem dX9_booking_32 : decode cX9_booking 32 = .ok (.goto 39, 3) := by decide +kernel
theorem dX9_booking_35 : decode cX9_booking 35 = .ok (.iload_n 2, 1) := by decide +kernel
theorem dX9_booking_36 : decode cX9_booking 36 = .ok (.bipush 6, 2) := by decide +kernel
theorem dX9_booking_38 : decode cX9_booking 38 = .ok (.if_icmp .ne 11, 3) := by decide +kernel
theorem dX9_booking_41 : decode cX9_booking 41 = .ok (.aload_n 0, 1) := by decide +kernel
theorem dX9_booking_42 : decode cX9_booking 42 = .ok (.iload_n 1, 1) := by decide +kernel
theorem dX9_booking_43 : decode cX9_booking 43 = .ok (.invokevirtual 89, 3) := by decide +kernel
theorem dX9_booking_46 : decode cX9_booking 46 = .ok (.goto 25, 3) := by decide +kernel
theorem dX9_booking_49 : decode cX9_booking 49 = .ok (.iload_n 2, 1) := by decide +kernel
theorem dX9_booking_50 : decode cX9_booking 50 = .ok (.bipush 10, 2) := by decide +kernel
theorem dX9_booking_52 : decode cX9_booking 52 = .ok (.if_icmp .ne 11, 3) := by decide +kernel
theorem dX9_booking_55 : decode cX9_booking 55 = .ok (.aload_n 0, 1) := by decide +kernel
theorem dX9_booking_56 : decode cX9_booking 56 = .ok (.iload_n 1, 1) := by decide +kernel
theorem dX9_booking_57 : decode cX9_booking 57 = .ok (.invokevirtual 175, 3) := by decide +kernel
theorem dX9_booking_60 : decode cX9_booking 60 = .ok (.goto 11, 3) := by decide +kernel
theorem dX9_booking_63 : decode cX9_booking 63 = .ok (.aload_n 0, 1) := by decide +kernel
theorem dX9_booking_64 : decode cX9_booking 64 = .ok (.iload_n 1, 1) := by decide +kernel
theorem dX9_booking_65 : decode cX9_booking 65 = .ok (.iload_n 2, 1) := by decide +kernel
theorem dX9_booking_66 : decode cX9_booking 66 = .ok (.iconst 1, 1) := by decide +kernel
theorem dX9_booking_67 : decode cX9_booking 67 = .ok (.isub, 1) := by decide +kernel
theorem dX9_booking_68 : decode cX9_booking 68 = .ok (.invokevirtual 58, 3) := by decide +kernel
theorem dX9_booking_71 : decode cX9_booking 71 = .ok (.ireturn, 1) := by decide +kernel
theorem dX9_hasFrom_0 : decode cX9_hasFrom 0 = .ok (.iconst 0, 1) := by decide +kernel
theorem dX9_hasFrom_1 : decode cX9_hasFrom 1 = .ok (.istore_n 3, 1) := by decide +kernel
theorem dX9_hasFrom_2 : decode cX9_hasFrom 2 = .ok (.iconst 0, 1) := by decide +kernel
theorem dX9_hasFrom_3 : decode cX9_hasFrom 3 = .ok (.istore 4, 2) := by decide +kernel
theorem dX9_hasFrom_5 : decode cX9_hasFrom 5 = .ok (.iload 4, 2) := by decide +kernel
theorem dX9_hasFrom_7 : decode cX9_hasFrom 7 = .ok (.aload_n 0, 1) := by decide +kernel
theorem dX9_hasFrom_8 : decode cX9_hasFrom 8 = .ok (.getfield 7, 3) := by decide +kernel
theorem dX9_hasFrom_11 : decode cX9_hasFrom 11 = .ok (.sipush 197, 3) := by decide +kernel
theorem dX9_hasFrom_14 : decode cX9_hasFrom 14 = .ok (.iload_n 1, 1) := by decide +kernel
theorem dX9_hasFrom_15 : decode cX9_hasFrom 15 = .ok (.iadd, 1) := by decide +kernel
theorem dX9_hasFrom_16 : decode cX9_hasFrom 16 = .ok (.iaload, 1) := by decide +kernel
theorem dX9_hasFrom_17 : decode cX9_hasFrom 17 = .ok (.if_icmp .ge 66, 3) := by decide +kernel
theorem dX9_hasFrom_20 : decode cX9_hasFrom 20 = .ok (.aload_n 0, 1) := by decide +kernel
theorem dX9_hasFrom_21 : decode cX9_hasFrom 21 = .ok (.getfield 7, 3) := by decide +kernel
theorem dX9_hasFrom_24 : decode cX9_hasFrom 24 = .ok (.sipush 213, 3) := by decide +kernel
theorem dX9_hasFrom_27 : decode cX9_hasFrom 27 = .ok (.bipush 16, 2) := by decide +kernel
theorem dX9_hasFrom_29 : decode cX9_hasFrom 29 = .ok (.iload_n 1, 1) := by decide +kernel
theorem dX9_hasFrom_30 : decode cX9_hasFrom 30 = .ok (.imul, 1) := by decide +kernel
theorem dX9_hasFrom_31 : decode cX9_hasFrom 31 = .ok (.iadd, 1) := by decide +kernel
theorem dX9_hasFrom_32 : decode cX9_hasFrom 32 = .ok (.iload 4, 2) := by decide +kernel
theorem dX9_hasFrom_34 : decode cX9_hasFrom 34 = .ok (.iadd, 1) := by decide +kernel
theorem dX9_hasFrom_35 : decode cX9_hasFrom 35 = .ok (.iaload, 1) := by decide +kernel
theorem dX9_hasFrom_36 : decode cX9_hasFrom 36 = .ok (.istore 5, 2) := by decide +kernel
theorem dX9_hasFrom_38 : decode cX9_hasFrom 38 = .ok (.iload_n 3, 1) := by decide +kernel
theorem dX9_hasFrom_39 : decode cX9_hasFrom 39 = .ok (.ifCond .ne 32, 3) := by decide +kernel
theorem dX9_hasFrom_42 : decode cX9_hasFrom 42 = .ok (.aload_n 0, 1) := by decide +kernel
theorem dX9_hasFrom_43 : decode cX9_hasFrom 43 = .ok (.getfield 7, 3) := by decide +kernel
theorem dX9_hasFrom_46 : decode cX9_hasFrom 46 = .ok (.sipush 469, 3) := by decide +kernel
theorem dX9_hasFrom_49 : decode cX9_hasFrom 49 = .ok (.iload 5, 2) := by decide +kernel
theorem dX9_hasFrom_51 : decode cX9_hasFrom 51 = .ok (.iadd, 1) := by decide +kernel
theorem dX9_hasFrom_52 : decode cX9_hasFrom 52 = .ok (.iaload, 1) := by decide +kernel
theorem dX9_hasFrom_53 : decode cX9_hasFrom 53 = .ok (.iload_n 2, 1) := by decide +kernel
theorem dX9_hasFrom_54 : decode cX9_hasFrom 54 = .ok (.if_icmp .ne 21, 3) := by decide +kernel
theorem dX9_hasFrom_57 : decode cX9_hasFrom 57 = .ok (.aload_n 0, 1) := by decide +kernel
theorem dX9_hasFrom_58 : decode cX9_hasFrom 58 = .ok (.getfield 7, 3) := by decide +kernel
theorem dX9_hasFrom_61 : decode cX9_hasFrom 61 = .ok (.sipush 485, 3) := by decide +kernel
theorem dX9_hasFrom_64 : decode cX9_hasFrom 64 = .ok (.iload 5, 2) := by decide +kernel
theorem dX9_hasFrom_66 : decode cX9_hasFrom 66 = .ok (.iadd, 1) := by decide +kernel
theorem dX9_hasFrom_67 : decode cX9_hasFrom 67 = .ok (.iaload, 1) := by decide +kernel
theorem dX9_hasFrom_68 : decode cX9_hasFrom 68 = .ok (.ifCond .le 7, 3) := by decide +kernel
theorem dX9_hasFrom_71 : decode cX9_hasFrom 71 = .ok (.iconst 1, 1) := by decide +kernel
theorem dX9_hasFrom_72 : decode cX9_hasFrom 72 = .ok (.goto 4, 3) := by decide +kernel
theorem dX9_hasFrom_75 : decode cX9_hasFrom 75 = .ok (.iconst 0, 1) := by decide +kernel
theorem dX9_hasFrom_76 : decode cX9_hasFrom 76 = .ok (.istore_n 3, 1) := by decide +kernel
theorem dX9_hasFrom_77 : decode cX9_hasFrom 77 = .ok (.iinc 4 1, 3) := by decide +kernel
theorem dX9_hasFrom_80 : decode cX9_hasFrom 80 = .ok (.goto (-75), 3) := by decide +kernel
theorem dX9_hasFrom_83 : decode cX9_hasFrom 83 = .ok (.iload_n 3, 1) := by decide +kernel
theorem dX9_hasFrom_84 : decode cX9_hasFrom 84 = .ok (.ireturn, 1) := by decide +kernel
theorem dX9_voucher_0 : decode cX9_voucher 0 = .ok (.aload_n 0, 1) := by decide +kernel
theorem dX9_voucher_1 : decode cX9_voucher 1 = .ok (.iload_n 1, 1) := by decide +kernel
theorem dX9_voucher_2 : decode cX9_voucher 2 = .ok (.invokevirtual 61, 3) := by decide +kernel
theorem dX9_voucher_5 : decode cX9_voucher 5 = .ok (.ifCond .eq 12, 3) := by decide +kernel
theorem dX9_voucher_8 : decode cX9_voucher 8 = .ok (.iload_n 2, 1) := by decide +kernel
theorem dX9_voucher_9 : decode cX9_voucher 9 = .ok (.iconst 0, 1) := by decide +kernel
theorem dX9_voucher_10 : decode cX9_voucher 10 = .ok (.iconst 2, 1) := by decide +kernel
theorem dX9_voucher_11 : decode cX9_voucher 11 = .ok (.invokestatic 29, 3) := by decide +kernel
theorem dX9_voucher_14 : decode cX9_voucher 14 = .ok (.ifCond .ne 5, 3) := by decide +kernel
theorem dX9_voucher_17 : decode cX9_voucher 17 = .ok (.iconst (-1), 1) := by decide +kernel
theorem dX9_voucher_18 : decode cX9_voucher 18 = .ok (.ireturn, 1) := by decide +kernel
theorem dX9_voucher_19 : decode cX9_voucher 19 = .ok (.iconst 0, 1) := by decide +kernel
theorem dX9_voucher_20 : decode cX9_voucher 20 = .ok (.istore_n 3, 1) := by decide +kernel
theorem dX9_voucher_21 : decode cX9_voucher 21 = .ok (.iconst 0, 1) := by decide +kernel
theorem dX9_voucher_22 : decode cX9_voucher 22 = .ok (.istore 4, 2) := by decide +kernel
theorem dX9_voucher_24 : decode cX9_voucher 24 = .ok (.iload 4, 2) := by decide +kernel
theorem dX9_voucher_26 : decode cX9_voucher 26 = .ok (.aload_n 0, 1) := by decide +kernel
theorem dX9_voucher_27 : decode cX9_voucher 27 = .ok (.getfield 7, 3) := by decide +kernel
theorem dX9_voucher_30 : decode cX9_voucher 30 = .ok (.iconst 1, 1) := by decide +kernel
theorem dX9_voucher_31 : decode cX9_voucher 31 = .ok (.iaload, 1) := by decide +kernel
theorem dX9_voucher_32 : decode cX9_voucher 32 = .ok (.if_icmp .ge 27, 3) := by decide +kernel
theorem dX9_voucher_35 : decode cX9_voucher 35 = .ok (.iload_n 3, 1) := by decide +kernel
theorem dX9_voucher_36 : decode cX9_voucher 36 = .ok (.aload_n 0, 1) := by decide +kernel
theorem dX9_voucher_37 : decode cX9_voucher 37 = .ok (.iload 4, 2) := by decide +kernel
theorem dX9_voucher_39 : decode cX9_voucher 39 = .ok (.iload_n 1, 1) := by decide +kernel
theorem dX9_voucher_40 : decode cX9_voucher 40 = .ok (.invokevirtual 178, 3) := by decide +kernel
theorem dX9_voucher_43 : decode cX9_voucher 43 = .ok (.ifCond .eq 7, 3) := by decide +kernel
theorem dX9_voucher_46 : decode cX9_voucher 46 = .ok (.iconst 1, 1) := by decide +kernel
theorem dX9_voucher_47 : decode cX9_voucher 47 = .ok (.goto 4, 3) := by decide +kernel
theorem dX9_voucher_50 : decode cX9_voucher 50 = .ok (.iconst 0, 1) := by decide +kernel
theorem dX9_voucher_51 : decode cX9_voucher 51 = .ok (.iadd, 1) := by decide +kernel
theorem dX9_voucher_52 : decode cX9_voucher 52 = .ok (.istore_n 3, 1) := by decide +kernel
theorem dX9_voucher_53 : decode cX9_voucher 53 = .ok (.iinc 4 1, 3) := by decide +kernel
theorem dX9_voucher_56 : decode cX9_voucher 56 = .ok (.goto (-32), 3) := by decide +kernel
theorem dX9_voucher_59 : decode cX9_voucher 59 = .ok (.iload_n 2, 1) := by decide +kernel
theorem dX9_voucher_60 : decode cX9_voucher 60 = .ok (.iconst 2, 1) := by decide +kernel
theorem dX9_voucher_61 : decode cX9_voucher 61 = .ok (.if_icmp .ge 20, 3) := by decide +kernel
theorem dX9_voucher_64 : decode cX9_voucher 64 = .ok (.aload_n 0, 1) := by decide +kernel
theorem dX9_voucher_65 : decode cX9_voucher 65 = .ok (.getfield 7, 3) := by decide +kernel
theorem dX9_voucher_68 : decode cX9_voucher 68 = .ok (.sipush 501, 3) := by decide +kernel
theorem dX9_voucher_71 : decode cX9_voucher 71 = .ok (.iconst 2, 1) := by decide +kernel
theorem dX9_voucher_72 : decode cX9_voucher 72 = .ok (.iload_n 1, 1) := by decide +kernel
theorem dX9_voucher_73 : decode cX9_voucher 73 = .ok (.imul, 1) := by decide +kernel
theorem dX9_voucher_74 : decode cX9_voucher 74 = .ok (.iadd, 1) := by decide +kernel
theorem dX9_voucher_75 : decode cX9_voucher 75 = .ok (.iload_n 2, 1) := by decide +kernel
theorem dX9_voucher_76 : decode cX9_voucher 76 = .ok (.iadd, 1) := by decide +kernel
theorem dX9_voucher_77 : decode cX9_voucher 77 = .ok (.iaload, 1) := by decide +kernel
theorem dX9_voucher_78 : decode cX9_voucher 78 = .ok (.goto 4, 3) := by decide +kernel
theorem dX9_voucher_81 : decode cX9_voucher 81 = .ok (.iload_n 3, 1) := by decide +kernel
theorem dX9_voucher_82 : decode cX9_voucher 82 = .ok (.ireturn, 1) := by decide +kernel
theorem dX9_sumOf_0 : decode cX9_sumOf 0 = .ok (.iconst 0, 1) := by decide +kernel
theorem dX9_sumOf_1 : decode cX9_sumOf 1 = .ok (.istore_n 2, 1) := by decide +kernel
theorem dX9_sumOf_2 : decode cX9_sumOf 2 = .ok (.iconst 0, 1) := by decide +kernel
theorem dX9_sumOf_3 : decode cX9_sumOf 3 = .ok (.istore_n 3, 1) := by decide +kernel
theorem dX9_sumOf_4 : decode cX9_sumOf 4 = .ok (.iload_n 3, 1) := by decide +kernel
theorem dX9_sumOf_5 : decode cX9_sumOf 5 = .ok (.aload_n 0, 1) := by decide +kernel
theorem dX9_sumOf_6 : decode cX9_sumOf 6 = .ok (.getfield 7, 3) := by decide +kernel
theorem dX9_sumOf_9 : decode cX9_sumOf 9 = .ok (.iconst 1, 1) := by decide +kernel
theorem dX9_sumOf_10 : decode cX9_sumOf 10 = .ok (.iaload, 1) := by decide +kernel
theorem dX9_sumOf_11 : decode cX9_sumOf 11 = .ok (.if_icmp .ge 69, 3) := by decide +kernel
theorem dX9_sumOf_14 : decode cX9_sumOf 14 = .ok (.iload_n 2, 1) := by decide +kernel
theorem dX9_sumOf_15 : decode cX9_sumOf 15 = .ok (.iload_n 1, 1) := by decide +kernel
theorem dX9_sumOf_16 : decode cX9_sumOf 16 = .ok (.iconst 2, 1) := by decide +kernel
theorem dX9_sumOf_17 : decode cX9_sumOf 17 = .ok (.if_icmp .ne 12, 3) := by decide +kernel
theorem dX9_sumOf_20 : decode cX9_sumOf 20 = .ok (.aload_n 0, 1) := by decide +kernel
theorem dX9_sumOf_21 : decode cX9_sumOf 21 = .ok (.iload_n 3, 1) := by decide +kernel
theorem dX9_sumOf_22 : decode cX9_sumOf 22 = .ok (.iconst 4, 1) := by decide +kernel
theorem dX9_sumOf_23 : decode cX9_sumOf 23 = .ok (.invokevirtual 58, 3) := by decide +kernel
theorem dX9_sumOf_26 : decode cX9_sumOf 26 = .ok (.goto 46, 3) := by decide +kernel
theorem dX9_sumOf_29 : decode cX9_sumOf 29 = .ok (.iload_n 1, 1) := by decide +kernel
theorem dX9_sumOf_30 : decode cX9_sumOf 30 = .ok (.iconst 3, 1) := by decide +kernel
theorem dX9_sumOf_31 : decode cX9_sumOf 31 = .ok (.if_icmp .ne 13, 3) := by decide +kernel
theorem dX9_sumOf_34 : decode cX9_sumOf 34 = .ok (.aload_n 0, 1) := by decide +kernel
theorem dX9_sumOf_35 : decode cX9_sumOf 35 = .ok (.iload_n 3, 1) := by decide +kernel
theorem dX9_sumOf_36 : decode cX9_sumOf 36 = .ok (.bipush 6, 2) := by decide +kernel
theorem dX9_sumOf_38 : decode cX9_sumOf 38 = .ok (.invokevirtual 58, 3) := by decide +kernel
theorem dX9_sumOf_41 : decode cX9_sumOf 41 = .ok (.goto 31, 3) := by decide +kernel
theorem dX9_sumOf_44 : decode cX9_sumOf 44 = .ok (.iload_n 1, 1) := by decide +kernel
theorem dX9_sumOf_45 : decode cX9_sumOf 45 = .ok (.iconst 4, 1) := by decide +kernel
theorem dX9_sumOf_46 : decode cX9_sumOf 46 = .ok (.if_icmp .ne 12, 3) := by decide +kernel
theorem dX9_sumOf_49 : decode cX9_sumOf 49 = .ok (.aload_n 0, 1) := by decide +kernel
theorem dX9_sumOf_50 : decode cX9_sumOf 50 = .ok (.iload_n 3, 1) := by decide +kernel
theorem dX9_sumOf_51 : decode cX9_sumOf 51 = .ok (.iconst 5, 1) := by decide +kernel
theorem dX9_sumOf_52 : decode cX9_sumOf 52 = .ok (.invokevirtual 58, 3) := by decide +kernel
theorem dX9_sumOf_55 : decode cX9_sumOf 55 = .ok (.goto 17, 3) := by decide +kernel
theorem dX9_sumOf_58 : decode cX9_sumOf 58 = .ok (.iload_n 1, 1) := by decide +kernel
theorem dX9_sumOf_59 : decode cX9_sumOf 59 = .ok (.iconst 5, 1) := by decide +kernel
theorem dX9_sumOf_60 : decode cX9_sumOf 60 = .ok (.if_icmp .ne 11, 3) := by decide +kernel
theorem dX9_sumOf_63 : decode cX9_sumOf 63 = .ok (.aload_n 0, 1) := by decide +kernel
theorem dX9_sumOf_64 : decode cX9_sumOf 64 = .ok (.iload_n 3, 1) := by decide +kernel
theorem dX9_sumOf_65 : decode cX9_sumOf 65 = .ok (.invokevirtual 89, 3) := by decide +kernel
theorem dX9_sumOf_68 : decode cX9_sumOf 68 = .ok (.goto 4, 3) := by decide +kernel
theorem dX9_sumOf_71 : decode cX9_sumOf 71 = .ok (.iconst 0, 1) := by decide +kernel
theorem dX9_sumOf_72 : decode cX9_sumOf 72 = .ok (.iadd, 1) := by decide +kernel
theorem dX9_sumOf_73 : decode cX9_sumOf 73 = .ok (.istore_n 2, 1) := by decide +kernel
theorem dX9_sumOf_74 : decode cX9_sumOf 74 = .ok (.iinc 3 1, 3) := by decide +kernel
theorem dX9_sumOf_77 : decode cX9_sumOf 77 = .ok (.goto (-73), 3) := by decide +kernel
theorem dX9_sumOf_80 : decode cX9_sumOf 80 = .ok (.iconst 0, 1) := by decide +kernel
theorem dX9_sumOf_81 : decode cX9_sumOf 81 = .ok (.istore_n 3, 1) := by decide +kernel
theorem dX9_sumOf_82 : decode cX9_sumOf 82 = .ok (.iload_n 3, 1) := by decide +kernel
theorem dX9_sumOf_83 : decode cX9_sumOf 83 = .ok (.aload_n 0, 1) := by decide +kernel
theorem dX9_sumOf_84 : decode cX9_sumOf 84 = .ok (.getfield 7, 3) := by decide +kernel
theorem dX9_sumOf_87 : decode cX9_sumOf 87 = .ok (.iconst 2, 1) := by decide +kernel
theorem dX9_sumOf_88 : decode cX9_sumOf 88 = .ok (.iaload, 1) := by decide +kernel
theorem dX9_sumOf_89 : decode cX9_sumOf 89 = .ok (.if_icmp .ge 56, 3) := by decide +kernel
theorem dX9_sumOf_92 : decode cX9_sumOf 92 = .ok (.iload_n 2, 1) := by decide +kernel
theorem dX9_sumOf_93 : decode cX9_sumOf 93 = .ok (.iload_n 1, 1) := by decide +kernel
theorem dX9_sumOf_94 : decode cX9_sumOf 94 = .ok (.iconst 1, 1) := by decide +kernel
theorem dX9_sumOf_95 : decode cX9_sumOf 95 = .ok (.if_icmp .ne 20, 3) := by decide +kernel
theorem dX9_sumOf_98 : decode cX9_sumOf 98 = .ok (.aload_n 0, 1) := by decide +kernel
theorem dX9_sumOf_99 : decode cX9_sumOf 99 = .ok (.getfield 7, 3) := by decide +kernel
theorem dX9_sumOf_102 : decode cX9_sumOf 102 = .ok (.sipush 501, 3) := by decide +kernel
theorem dX9_sumOf_105 : decode cX9_sumOf 105 = .ok (.iconst 2, 1) := by decide +kernel
theorem dX9_sumOf_106 : decode cX9_sumOf 106 = .ok (.iload_n 3, 1) := by decide +kernel
theorem dX9_sumOf_107 : decode cX9_sumOf 107 = .ok (.imul, 1) := by decide +kernel
theorem dX9_sumOf_108 : decode cX9_sumOf 108 = .ok (.iadd, 1) := by decide +kernel
theorem dX9_sumOf_109 : decode cX9_sumOf 109 = .ok (.iconst 1, 1) := by decide +kernel
theorem dX9_sumOf_110 : decode cX9_sumOf 110 = .ok (.iadd, 1) := by decide +kernel
theorem dX9_sumOf_111 : decode cX9_sumOf 111 = .ok (.iaload, 1) := by decide +kernel
theorem dX9_sumOf_112 : decode cX9_sumOf 112 = .ok (.goto 25, 3) := by decide +kernel
theorem dX9_sumOf_115 : decode cX9_sumOf 115 = .ok (.iload_n 1, 1) := by decide +kernel
theorem dX9_sumOf_116 : decode cX9_sumOf 116 = .ok (.bipush 6, 2) := by decide +kernel
theorem dX9_sumOf_118 : decode cX9_sumOf 118 = .ok (.if_icmp .ne 18, 3) := by decide +kernel
theorem dX9_sumOf_121 : decode cX9_sumOf 121 = .ok (.aload_n 0, 1) := by decide +kernel
theorem dX9_sumOf_122 : decode cX9_sumOf 122 = .ok (.getfield 7, 3) := by decide +kernel
theorem dX9_sumOf_125 : decode cX9_sumOf 125 = .ok (.sipush 501, 3) := by decide +kernel
theorem dX9_sumOf_128 : decode cX9_sumOf 128 = .ok (.iconst 2, 1) := by decide +kernel
theorem dX9_sumOf_129 : decode cX9_sumOf 129 = .ok (.iload_n 3, 1) := by decide +kernel
theorem dX9_sumOf_130 : decode cX9_sumOf 130 = .ok (.imul, 1) := by decide +kernel
theorem dX9_sumOf_131 : decode cX9_sumOf 131 = .ok (.iadd, 1) := by decide +kernel
theorem dX9_sumOf_132 : decode cX9_sumOf 132 = .ok (.iaload, 1) := by decide +kernel
theorem dX9_sumOf_133 : decode cX9_sumOf 133 = .ok (.goto 4, 3) := by decide +kernel
theorem dX9_sumOf_136 : decode cX9_sumOf 136 = .ok (.iconst 0, 1) := by decide +kernel
theorem dX9_sumOf_137 : decode cX9_sumOf 137 = .ok (.iadd, 1) := by decide +kernel
theorem dX9_sumOf_138 : decode cX9_sumOf 138 = .ok (.istore_n 2, 1) := by decide +kernel
theorem dX9_sumOf_139 : decode cX9_sumOf 139 = .ok (.iinc 3 1, 3) := by decide +kernel
theorem dX9_sumOf_142 : decode cX9_sumOf 142 = .ok (.goto (-60), 3) := by decide +kernel
theorem dX9_sumOf_145 : decode cX9_sumOf 145 = .ok (.iload_n 2, 1) := by decide +kernel
theorem dX9_sumOf_146 : decode cX9_sumOf 146 = .ok (.ireturn, 1) := by decide +kernel
theorem dX9_money_0 : decode cX9_money 0 = .ok (.iload_n 1, 1) := by decide +kernel
theorem dX9_money_1 : decode cX9_money 1 = .ok (.iconst 0, 1) := by decide +kernel
theorem dX9_money_2 : decode cX9_money 2 = .ok (.bipush 6, 2) := by decide +kernel
theorem dX9_money_4 : decode cX9_money 4 = .ok (.invokestatic 29, 3) := by decide +kernel
theorem dX9_money_7 : decode cX9_money 7 = .ok (.ifCond .ne 7, 3) := by decide +kernel
theorem dX9_money_10 : decode cX9_money 10 = .ok (.iconst (-1), 1) := by decide +kernel
theorem dX9_money_11 : decode cX9_money 11 = .ok (.goto 21, 3) := by decide +kernel
theorem dX9_money_14 : decode cX9_money 14 = .ok (.iload_n 1, 1) := by decide +kernel
theorem dX9_money_15 : decode cX9_money 15 = .ok (.ifCond .ne 12, 3) := by decide +kernel
theorem dX9_money_18 : decode cX9_money 18 = .ok (.aload_n 0, 1) := by decide +kernel
theorem dX9_money_19 : decode cX9_money 19 = .ok (.getfield 7, 3) := by decide +kernel
theorem dX9_money_22 : decode cX9_money 22 = .ok (.iconst 3, 1) := by decide +kernel
theorem dX9_money_23 : decode cX9_money 23 = .ok (.iaload, 1) := by decide +kernel
theorem dX9_money_24 : decode cX9_money 24 = .ok (.goto 8, 3) := by decide +kernel
theorem dX9_money_27 : decode cX9_money 27 = .ok (.aload_n 0, 1) := by decide +kernel
theorem dX9_money_28 : decode cX9_money 28 = .ok (.iload_n 1, 1) := by decide +kernel
theorem dX9_money_29 : decode cX9_money 29 = .ok (.invokevirtual 181, 3) := by decide +kernel
theorem dX9_money_32 : decode cX9_money 32 = .ok (.ireturn, 1) := by decide +kernel
theorem dX9_forecast_0 : decode cX9_forecast 0 = .ok (.aload_n 0, 1) := by decide +kernel
theorem dX9_forecast_1 : decode cX9_forecast 1 = .ok (.iload_n 1, 1) := by decide +kernel
theorem dX9_forecast_2 : decode cX9_forecast 2 = .ok (.invokevirtual 77, 3) := by decide +kernel
theorem dX9_forecast_5 : decode cX9_forecast 5 = .ok (.ifCond .eq 12, 3) := by decide +kernel
theorem dX9_forecast_8 : decode cX9_forecast 8 = .ok (.iload_n 2, 1) := by decide +kernel
theorem dX9_forecast_9 : decode cX9_forecast 9 = .ok (.iconst 0, 1) := by decide +kernel
theorem dX9_forecast_10 : decode cX9_forecast 10 = .ok (.iconst 2, 1) := by decide +kernel
theorem dX9_forecast_11 : decode cX9_forecast 11 = .ok (.invokestatic 29, 3) := by decide +kernel
theorem dX9_forecast_14 : decode cX9_forecast 14 = .ok (.ifCond .ne 5, 3) := by decide +kernel
theorem dX9_forecast_17 : decode cX9_forecast 17 = .ok (.iconst (-1), 1) := by decide +kernel
theorem dX9_forecast_18 : decode cX9_forecast 18 = .ok (.ireturn, 1) := by decide +kernel
theorem dX9_forecast_19 : decode cX9_forecast 19 = .ok (.aload_n 0, 1) := by decide +kernel
theorem dX9_forecast_20 : decode cX9_forecast 20 = .ok (.iload_n 1, 1) := by decide +kernel
theorem dX9_forecast_21 : decode cX9_forecast 21 = .ok (.iconst 3, 1) := by decide +kernel
theorem dX9_forecast_22 : decode cX9_forecast 22 = .ok (.invokevirtual 58, 3) := by decide +kernel
theorem dX9_forecast_25 : decode cX9_forecast 25 = .ok (.ifCond .eq 6, 3) := by decide +kernel
theorem dX9_forecast_28 : decode cX9_forecast 28 = .ok (.bipush (-9), 2) := by decide +kernel
theorem dX9_forecast_30 : decode cX9_forecast 30 = .ok (.ireturn, 1) := by decide +kernel
theorem dX9_forecast_31 : decode cX9_forecast 31 = .ok (.aload_n 0, 1) := by decide +kernel
theorem dX9_forecast_32 : decode cX9_forecast 32 = .ok (.iload_n 1, 1) := by decide +kernel
theorem dX9_forecast_33 : decode cX9_forecast 33 = .ok (.iconst 0, 1) := by decide +kernel
theorem dX9_forecast_34 : decode cX9_forecast 34 = .ok (.invokevirtual 92, 3) := by decide +kernel
theorem dX9_forecast_37 : decode cX9_forecast 37 = .ok (.istore_n 3, 1) := by decide +kernel
theorem dX9_forecast_38 : decode cX9_forecast 38 = .ok (.iload_n 3, 1) := by decide +kernel
theorem dX9_forecast_39 : decode cX9_forecast 39 = .ok (.aload_n 0, 1) := by decide +kernel
theorem dX9_forecast_40 : decode cX9_forecast 40 = .ok (.iload_n 1, 1) := by decide +kernel
theorem dX9_forecast_41 : decode cX9_forecast 41 = .ok (.iconst 1, 1) := by decide +kernel
theorem dX9_forecast_42 : decode cX9_forecast 42 = .ok (.invokevirtual 58, 3) := by decide +kernel
theorem dX9_forecast_45 : decode cX9_forecast 45 = .ok (.isub, 1) := by decide +kernel
theorem dX9_forecast_46 : decode cX9_forecast 46 = .ok (.istore 4, 2) := by decide +kernel
theorem dX9_forecast_48 : decode cX9_forecast 48 = .ok (.iload_n 2, 1) := by decide +kernel
theorem dX9_forecast_49 : decode cX9_forecast 49 = .ok (.ifCond .ne 7, 3) := by decide +kernel
theorem dX9_forecast_52 : decode cX9_forecast 52 = .ok (.iload_n 3, 1) := by decide +kernel
theorem dX9_forecast_53 : decode cX9_forecast 53 = .ok (.goto 25, 3) := by decide +kernel
theorem dX9_forecast_56 : decode cX9_forecast 56 = .ok (.iload_n 2, 1) := by decide +kernel
theorem dX9_forecast_57 : decode cX9_forecast 57 = .ok (.iconst 1, 1) := by decide +kernel
theorem dX9_forecast_58 : decode cX9_forecast 58 = .ok (.if_icmp .ne 8, 3) := by decide +kernel
theorem dX9_forecast_61 : decode cX9_forecast 61 = .ok (.iload 4, 2) := by decide +kernel
theorem dX9_forecast_63 : decode cX9_forecast 63 = .ok (.goto 15, 3) := by decide +kernel
theorem dX9_forecast_66 : decode cX9_forecast 66 = .ok (.aload_n 0, 1) := by decide +kernel
theorem dX9_forecast_67 : decode cX9_forecast 67 = .ok (.aload_n 0, 1) := by decide +kernel
theorem dX9_forecast_68 : decode cX9_forecast 68 = .ok (.iload_n 1, 1) := by decide +kernel
theorem dX9_forecast_69 : decode cX9_forecast 69 = .ok (.iconst 4, 1) := by decide +kernel
theorem dX9_forecast_70 : decode cX9_forecast 70 = .ok (.invokevirtual 58, 3) := by decide +kernel
theorem dX9_forecast_73 : decode cX9_forecast 73 = .ok (.iload 4, 2) := by decide +kernel
theorem dX9_forecast_75 : decode cX9_forecast 75 = .ok (.invokevirtual 108, 3) := by decide +kernel
theorem dX9_forecast_78 : decode cX9_forecast 78 = .ok (.ireturn, 1) := by decide +kernel
theorem dX9_freeTime_0 : decode cX9_freeTime 0 = .ok (.aload_n 0, 1) := by decide +kernel
theorem dX9_freeTime_1 : decode cX9_freeTime 1 = .ok (.iload_n 1, 1) := by decide +kernel
theorem dX9_freeTime_2 : decode cX9_freeTime 2 = .ok (.invokevirtual 44, 3) := by decide +kernel
theorem dX9_freeTime_5 : decode cX9_freeTime 5 = .ok (.ifCond .eq 14, 3) := by decide +kernel
theorem dX9_freeTime_8 : decode cX9_freeTime 8 = .ok (.iload_n 2, 1) := by decide +kernel
theorem dX9_freeTime_9 : decode cX9_freeTime 9 = .ok (.iconst 0, 1) := by decide +kernel
theorem dX9_freeTime_10 : decode cX9_freeTime 10 = .ok (.sipush 720, 3) := by decide +kernel
theorem dX9_freeTime_13 : decode cX9_freeTime 13 = .ok (.invokestatic 29, 3) := by decide +kernel
theorem dX9_freeTime_16 : decode cX9_freeTime 16 = .ok (.ifCond .ne 5, 3) := by decide +kernel
theorem dX9_freeTime_19 : decode cX9_freeTime 19 = .ok (.iconst (-1), 1) := by decide +kernel
theorem dX9_freeTime_20 : decode cX9_freeTime 20 = .ok (.ireturn, 1) := by decide +kernel
theorem dX9_freeTime_21 : decode cX9_freeTime 21 = .ok (.iload_n 2, 1) := by decide +kernel
theorem dX9_freeTime_22 : decode cX9_freeTime 22 = .ok (.istore_n 3, 1) := by decide +kernel
theorem dX9_freeTime_23 : decode cX9_freeTime 23 = .ok (.iload_n 3, 1) := by decide +kernel
theorem dX9_freeTime_24 : decode cX9_freeTime 24 = .ok (.sipush 720, 3) := by decide +kernel
theorem dX9_freeTime_27 : decode cX9_freeTime 27 = .ok (.if_icmp .gt 22, 3) := by decide +kernel
theorem dX9_freeTime_30 : decode cX9_freeTime 30 = .ok (.aload_n 0, 1) := by decide +kernel
theorem dX9_freeTime_31 : decode cX9_freeTime 31 = .ok (.iload_n 1, 1) := by decide +kernel
theorem dX9_freeTime_32 : decode cX9_freeTime 32 = .ok (.iload_n 3, 1) := by decide +kernel
theorem dX9_freeTime_33 : decode cX9_freeTime 33 = .ok (.bipush (-9), 2) := by decide +kernel
theorem dX9_freeTime_35 : decode cX9_freeTime 35 = .ok (.invokevirtual 64, 3) := by decide +kernel
theorem dX9_freeTime_38 : decode cX9_freeTime 38 = .ok (.ifCond .eq 5, 3) := by decide +kernel
theorem dX9_freeTime_41 : decode cX9_freeTime 41 = .ok (.iload_n 3, 1) := by decide +kernel
theorem dX9_freeTime_42 : decode cX9_freeTime 42 = .ok (.ireturn, 1) := by decide +kernel
theorem dX9_freeTime_43 : decode cX9_freeTime 43 = .ok (.iinc 3 1, 3) := by decide +kernel
theorem dX9_freeTime_46 : decode cX9_freeTime 46 = .ok (.goto (-23), 3) := by decide +kernel
theorem dX9_freeTime_49 : decode cX9_freeTime 49 = .ok (.bipush (-9), 2) := by decide +kernel
theorem dX9_freeTime_51 : decode cX9_freeTime 51 = .ok (.ireturn, 1) := by decide +kernel
theorem dX9_areMergeable_0 : decode cX9_areMergeable 0 = .ok (.aload_n 0, 1) := by decide +kernel
theorem dX9_areMergeable_1 : decode cX9_areMergeable 1 = .ok (.iload_n 1, 1) := by decide +kernel
theorem dX9_areMergeable_2 : decode cX9_areMergeable 2 = .ok (.iconst 3, 1) := by decide +kernel
theorem dX9_areMergeable_3 : decode cX9_areMergeable 3 = .ok (.invokevirtual 58, 3) := by decide +kernel
theorem dX9_areMergeable_6 : decode cX9_areMergeable 6 = .ok (.ifCond .ne 36, 3) := by decide +kernel
theorem dX9_areMergeable_9 : decode cX9_areMergeable 9 = .ok (.aload_n 0, 1) := by decide +kernel
theorem dX9_areMergeable_10 : decode cX9_areMergeable 10 = .ok (.iload_n 2, 1) := by decide +kernel
theorem dX9_areMergeable_11 : decode cX9_areMergeable 11 = .ok (.iconst 3, 1) := by decide +kernel
theorem dX9_areMergeable_12 : decode cX9_areMergeable 12 = .ok (.invokevirtual 58, 3) := by decide +kernel
theorem dX9_areMergeable_15 : decode cX9_areMergeable 15 = .ok (.ifCond .ne 27, 3) := by decide +kernel
theorem dX9_areMergeable_18 : decode cX9_areMergeable 18 = .ok (.aload_n 0, 1) := by decide +kernel
theorem dX9_areMergeable_19 : decode cX9_areMergeable 19 = .ok (.iload_n 1, 1) := by decide +kernel
theorem dX9_areMergeable_20 : decode cX9_areMergeable 20 = .ok (.iconst 0, 1) := by decide +kernel
theorem dX9_areMergeable_21 : decode cX9_areMergeable 21 = .ok (.invokevirtual 58, 3) := by decide +kernel
theorem dX9_areMergeable_24 : decode cX9_areMergeable 24 = .ok (.iload_n 3, 1) := by decide +kernel
theorem dX9_areMergeable_25 : decode cX9_areMergeable 25 = .ok (.if_icmp .ne 17, 3) := by decide +kernel
theorem dX9_areMergeable_28 : decode cX9_areMergeable 28 = .ok (.aload_n 0, 1) := by decide +kernel
theorem dX9_areMergeable_29 : decode cX9_areMergeable 29 = .ok (.iload_n 2, 1) := by decide +kernel
theorem dX9_areMergeable_30 : decode cX9_areMergeable 30 = .ok (.iconst 0, 1) := by decide +kernel
theorem dX9_areMergeable_31 : decode cX9_areMergeable 31 = .ok (.invokevirtual 58, 3) := by decide +kernel
theorem dX9_areMergeable_34 : decode cX9_areMergeable 34 = .ok (.iload_n 3, 1) := by decide +kernel
theorem dX9_areMergeable_35 : decode cX9_areMergeable 35 = .ok (.if_icmp .ne 7, 3) := by decide +kernel
theorem dX9_areMergeable_38 : decode cX9_areMergeable 38 = .ok (.iconst 1, 1) := by decide +kernel
theorem dX9_areMergeable_39 : decode cX9_areMergeable 39 = .ok (.goto 4, 3) := by decide +kernel
theorem dX9_areMergeable_42 : decode cX9_areMergeable 42 = .ok (.iconst 0, 1) := by decide +kernel
theorem dX9_areMergeable_43 : decode cX9_areMergeable 43 = .ok (.istore 4, 2) := by decide +kernel
theorem dX9_areMergeable_45 : decode cX9_areMergeable 45 = .ok (.iload 4, 2) := by decide +kernel
theorem dX9_areMergeable_47 : decode cX9_areMergeable 47 = .ok (.ifCond .eq 29, 3) := by decide +kernel
theorem dX9_areMergeable_50 : decode cX9_areMergeable 50 = .ok (.aload_n 0, 1) := by decide +kernel
theorem dX9_areMergeable_51 : decode cX9_areMergeable 51 = .ok (.iload_n 1, 1) := by decide +kernel
theorem dX9_areMergeable_52 : decode cX9_areMergeable 52 = .ok (.iconst 2, 1) := by decide +kernel
theorem dX9_areMergeable_53 : decode cX9_areMergeable 53 = .ok (.invokevirtual 58, 3) := by decide +kernel
theorem dX9_areMergeable_56 : decode cX9_areMergeable 56 = .ok (.aload_n 0, 1) := by decide +kernel
theorem dX9_areMergeable_57 : decode cX9_areMergeable 57 = .ok (.iload_n 2, 1) := by decide +kernel
theorem dX9_areMergeable_58 : decode cX9_areMergeable 58 = .ok (.iconst 2, 1) := by decide +kernel
theorem dX9_areMergeable_59 : decode cX9_areMergeable 59 = .ok (.invokevirtual 58, 3) := by decide +kernel
theorem dX9_areMergeable_62 : decode cX9_areMergeable 62 = .ok (.iadd, 1) := by decide +kernel
theorem dX9_areMergeable_63 : decode cX9_areMergeable 63 = .ok (.aload_n 0, 1) := by decide +kernel
theorem dX9_areMergeable_64 : decode cX9_areMergeable 64 = .ok (.iload_n 3, 1) := by decide +kernel
theorem dX9_areMergeable_65 : decode cX9_areMergeable 65 = .ok (.iconst 3, 1) := by decide +kernel
theorem dX9_areMergeable_66 : decode cX9_areMergeable 66 = .ok (.invokevirtual 48, 3) := by decide +kernel
theorem dX9_areMergeable_69 : decode cX9_areMergeable 69 = .ok (.if_icmp .gt 7, 3) := by decide +kernel
theorem dX9_areMergeable_72 : decode cX9_areMergeable 72 = .ok (.iconst 1, 1) := by decide +kernel
theorem dX9_areMergeable_73 : decode cX9_areMergeable 73 = .ok (.goto 4, 3) := by decide +kernel
theorem dX9_areMergeable_76 : decode cX9_areMergeable 76 = .ok (.iconst 0, 1) := by decide +kernel
theorem dX9_areMergeable_77 : decode cX9_areMergeable 77 = .ok (.ireturn, 1) := by decide +kernel
theorem dX9_mergeable_0 : decode cX9_mergeable 0 = .ok (.aload_n 0, 1) := by decide +kernel
theorem dX9_mergeable_1 : decode cX9_mergeable 1 = .ok (.iload_n 1, 1) := by decide +kernel
theorem dX9_mergeable_2 : decode cX9_mergeable 2 = .ok (.invokevirtual 44, 3) := by decide +kernel
theorem dX9_mergeable_5 : decode cX9_mergeable 5 = .ok (.ifCond .eq 12, 3) := by decide +kernel
theorem dX9_mergeable_8 : decode cX9_mergeable 8 = .ok (.iload_n 2, 1) := by decide +kernel
theorem dX9_mergeable_9 : decode cX9_mergeable 9 = .ok (.iconst 0, 1) := by decide +kernel
theorem dX9_mergeable_10 : decode cX9_mergeable 10 = .ok (.iconst 2, 1) := by decide +kernel
theorem dX9_mergeable_11 : decode cX9_mergeable 11 = .ok (.invokestatic 29, 3) := by decide +kernel
theorem dX9_mergeable_14 : decode cX9_mergeable 14 = .ok (.ifCond .ne 5, 3) := by decide +kernel
theorem dX9_mergeable_17 : decode cX9_mergeable 17 = .ok (.iconst (-1), 1) := by decide +kernel
theorem dX9_mergeable_18 : decode cX9_mergeable 18 = .ok (.ireturn, 1) := by decide +kernel
theorem dX9_mergeable_19 : decode cX9_mergeable 19 = .ok (.bipush (-9), 2) := by decide +kernel
theorem dX9_mergeable_21 : decode cX9_mergeable 21 = .ok (.istore_n 3, 1) := by decide +kernel
theorem dX9_mergeable_22 : decode cX9_mergeable 22 = .ok (.bipush (-9), 2) := by decide +kernel
theorem dX9_mergeable_24 : decode cX9_mergeable 24 = .ok (.istore 4, 2) := by decide +kernel
theorem dX9_mergeable_26 : decode cX9_mergeable 26 = .ok (.bipush (-9), 2) := by decide +kernel
theorem dX9_mergeable_28 : decode cX9_mergeable 28 = .ok (.istore 5, 2) := by decide +kernel
theorem dX9_mergeable_30 : decode cX9_mergeable 30 = .ok (.iconst 0, 1) := by decide +kernel
theorem dX9_mergeable_31 : decode cX9_mergeable 31 = .ok (.istore 6, 2) := by decide +kernel
theorem dX9_mergeable_33 : decode cX9_mergeable 33 = .ok (.iload 6, 2) := by decide +kernel
theorem dX9_mergeable_35 : decode cX9_mergeable 35 = .ok (.aload_n 0, 1) := by decide +kernel
theorem dX9_mergeable_36 : decode cX9_mergeable 36 = .ok (.getfield 7, 3) := by decide +kernel
theorem dX9_mergeable_39 : decode cX9_mergeable 39 = .ok (.iconst 1, 1) := by decide +kernel
theorem dX9_mergeable_40 : decode cX9_mergeable 40 = .ok (.iaload, 1) := by decide +kernel
theorem dX9_mergeable_41 : decode cX9_mergeable 41 = .ok (.if_icmp .ge 78, 3) := by decide +kernel
theorem dX9_mergeable_44 : decode cX9_mergeable 44 = .ok (.iload 6, 2) := by decide +kernel
theorem dX9_mergeable_46 : decode cX9_mergeable 46 = .ok (.iconst 1, 1) := by decide +kernel
theorem dX9_mergeable_47 : decode cX9_mergeable 47 = .ok (.iadd, 1) := by decide +kernel
theorem dX9_mergeable_48 : decode cX9_mergeable 48 = .ok (.istore 7, 2) := by decide +kernel
theorem dX9_mergeable_50 : decode cX9_mergeable 50 = .ok (.iload 7, 2) := by decide +kernel
theorem dX9_mergeable_52 : decode cX9_mergeable 52 = .ok (.aload_n 0, 1) := by decide +kernel
theorem dX9_mergeable_53 : decode cX9_mergeable 53 = .ok (.getfield 7, 3) := by decide +kernel
theorem dX9_mergeable_56 : decode cX9_mergeable 56 = .ok (.iconst 1, 1) := by decide +kernel
theorem dX9_mergeable_57 : decode cX9_mergeable 57 = .ok (.iaload, 1) := by decide +kernel
theorem dX9_mergeable_58 : decode cX9_mergeable 58 = .ok (.if_icmp .ge 55, 3) := by decide +kernel
theorem dX9_mergeable_61 : decode cX9_mergeable 61 = .ok (.aload_n 0, 1) := by decide +kernel
theorem dX9_mergeable_62 : decode cX9_mergeable 62 = .ok (.iload 6, 2) := by decide +kernel
theorem dX9_mergeable_64 : decode cX9_mergeable 64 = .ok (.iconst 2, 1) := by decide +kernel
theorem dX9_mergeable_65 : decode cX9_mergeable 65 = .ok (.invokevirtual 58, 3) := by decide +kernel
theorem dX9_mergeable_68 : decode cX9_mergeable 68 = .ok (.aload_n 0, 1) := by decide +kernel
theorem dX9_mergeable_69 : decode cX9_mergeable 69 = .ok (.iload 7, 2) := by decide +kernel
theorem dX9_mergeable_71 : decode cX9_mergeable 71 = .ok (.iconst 2, 1) := by decide +kernel
theorem dX9_mergeable_72 : decode cX9_mergeable 72 = .ok (.invokevirtual 58, 3) := by decide +kernel
theorem dX9_mergeable_75 : decode cX9_mergeable 75 = .ok (.iadd, 1) := by decide +kernel
theorem dX9_mergeable_76 : decode cX9_mergeable 76 = .ok (.istore 8, 2) := by decide +kernel
theorem dX9_mergeable_78 : decode cX9_mergeable 78 = .ok (.aload_n 0, 1) := by decide +kernel
theorem dX9_mergeable_79 : decode cX9_mergeable 79 = .ok (.iload 6, 2) := by decide +kernel
theorem dX9_mergeable_81 : decode cX9_mergeable 81 = .ok (.iload 7, 2) := by decide +kernel
theorem dX9_mergeable_83 : decode cX9_mergeable 83 = .ok (.iload_n 1, 1) := by decide +kernel
theorem dX9_mergeable_84 : decode cX9_mergeable 84 = .ok (.invokevirtual 184, 3) := by decide +kernel
theorem dX9_mergeable_87 : decode cX9_mergeable 87 = .ok (.ifCond .eq 20, 3) := by decide +kernel
theorem dX9_mergeable_90 : decode cX9_mergeable 90 = .ok (.iload 8, 2) := by decide +kernel
theorem dX9_mergeable_92 : decode cX9_mergeable 92 = .ok (.iload_n 3, 1) := by decide +kernel
theorem dX9_mergeable_93 : decode cX9_mergeable 93 = .ok (.if_icmp .le 14, 3) := by decide +kernel
theorem dX9_mergeable_96 : decode cX9_mergeable 96 = .ok (.iload 8, 2) := by decide +kernel
theorem dX9_mergeable_98 : decode cX9_mergeable 98 = .ok (.istore_n 3, 1) := by decide +kernel
theorem dX9_mergeable_99 : decode cX9_mergeable 99 = .ok (.iload 6, 2) := by decide +kernel
theorem dX9_mergeable_101 : decode cX9_mergeable 101 = .ok (.istore 4, 2) := by decide +kernel
theorem dX9_mergeable_103 : decode cX9_mergeable 103 = .ok (.iload 7, 2) := by decide +kernel
theorem dX9_mergeable_105 : decode cX9_mergeable 105 = .ok (.istore 5, 2) := by decide +kernel
theorem dX9_mergeable_107 : decode cX9_mergeable 107 = .ok (.iinc 7 1, 3) := by decide +kernel
theorem dX9_mergeable_110 : decode cX9_mergeable 110 = .ok (.goto (-60), 3) := by decide +kernel
theorem dX9_mergeable_113 : decode cX9_mergeable 113 = .ok (.iinc 6 1, 3) := by decide +kernel
theorem dX9_mergeable_116 : decode cX9_mergeable 116 = .ok (.goto (-83), 3) := by decide +kernel
theorem dX9_mergeable_119 : decode cX9_mergeable 119 = .ok (.iload_n 2, 1) := by decide +kernel
theorem dX9_mergeable_120 : decode cX9_mergeable 120 = .ok (.ifCond .ne 8, 3) := by decide +kernel
theorem dX9_mergeable_123 : decode cX9_mergeable 123 = .ok (.iload 4, 2) := by decide +kernel
theorem dX9_mergeable_125 : decode cX9_mergeable 125 = .ok (.goto 14, 3) := by decide +kernel
theorem dX9_mergeable_128 : decode cX9_mergeable 128 = .ok (.iload_n 2, 1) := by decide +kernel
theorem dX9_mergeable_129 : decode cX9_mergeable 129 = .ok (.iconst 1, 1) := by decide +kernel
theorem dX9_mergeable_130 : decode cX9_mergeable 130 = .ok (.if_icmp .ne 8, 3) := by decide +kernel
theorem dX9_mergeable_133 : decode cX9_mergeable 133 = .ok (.iload 5, 2) := by decide +kernel
theorem dX9_mergeable_135 : decode cX9_mergeable 135 = .ok (.goto 4, 3) := by decide +kernel
theorem dX9_mergeable_138 : decode cX9_mergeable 138 = .ok (.iload_n 3, 1) := by decide +kernel
theorem dX9_mergeable_139 : decode cX9_mergeable 139 = .ok (.ireturn, 1) := by decide +kernel
theorem dX9_isLate_0 : decode cX9_isLate 0 = .ok (.iconst 0, 1) := by decide +kernel
theorem dX9_isLate_1 : decode cX9_isLate 1 = .ok (.istore_n 3, 1) := by decide +kernel
theorem dX9_isLate_2 : decode cX9_isLate 2 = .ok (.iconst 0, 1) := by decide +kernel
theorem dX9_isLate_3 : decode cX9_isLate 3 = .ok (.istore 4, 2) := by decide +kernel
theorem dX9_isLate_5 : decode cX9_isLate 5 = .ok (.iload 4, 2) := by decide +kernel
theorem dX9_isLate_7 : decode cX9_isLate 7 = .ok (.aload_n 0, 1) := by decide +kernel
theorem dX9_isLate_8 : decode cX9_isLate 8 = .ok (.getfield 7, 3) := by decide +kernel
theorem dX9_isLate_11 : decode cX9_isLate 11 = .ok (.iconst 1, 1) := by decide +kernel
theorem dX9_isLate_12 : decode cX9_isLate 12 = .ok (.iaload, 1) := by decide +kernel
theorem dX9_isLate_13 : decode cX9_isLate 13 = .ok (.if_icmp .ge 65, 3) := by decide +kernel
theorem dX9_isLate_16 : decode cX9_isLate 16 = .ok (.iload_n 3, 1) := by decide +kernel
theorem dX9_isLate_17 : decode cX9_isLate 17 = .ok (.ifCond .ne 49, 3) := by decide +kernel
theorem dX9_isLate_20 : decode cX9_isLate 20 = .ok (.aload_n 0, 1) := by decide +kernel
theorem dX9_isLate_21 : decode cX9_isLate 21 = .ok (.iload 4, 2) := by decide +kernel
theorem dX9_isLate_23 : decode cX9_isLate 23 = .ok (.iconst 0, 1) := by decide +kernel
theorem dX9_isLate_24 : decode cX9_isLate 24 = .ok (.invokevirtual 58, 3) := by decide +kernel
theorem dX9_isLate_27 : decode cX9_isLate 27 = .ok (.iload_n 1, 1) := by decide +kernel
theorem dX9_isLate_28 : decode cX9_isLate 28 = .ok (.if_icmp .ne 42, 3) := by decide +kernel
theorem dX9_isLate_31 : decode cX9_isLate 31 = .ok (.aload_n 0, 1) := by decide +kernel
theorem dX9_isLate_32 : decode cX9_isLate 32 = .ok (.iload 4, 2) := by decide +kernel
theorem dX9_isLate_34 : decode cX9_isLate 34 = .ok (.iconst 3, 1) := by decide +kernel
theorem dX9_isLate_35 : decode cX9_isLate 35 = .ok (.invokevirtual 58, 3) := by decide +kernel
theorem dX9_isLate_38 : decode cX9_isLate 38 = .ok (.ifCond .ne 32, 3) := by decide +kernel
theorem dX9_isLate_41 : decode cX9_isLate 41 = .ok (.aload_n 0, 1) := by decide +kernel
theorem dX9_isLate_42 : decode cX9_isLate 42 = .ok (.iload 4, 2) := by decide +kernel
theorem dX9_isLate_44 : decode cX9_isLate 44 = .ok (.iload_n 2, 1) := by decide +kernel
theorem dX9_isLate_45 : decode cX9_isLate 45 = .ok (.invokevirtual 92, 3) := by decide +kernel
theorem dX9_isLate_48 : decode cX9_isLate 48 = .ok (.aload_n 0, 1) := by decide +kernel
theorem dX9_isLate_49 : decode cX9_isLate 49 = .ok (.iload 4, 2) := by decide +kernel
theorem dX9_isLate_51 : decode cX9_isLate 51 = .ok (.iconst 1, 1) := by decide +kernel
theorem dX9_isLate_52 : decode cX9_isLate 52 = .ok (.invokevirtual 58, 3) := by decide +kernel
theorem dX9_isLate_55 : decode cX9_isLate 55 = .ok (.isub, 1) := by decide +kernel
theorem dX9_isLate_56 : decode cX9_isLate 56 = .ok (.aload_n 0, 1) := by decide +kernel
theorem dX9_isLate_57 : decode cX9_isLate 57 = .ok (.getfield 7, 3) := by decide +kernel
theorem dX9_isLate_60 : decode cX9_isLate 60 = .ok (.bipush 7, 2) := by decide +kernel
theorem dX9_isLate_62 : decode cX9_isLate 62 = .ok (.iaload, 1) := by decide +kernel
theorem dX9_isLate_63 : decode cX9_isLate 63 = .ok (.if_icmp .le 7, 3) := by decide +kernel
theorem dX9_isLate_66 : decode cX9_isLate 66 = .ok (.iconst 1, 1) := by decide +kernel
theorem dX9_isLate_67 : decode cX9_isLate 67 = .ok (.goto 4, 3) := by decide +kernel
theorem dX9_isLate_70 : decode cX9_isLate 70 = .ok (.iconst 0, 1) := by decide +kernel
theorem dX9_isLate_71 : decode cX9_isLate 71 = .ok (.istore_n 3, 1) := by decide +kernel
theorem dX9_isLate_72 : decode cX9_isLate 72 = .ok (.iinc 4 1, 3) := by decide +kernel
theorem dX9_isLate_75 : decode cX9_isLate 75 = .ok (.goto (-70), 3) := by decide +kernel
theorem dX9_isLate_78 : decode cX9_isLate 78 = .ok (.iload_n 3, 1) := by decide +kernel
theorem dX9_isLate_79 : decode cX9_isLate 79 = .ok (.ireturn, 1) := by decide +kernel
theorem dX9_slack_0 : decode cX9_slack 0 = .ok (.aload_n 0, 1) := by decide +kernel
theorem dX9_slack_1 : decode cX9_slack 1 = .ok (.iload_n 1, 1) := by decide +kernel
theorem dX9_slack_2 : decode cX9_slack 2 = .ok (.invokevirtual 44, 3) := by decide +kernel
theorem dX9_slack_5 : decode cX9_slack 5 = .ok (.ifCond .ne 5, 3) := by decide +kernel
theorem dX9_slack_8 : decode cX9_slack 8 = .ok (.iconst (-1), 1) := by decide +kernel
theorem dX9_slack_9 : decode cX9_slack 9 = .ok (.ireturn, 1) := by decide +kernel
theorem dX9_slack_10 : decode cX9_slack 10 = .ok (.aload_n 0, 1) := by decide +kernel
theorem dX9_slack_11 : decode cX9_slack 11 = .ok (.iload_n 1, 1) := by decide +kernel
theorem dX9_slack_12 : decode cX9_slack 12 = .ok (.iconst (-1), 1) := by decide +kernel
theorem dX9_slack_13 : decode cX9_slack 13 = .ok (.invokevirtual 83, 3) := by decide +kernel
theorem dX9_slack_16 : decode cX9_slack 16 = .ok (.bipush (-9), 2) := by decide +kernel
theorem dX9_slack_18 : decode cX9_slack 18 = .ok (.if_icmp .eq 12, 3) := by decide +kernel
theorem dX9_slack_21 : decode cX9_slack 21 = .ok (.aload_n 0, 1) := by decide +kernel
theorem dX9_slack_22 : decode cX9_slack 22 = .ok (.iload_n 1, 1) := by decide +kernel
theorem dX9_slack_23 : decode cX9_slack 23 = .ok (.iconst 0, 1) := by decide +kernel
theorem dX9_slack_24 : decode cX9_slack 24 = .ok (.invokevirtual 187, 3) := by decide +kernel
theorem dX9_slack_27 : decode cX9_slack 27 = .ok (.ifCond .eq 6, 3) := by decide +kernel
theorem dX9_slack_30 : decode cX9_slack 30 = .ok (.bipush (-9), 2) := by decide +kernel
theorem dX9_slack_32 : decode cX9_slack 32 = .ok (.ireturn, 1) := by decide +kernel
theorem dX9_slack_33 : decode cX9_slack 33 = .ok (.iconst 0, 1) := by decide +kernel
theorem dX9_slack_34 : decode cX9_slack 34 = .ok (.istore_n 2, 1) := by decide +kernel
theorem dX9_slack_35 : decode cX9_slack 35 = .ok (.iload_n 2, 1) := by decide +kernel
theorem dX9_slack_36 : decode cX9_slack 36 = .ok (.sipush 999, 3) := by decide +kernel
theorem dX9_slack_39 : decode cX9_slack 39 = .ok (.if_icmp .ge 20, 3) := by decide +kernel
theorem dX9_slack_42 : decode cX9_slack 42 = .ok (.aload_n 0, 1) := by decide +kernel
theorem dX9_slack_43 : decode cX9_slack 43 = .ok (.iload_n 1, 1) := by decide +kernel
theorem dX9_slack_44 : decode cX9_slack 44 = .ok (.iload_n 2, 1) := by decide +kernel
theorem dX9_slack_45 : decode cX9_slack 45 = .ok (.iconst 1, 1) := by decide +kernel
theorem dX9_slack_46 : decode cX9_slack 46 = .ok (.iadd, 1) := by decide +kernel
theorem dX9_slack_47 : decode cX9_slack 47 = .ok (.invokevirtual 187, 3) := by decide +kernel
theorem dX9_slack_50 : decode cX9_slack 50 = .ok (.ifCond .ne 9, 3) := by decide +kernel
theorem dX9_slack_53 : decode cX9_slack 53 = .ok (.iinc 2 1, 3) := by decide +kernel
theorem dX9_slack_56 : decode cX9_slack 56 = .ok (.goto (-21), 3) := by decide +kernel
theorem dX9_slack_59 : decode cX9_slack 59 = .ok (.iload_n 2, 1) := by decide +kernel
theorem dX9_slack_60 : decode cX9_slack 60 = .ok (.ireturn, 1) := by decide +kernel
theorem dX9_hintsFor_0 : decode cX9_hintsFor 0 = .ok (.aload_n 0, 1) := by decide +kernel
theorem dX9_hintsFor_1 : decode cX9_hintsFor 1 = .ok (.iload_n 1, 1) := by decide +kernel
theorem dX9_hintsFor_2 : decode cX9_hintsFor 2 = .ok (.invokevirtual 77, 3) := by decide +kernel
theorem dX9_hintsFor_5 : decode cX9_hintsFor 5 = .ok (.ifCond .eq 22, 3) := by decide +kernel
theorem dX9_hintsFor_8 : decode cX9_hintsFor 8 = .ok (.iload_n 2, 1) := by decide +kernel
theorem dX9_hintsFor_9 : decode cX9_hintsFor 9 = .ok (.iconst 1, 1) := by decide +kernel
theorem dX9_hintsFor_10 : decode cX9_hintsFor 10 = .ok (.aload_n 0, 1) := by decide +kernel
theorem dX9_hintsFor_11 : decode cX9_hintsFor 11 = .ok (.aload_n 0, 1) := by decide +kernel
theorem dX9_hintsFor_12 : decode cX9_hintsFor 12 = .ok (.iload_n 1, 1) := by decide +kernel
theorem dX9_hintsFor_13 : decode cX9_hintsFor 13 = .ok (.iconst 0, 1) := by decide +kernel
theorem dX9_hintsFor_14 : decode cX9_hintsFor 14 = .ok (.invokevirtual 58, 3) := by decide +kernel
theorem dX9_hintsFor_17 : decode cX9_hintsFor 17 = .ok (.iconst 0, 1) := by decide +kernel
theorem dX9_hintsFor_18 : decode cX9_hintsFor 18 = .ok (.invokevirtual 48, 3) := by decide +kernel
theorem dX9_hintsFor_21 : decode cX9_hintsFor 21 = .ok (.invokestatic 29, 3) := by decide +kernel
theorem dX9_hintsFor_24 : decode cX9_hintsFor 24 = .ok (.ifCond .ne 5, 3) := by decide +kernel
theorem dX9_hintsFor_27 : decode cX9_hintsFor 27 = .ok (.iconst (-1), 1) := by decide +kernel
theorem dX9_hintsFor_28 : decode cX9_hintsFor 28 = .ok (.ireturn, 1) := by decide +kernel
theorem dX9_hintsFor_29 : decode cX9_hintsFor 29 = .ok (.aload_n 0, 1) := by decide +kernel
theorem dX9_hintsFor_30 : decode cX9_hintsFor 30 = .ok (.iload_n 1, 1) := by decide +kernel
theorem dX9_hintsFor_31 : decode cX9_hintsFor 31 = .ok (.iconst 3, 1) := by decide +kernel
theorem dX9_hintsFor_32 : decode cX9_hintsFor 32 = .ok (.invokevirtual 58, 3) := by decide +kernel
theorem dX9_hintsFor_35 : decode cX9_hintsFor 35 = .ok (.ifCond .eq 6, 3) := by decide +kernel
theorem dX9_hintsFor_38 : decode cX9_hintsFor 38 = .ok (.bipush (-2), 2) := by decide +kernel
theorem dX9_hintsFor_40 : decode cX9_hintsFor 40 = .ok (.ireturn, 1) := by decide +kernel
theorem dX9_hintsFor_41 : decode cX9_hintsFor 41 = .ok (.aload_n 0, 1) := by decide +kernel
theorem dX9_hintsFor_42 : decode cX9_hintsFor 42 = .ok (.aload_n 0, 1) := by decide +kernel
theorem dX9_hintsFor_43 : decode cX9_hintsFor 43 = .ok (.iload_n 1, 1) := by decide +kernel
theorem dX9_hintsFor_44 : decode cX9_hintsFor 44 = .ok (.iconst 0, 1) := by decide +kernel
theorem dX9_hintsFor_45 : decode cX9_hintsFor 45 = .ok (.invokevirtual 58, 3) := by decide +kernel
theorem dX9_hintsFor_48 : decode cX9_hintsFor 48 = .ok (.iconst 0, 1) := by decide +kernel
theorem dX9_hintsFor_49 : decode cX9_hintsFor 49 = .ok (.invokevirtual 48, 3) := by decide +kernel
theorem dX9_hintsFor_52 : decode cX9_hintsFor 52 = .ok (.aload_n 0, 1) := by decide +kernel
theorem dX9_hintsFor_53 : decode cX9_hintsFor 53 = .ok (.getfield 7, 3) := by decide +kernel
theorem dX9_hintsFor_56 : decode cX9_hintsFor 56 = .ok (.iconst 5, 1) := by decide +kernel
theorem dX9_hintsFor_57 : decode cX9_hintsFor 57 = .ok (.iaload, 1) := by decide +kernel
theorem dX9_hintsFor_58 : decode cX9_hintsFor 58 = .ok (.iadd, 1) := by decide +kernel
theorem dX9_hintsFor_59 : decode cX9_hintsFor 59 = .ok (.istore_n 3, 1) := by decide +kernel
theorem dX9_hintsFor_60 : decode cX9_hintsFor 60 = .ok (.iconst 0, 1) := by decide +kernel
theorem dX9_hintsFor_61 : decode cX9_hintsFor 61 = .ok (.istore 4, 2) := by decide +kernel
theorem dX9_hintsFor_63 : decode cX9_hintsFor 63 = .ok (.iload 4, 2) := by decide +kernel
theorem dX9_hintsFor_65 : decode cX9_hintsFor 65 = .ok (.bipush 20, 2) := by decide +kernel
theorem dX9_hintsFor_67 : decode cX9_hintsFor 67 = .ok (.if_icmp .ge 26, 3) := by decide +kernel
theorem dX9_hintsFor_70 : decode cX9_hintsFor 70 = .ok (.iload_n 2, 1) := by decide +kernel
theorem dX9_hintsFor_71 : decode cX9_hintsFor 71 = .ok (.iload 4, 2) := by decide +kernel
theorem dX9_hintsFor_73 : decode cX9_hintsFor 73 = .ok (.iconst 1, 1) := by decide +kernel
theorem dX9_hintsFor_74 : decode cX9_hintsFor 74 = .ok (.iadd, 1) := by decide +kernel
theorem dX9_hintsFor_75 : decode cX9_hintsFor 75 = .ok (.aload_n 0, 1) := by decide +kernel
theorem dX9_hintsFor_76 : decode cX9_hintsFor 76 = .ok (.getfield 7, 3) := by decide +kernel
theorem dX9_hintsFor_79 : decode cX9_hintsFor 79 = .ok (.iconst 4, 1) := by decide +kernel
theorem dX9_hintsFor_80 : decode cX9_hintsFor 80 = .ok (.iaload, 1) := by decide +kernel
theorem dX9_hintsFor_81 : decode cX9_hintsFor 81 = .ok (.imul, 1) := by decide +kernel
theorem dX9_hintsFor_82 : decode cX9_hintsFor 82 = .ok (.iadd, 1) := by decide +kernel
theorem dX9_hintsFor_83 : decode cX9_hintsFor 83 = .ok (.iload_n 3, 1) := by decide +kernel
theorem dX9_hintsFor_84 : decode cX9_hintsFor 84 = .ok (.if_icmp .gt 9, 3) := by decide +kernel
theorem dX9_hintsFor_87 : decode cX9_hintsFor 87 = .ok (.iinc 4 1, 3) := by decide +kernel
theorem dX9_hintsFor_90 : decode cX9_hintsFor 90 = .ok (.goto (-27), 3) := by decide +kernel
theorem dX9_hintsFor_93 : decode cX9_hintsFor 93 = .ok (.iload 4, 2) := by decide +kernel
theorem dX9_hintsFor_95 : decode cX9_hintsFor 95 = .ok (.ireturn, 1) := by decide +kernel
theorem dX9_busiest_0 : decode cX9_busiest 0 = .ok (.iload_n 1, 1) := by decide +kernel
theorem dX9_busiest_1 : decode cX9_busiest 1 = .ok (.ifCond .ge 5, 3) := by decide +kernel
theorem dX9_busiest_4 : decode cX9_busiest 4 = .ok (.iconst (-1), 1) := by decide +kernel
theorem dX9_busiest_5 : decode cX9_busiest 5 = .ok (.ireturn, 1) := by decide +kernel
theorem dX9_busiest_6 : decode cX9_busiest 6 = .ok (.iconst 0, 1) := by decide +kernel
theorem dX9_busiest_7 : decode cX9_busiest 7 = .ok (.istore_n 2, 1) := by decide +kernel
theorem dX9_busiest_8 : decode cX9_busiest 8 = .ok (.iload_n 2, 1) := by decide +kernel
theorem dX9_busiest_9 : decode cX9_busiest 9 = .ok (.aload_n 0, 1) := by decide +kernel
theorem dX9_busiest_10 : decode cX9_busiest 10 = .ok (.getfield 7, 3) := by decide +kernel
theorem dX9_busiest_13 : decode cX9_busiest 13 = .ok (.iconst 0, 1) := by decide +kernel
theorem dX9_busiest_14 : decode cX9_busiest 14 = .ok (.iaload, 1) := by decide +kernel
theorem dX9_busiest_15 : decode cX9_busiest 15 = .ok (.if_icmp .ge 88, 3) := by decide +kernel
theorem dX9_busiest_18 : decode cX9_busiest 18 = .ok (.iconst 0, 1) := by decide +kernel
theorem dX9_busiest_19 : decode cX9_busiest 19 = .ok (.istore_n 3, 1) := by decide +kernel
theorem dX9_busiest_20 : decode cX9_busiest 20 = .ok (.iconst 0, 1) := by decide +kernel
theorem dX9_busiest_21 : decode cX9_busiest 21 = .ok (.istore 4, 2) := by decide +kernel
theorem dX9_busiest_23 : decode cX9_busiest 23 = .ok (.iload 4, 2) := by decide +kernel
theorem dX9_busiest_25 : decode cX9_busiest 25 = .ok (.aload_n 0, 1) := by decide +kernel
theorem dX9_busiest_26 : decode cX9_busiest 26 = .ok (.getfield 7, 3) := by decide +kernel
theorem dX9_busiest_29 : decode cX9_busiest 29 = .ok (.iconst 0, 1) := by decide +kernel
theorem dX9_busiest_30 : decode cX9_busiest 30 = .ok (.iaload, 1) := by decide +kernel
theorem dX9_busiest_31 : decode cX9_busiest 31 = .ok (.if_icmp .ge 59, 3) := by decide +kernel
theorem dX9_busiest_34 : decode cX9_busiest 34 = .ok (.iload_n 3, 1) := by decide +kernel
theorem dX9_busiest_35 : decode cX9_busiest 35 = .ok (.aload_n 0, 1) := by decide +kernel
theorem dX9_busiest_36 : decode cX9_busiest 36 = .ok (.iload 4, 2) := by decide +kernel
theorem dX9_busiest_38 : decode cX9_busiest 38 = .ok (.bipush 8, 2) := by decide +kernel
theorem dX9_busiest_40 : decode cX9_busiest 40 = .ok (.invokevirtual 48, 3) := by decide +kernel
theorem dX9_busiest_43 : decode cX9_busiest 43 = .ok (.aload_n 0, 1) := by decide +kernel
theorem dX9_busiest_44 : decode cX9_busiest 44 = .ok (.iload_n 2, 1) := by decide +kernel
theorem dX9_busiest_45 : decode cX9_busiest 45 = .ok (.bipush 8, 2) := by decide +kernel
theorem dX9_busiest_47 : decode cX9_busiest 47 = .ok (.invokevirtual 48, 3) := by decide +kernel
theorem dX9_busiest_50 : decode cX9_busiest 50 = .ok (.if_icmp .gt 27, 3) := by decide +kernel
theorem dX9_busiest_53 : decode cX9_busiest 53 = .ok (.aload_n 0, 1) := by decide +kernel
theorem dX9_busiest_54 : decode cX9_busiest 54 = .ok (.iload 4, 2) := by decide +kernel
theorem dX9_busiest_56 : decode cX9_busiest 56 = .ok (.bipush 8, 2) := by decide +kernel
theorem dX9_busiest_58 : decode cX9_busiest 58 = .ok (.invokevirtual 48, 3) := by decide +kernel
theorem dX9_busiest_61 : decode cX9_busiest 61 = .ok (.aload_n 0, 1) := by decide +kernel
theorem dX9_busiest_62 : decode cX9_busiest 62 = .ok (.iload_n 2, 1) := by decide +kernel
theorem dX9_busiest_63 : decode cX9_busiest 63 = .ok (.bipush 8, 2) := by decide +kernel
theorem dX9_busiest_65 : decode cX9_busiest 65 = .ok (.invokevirtual 48, 3) := by decide +kernel
theorem dX9_busiest_68 : decode cX9_busiest 68 = .ok (.if_icmp .ne 13, 3) := by decide +kernel
theorem dX9_busiest_71 : decode cX9_busiest 71 = .ok (.iload 4, 2) := by decide +kernel
theorem dX9_busiest_73 : decode cX9_busiest 73 = .ok (.iload_n 2, 1) := by decide +kernel
theorem dX9_busiest_74 : decode cX9_busiest 74 = .ok (.if_icmp .ge 7, 3) := by decide +kernel
theorem dX9_busiest_77 : decode cX9_busiest 77 = .ok (.iconst 1, 1) := by decide +kernel
theorem dX9_busiest_78 : decode cX9_busiest 78 = .ok (.goto 4, 3) := by decide +kernel
theorem dX9_busiest_81 : decode cX9_busiest 81 = .ok (.iconst 0, 1) := by decide +kernel
theorem dX9_busiest_82 : decode cX9_busiest 82 = .ok (.iadd, 1) := by decide +kernel
theorem dX9_busiest_83 : decode cX9_busiest 83 = .ok (.istore_n 3, 1) := by decide +kernel
theorem dX9_busiest_84 : decode cX9_busiest 84 = .ok (.iinc 4 1, 3) := by decide +kernel
theorem dX9_busiest_87 : decode cX9_busiest 87 = .ok (.goto (-64), 3) := by decide +kernel
theorem dX9_busiest_90 : decode cX9_busiest 90 = .ok (.iload_n 3, 1) := by decide +kernel
theorem dX9_busiest_91 : decode cX9_busiest 91 = .ok (.iload_n 1, 1) := by decide +kernel
theorem dX9_busiest_92 : decode cX9_busiest 92 = .ok (.if_icmp .ne 5, 3) := by decide +kernel
theorem dX9_busiest_95 : decode cX9_busiest 95 = .ok (.iload_n 2, 1) := by decide +kernel
theorem dX9_busiest_96 : decode cX9_busiest 96 = .ok (.ireturn, 1) := by decide +kernel
theorem dX9_busiest_97 : decode cX9_busiest 97 = .ok (.iinc 2 1, 3) := by decide +kernel
theorem dX9_busiest_100 : decode cX9_busiest 100 = .ok (.goto (-92), 3) := by decide +kernel
theorem dX9_busiest_103 : decode cX9_busiest 103 = .ok (.bipush (-9), 2) := by decide +kernel
theorem dX9_busiest_105 : decode cX9_busiest 105 = .ok (.ireturn, 1) := by decide +kernel
theorem dJ9_abs_0f7a4_0 : decode cJ9_abs_0f7a4 0 = .ok (.iload_n 0, 1) := by decide +kernel
theorem dJ9_abs_0f7a4_1 : decode cJ9_abs_0f7a4 1 = .ok (.ifCond .ge 8, 3) := by decide +kernel
theorem dJ9_abs_0f7a4_4 : decode cJ9_abs_0f7a4 4 = .ok (.iload_n 0, 1) := by decide +kernel
theorem dJ9_abs_0f7a4_5 : decode cJ9_abs_0f7a4 5 = .ok (.ineg, 1) := by decide +kernel
theorem dJ9_abs_0f7a4_6 : decode cJ9_abs_0f7a4 6 = .ok (.goto 4, 3) := by decide +kernel
theorem dJ9_abs_0f7a4_9 : decode cJ9_abs_0f7a4 9 = .ok (.iload_n 0, 1) := by decide +kernel
theorem dJ9_abs_0f7a4_10 : decode cJ9_abs_0f7a4 10 = .ok (.ireturn, 1) := by decide +kernel
theorem dJ9_max_7cf53_0 : decode cJ9_max_7cf53 0 = .ok (.iload_n 0, 1) := by decide +kernel
theorem dJ9_max_7cf53_1 : decode cJ9_max_7cf53 1 = .ok (.iload_n 1, 1) := by decide +kernel
theorem dJ9_max_7cf53_2 : decode cJ9_max_7cf53 2 = .ok (.if_icmp .lt 7, 3) := by decide +kernel
theorem dJ9_max_7cf53_5 : decode cJ9_max_7cf53 5 = .ok (.iload_n 0, 1) := by decide +kernel
theorem dJ9_max_7cf53_6 : decode cJ9_max_7cf53 6 = .ok (.goto 4, 3) := by decide +kernel
theorem dJ9_max_7cf53_9 : decode cJ9_max_7cf53 9 = .ok (.iload_n 1, 1) := by decide +kernel
theorem dJ9_max_7cf53_10 : decode cJ9_max_7cf53 10 = .ok (.ireturn, 1) := by decide +kernel
theorem dJ9_min_7cf53_0 : decode cJ9_min_7cf53 0 = .ok (.iload_n 0, 1) := by decide +kernel
theorem dJ9_min_7cf53_1 : decode cJ9_min_7cf53 1 = .ok (.iload_n 1, 1) := by decide +kernel
theorem dJ9_min_7cf53_2 : decode cJ9_min_7cf53 2 = .ok (.if_icmp .gt 7, 3) := by decide +kernel
theorem dJ9_min_7cf53_5 : decode cJ9_min_7cf53 5 = .ok (.iload_n 0, 1) := by decide +kernel
theorem dJ9_min_7cf53_6 : decode cJ9_min_7cf53 6 = .ok (.goto 4, 3) := by decide +kernel
theorem dJ9_min_7cf53_9 : decode cJ9_min_7cf53 9 = .ok (.iload_n 1, 1) := by decide +kernel
theorem dJ9_min_7cf53_10 : decode cJ9_min_7cf53 10 = .ok (.ireturn, 1) := by decide +kernel
theorem dJ0_length_8abf5_0 : decode cJ0_length_8abf5 0 = .ok (.aload_n 0, 1) := by decide +kernel
theorem dJ0_length_8abf5_1 : decode cJ0_length_8abf5 1 = .ok (.getfield 9, 3) := by decide +kernel
theorem dJ0_length_8abf5_4 : decode cJ0_length_8abf5 4 = .ok (.arraylength, 1) := by decide +kernel
theorem dJ0_length_8abf5_5 : decode cJ0_length_8abf5 5 = .ok (.aload_n 0, 1) := by decide +kernel
theorem dJ0_length_8abf5_6 : decode cJ0_length_8abf5 6 = .ok (.invokevirtual 335, 3) := by decide +kernel
theorem dJ0_length_8abf5_9 : decode cJ0_length_8abf5 9 = .ok (.ishr, 1) := by decide +kernel
theorem dJ0_length_8abf5_10 : decode cJ0_length_8abf5 10 = .ok (.ireturn, 1) := by decide +kernel
theorem dJ0_charAt_5068e_0 : decode cJ0_charAt_5068e 0 = .ok (.aload_n 0, 1) := by decide +kernel
theorem dJ0_charAt_5068e_1 : decode cJ0_charAt_5068e 1 = .ok (.invokevirtual 492, 3) := by decide +kernel
theorem dJ0_charAt_5068e_4 : decode cJ0_charAt_5068e 4 = .ok (.ifCond .eq 12, 3) := by decide +kernel
theorem dJ0_charAt_5068e_7 : decode cJ0_charAt_5068e 7 = .ok (.aload_n 0, 1) := by decide +kernel
theorem dJ0_charAt_5068e_8 : decode cJ0_charAt_5068e 8 = .ok (.getfield 9, 3) := by decide +kernel
theorem dJ0_charAt_5068e_11 : decode cJ0_charAt_5068e 11 = .ok (.iload_n 1, 1) := by decide +kernel
theorem dJ0_charAt_5068e_12 : decode cJ0_charAt_5068e 12 = .ok (.invokestatic 495, 3) := by decide +kernel
theorem dJ0_charAt_5068e_15 : decode cJ0_charAt_5068e 15 = .ok (.ireturn, 1) := by decide +kernel
theorem dJ0_charAt_5068e_16 : decode cJ0_charAt_5068e 16 = .ok (.aload_n 0, 1) := by decide +kernel
theorem dJ0_charAt_5068e_17 : decode cJ0_charAt_5068e 17 = .ok (.getfield 9, 3) := by decide +kernel
theorem dJ0_charAt_5068e_20 : decode cJ0_charAt_5068e 20 = .ok (.iload_n 1, 1) := by decide +kernel
theorem dJ0_charAt_5068e_21 : decode cJ0_charAt_5068e 21 = .ok (.invokestatic 498, 3) := by decide +kernel
theorem dJ0_charAt_5068e_24 : decode cJ0_charAt_5068e 24 = .ok (.ireturn, 1) := by decide +kernel
theorem dJ0_coder_7d493_0 : decode cJ0_coder_7d493 0 = .ok (.getstatic 38, 3) := by decide +kernel
theorem dJ0_coder_7d493_3 : decode cJ0_coder_7d493 3 = .ok (.ifCond .eq 10, 3) := by decide +kernel
theorem dJ0_coder_7d493_6 : decode cJ0_coder_7d493 6 = .ok (.aload_n 0, 1) := by decide +kernel
theorem dJ0_coder_7d493_7 : decode cJ0_coder_7d493 7 = .ok (.getfield 15, 3) := by decide +kernel
theorem dJ0_coder_7d493_10 : decode cJ0_coder_7d493 10 = .ok (.goto 4, 3) := by decide +kernel
theorem dJ0_coder_7d493_13 : decode cJ0_coder_7d493 13 = .ok (.iconst 1, 1) := by decide +kernel
theorem dJ0_coder_7d493_14 : decode cJ0_coder_7d493 14 = .ok (.ireturn, 1) := by decide +kernel
theorem dJ0_isLatin1_aae02_0 : decode cJ0_isLatin1_aae02 0 = .ok (.getstatic 38, 3) := by decide +kernel
theorem dJ0_isLatin1_aae02_3 : decode cJ0_isLatin1_aae02 3 = .ok (.ifCond .eq 14, 3) := by decide +kernel
theorem dJ0_isLatin1_aae02_6 : decode cJ0_isLatin1_aae02 6 = .ok (.aload_n 0, 1) := by decide +kernel
theorem dJ0_isLatin1_aae02_7 : decode cJ0_isLatin1_aae02 7 = .ok (.getfield 15, 3) := by decide +kernel
theorem dJ0_isLatin1_aae02_10 : decode cJ0_isLatin1_aae02 10 = .ok (.ifCond .ne 7, 3) := by decide +kernel
theorem dJ0_isLatin1_aae02_13 : decode cJ0_isLatin1_aae02 13 = .ok (.iconst 1, 1) := by decide +kernel
theorem dJ0_isLatin1_aae02_14 : decode cJ0_isLatin1_aae02 14 = .ok (.goto 4, 3) := by decide +kernel
theorem dJ0_isLatin1_aae02_17 : decode cJ0_isLatin1_aae02 17 = .ok (.iconst 0, 1) := by decide +kernel
theorem dJ0_isLatin1_aae02_18 : decode cJ0_isLatin1_aae02 18 = .ok (.ireturn, 1) := by decide +kernel
theorem dJ0_checkIndex_df160_0 : decode cJ0_checkIndex_df160 0 = .ok (.iload_n 0, 1) := by decide +kernel
theorem dJ0_checkIndex_df160_1 : decode cJ0_checkIndex_df160 1 = .ok (.iload_n 1, 1) := by decide +kernel
theorem dJ0_checkIndex_df160_2 : decode cJ0_checkIndex_df160 2 = .ok (.getstatic 1053, 3) := by decide +kernel
theorem dJ0_checkIndex_df160_5 : decode cJ0_checkIndex_df160 5 = .ok (.invokestatic 1059, 3) := by decide +kernel
theorem dJ0_checkIndex_df160_8 : decode cJ0_checkIndex_df160 8 = .ok (.pop, 1) := by decide +kernel
theorem dJ0_checkIndex_df160_9 : decode cJ0_checkIndex_df160 9 = .ok (.return_, 1) := by decide +kernel
theorem dJ1_charAt_3b067_0 : decode cJ1_charAt_3b067 0 = .ok (.iload_n 1, 1) := by decide +kernel
theorem dJ1_charAt_3b067_1 : decode cJ1_charAt_3b067 1 = .ok (.aload_n 0, 1) := by decide +kernel
theorem dJ1_charAt_3b067_2 : decode cJ1_charAt_3b067 2 = .ok (.arraylength, 1) := by decide +kernel
theorem dJ1_charAt_3b067_3 : decode cJ1_charAt_3b067 3 = .ok (.invokestatic 9, 3) := by decide +kernel
theorem dJ1_charAt_3b067_6 : decode cJ1_charAt_3b067 6 = .ok (.aload_n 0, 1) := by decide +kernel
theorem dJ1_charAt_3b067_7 : decode cJ1_charAt_3b067 7 = .ok (.iload_n 1, 1) := by decide +kernel
theorem dJ1_charAt_3b067_8 : decode cJ1_charAt_3b067 8 = .ok (.baload, 1) := by decide +kernel
theorem dJ1_charAt_3b067_9 : decode cJ1_charAt_3b067 9 = .ok (.sipush 255, 3) := by decide +kernel
theorem dJ1_charAt_3b067_12 : decode cJ1_charAt_3b067 12 = .ok (.iand, 1) := by decide +kernel
theorem dJ1_charAt_3b067_13 : decode cJ1_charAt_3b067 13 = .ok (.i2c, 1) := by decide +kernel
theorem dJ1_charAt_3b067_14 : decode cJ1_charAt_3b067 14 = .ok (.ireturn, 1) := by decide +kernel
theorem dJ3_checkIndex_8e157_0 : decode cJ3_checkIndex_8e157 0 = .ok (.iload_n 0, 1) := by decide +kernel
theorem dJ3_checkIndex_8e157_1 : decode cJ3_checkIndex_8e157 1 = .ok (.ifCond .lt 8, 3) := by decide +kernel
theorem dJ3_checkIndex_8e157_4 : decode cJ3_checkIndex_8e157 4 = .ok (.iload_n 0, 1) := by decide +kernel
theorem dJ3_checkIndex_8e157_5 : decode cJ3_checkIndex_8e157 5 = .ok (.iload_n 1, 1) := by decide +kernel
theorem dJ3_checkIndex_8e157_6 : decode cJ3_checkIndex_8e157 6 = .ok (.if_icmp .lt 10, 3) := by decide +kernel
theorem dJ3_checkIndex_8e157_9 : decode cJ3_checkIndex_8e157 9 = .ok (.aload_n 2, 1) := by decide +kernel
theorem dJ3_checkIndex_8e157_10 : decode cJ3_checkIndex_8e157 10 = .ok (.iload_n 0, 1) := by decide +kernel
theorem dJ3_checkIndex_8e157_11 : decode cJ3_checkIndex_8e157 11 = .ok (.iload_n 1, 1) := by decide +kernel
theorem dJ3_checkIndex_8e157_12 : decode cJ3_checkIndex_8e157 12 = .ok (.invokestatic 95, 3) := by decide +kernel
theorem dJ3_checkIndex_8e157_15 : decode cJ3_checkIndex_8e157 15 = .ok (.athrow, 1) := by decide +kernel
theorem dJ3_checkIndex_8e157_16 : decode cJ3_checkIndex_8e157 16 = .ok (.iload_n 0, 1) := by decide +kernel
theorem dJ3_checkIndex_8e157_17 : decode cJ3_checkIndex_8e157 17 = .ok (.ireturn, 1) := by decide +kernel
theorem dL_law_0 : decode cL_law 0 = .ok (.new 7, 3) := by decide +kernel
theorem dL_law_3 : decode cL_law 3 = .ok (.dup, 1) := by decide +kernel
theorem dL_law_4 : decode cL_law 4 = .ok (.invokespecial 9, 3) := by decide +kernel
theorem dL_law_7 : decode cL_law 7 = .ok (.astore_n 1, 1) := by decide +kernel
theorem dL_law_8 : decode cL_law 8 = .ok (.new 10, 3) := by decide +kernel
theorem dL_law_11 : decode cL_law 11 = .ok (.dup, 1) := by decide +kernel
theorem dL_law_12 : decode cL_law 12 = .ok (.invokespecial 12, 3) := by decide +kernel
theorem dL_law_15 : decode cL_law 15 = .ok (.astore_n 2, 1) := by decide +kernel
theorem dL_law_16 : decode cL_law 16 = .ok (.iconst 0, 1) := by decide +kernel
theorem dL_law_17 : decode cL_law 17 = .ok (.istore_n 3, 1) := by decide +kernel
theorem dL_law_18 : decode cL_law 18 = .ok (.iload_n 3, 1) := by decide +kernel
theorem dL_law_19 : decode cL_law 19 = .ok (.aload_n 0, 1) := by decide +kernel
theorem dL_law_20 : decode cL_law 20 = .ok (.arraylength, 1) := by decide +kernel
theorem dL_law_21 : decode cL_law 21 = .ok (.iconst 5, 1) := by decide +kernel
theorem dL_law_22 : decode cL_law 22 = .ok (.isub, 1) := by decide +kernel
theorem dL_law_23 : decode cL_law 23 = .ok (.if_icmp .gt 903, 3) := by decide +kernel
theorem dL_law_26 : decode cL_law 26 = .ok (.aload_n 0, 1) := by decide +kernel
theorem dL_law_27 : decode cL_law 27 = .ok (.iload_n 3, 1) := by decide +kernel
theorem dL_law_28 : decode cL_law 28 = .ok (.iaload, 1) := by decide +kernel
theorem dL_law_29 : decode cL_law 29 = .ok (.bipush 31, 2) := by decide +kernel
theorem dL_law_31 : decode cL_law 31 = .ok (.iand, 1) := by decide +kernel
theorem dL_law_32 : decode cL_law 32 = .ok (.tableswitch 888 0 25 #[120, 173, 206, 239, 262, 315, 348, 371, 404, 457, 480, 503, 516, 539, 552, 565, 588, 621, 654, 687, 710, 743, 776, 809, 832, 865], 120) := by decide +kernel
theorem dL_law_152 : decode cL_law 152 = .ok (.aload_n 1, 1) := by decide +kernel
theorem dL_law_153 : decode cL_law 153 = .ok (.aload_n 0, 1) := by decide +kernel
theorem dL_law_154 : decode cL_law 154 = .ok (.iload_n 3, 1) := by decide +kernel
theorem dL_law_155 : decode cL_law 155 = .ok (.iconst 1, 1) := by decide +kernel
theorem dL_law_156 : decode cL_law 156 = .ok (.iadd, 1) := by decide +kernel
theorem dL_law_157 : decode cL_law 157 = .ok (.iaload, 1) := by decide +kernel
theorem dL_law_158 : decode cL_law 158 = .ok (.aload_n 0, 1) := by decide +kernel
theorem dL_law_159 : decode cL_law 159 = .ok (.iload_n 3, 1) := by decide +kernel
theorem dL_law_160 : decode cL_law 160 = .ok (.iconst 2, 1) := by decide +kernel
theorem dL_law_161 : decode cL_law 161 = .ok (.iadd, 1) := by decide +kernel
theorem dL_law_162 : decode cL_law 162 = .ok (.iaload, 1) := by decide +kernel
theorem dL_law_163 : decode cL_law 163 = .ok (.aload_n 0, 1) := by decide +kernel
theorem dL_law_164 : decode cL_law 164 = .ok (.iload_n 3, 1) := by decide +kernel
theorem dL_law_165 : decode cL_law 165 = .ok (.iconst 3, 1) := by decide +kernel
theorem dL_law_166 : decode cL_law 166 = .ok (.iadd, 1) := by decide +kernel
theorem dL_law_167 : decode cL_law 167 = .ok (.iaload, 1) := by decide +kernel
theorem dL_law_168 : decode cL_law 168 = .ok (.aload_n 0, 1) := by decide +kernel
theorem dL_law_169 : decode cL_law 169 = .ok (.iload_n 3, 1) := by decide +kernel
theorem dL_law_170 : decode cL_law 170 = .ok (.iconst 4, 1) := by decide +kernel
theorem dL_law_171 : decode cL_law 171 = .ok (.iadd, 1) := by decide +kernel
theorem dL_law_172 : decode cL_law 172 = .ok (.iaload, 1) := by decide +kernel
theorem dL_law_173 : decode cL_law 173 = .ok (.invokevirtual 13, 3) := by decide +kernel
theorem dL_law_176 : decode cL_law 176 = .ok (.aload_n 2, 1) := by decide +kernel
theorem dL_law_177 : decode cL_law 177 = .ok (.aload_n 0, 1) := by decide +kernel
theorem dL_law_178 : decode cL_law 178 = .ok (.iload_n 3, 1) := by decide +kernel
theorem dL_law_179 : decode cL_law 179 = .ok (.iconst 1, 1) := by decide +kernel
theorem dL_law_180 : decode cL_law 180 = .ok (.iadd, 1) := by decide +kernel
theorem dL_law_181 : decode cL_law 181 = .ok (.iaload, 1) := by decide +kernel
theorem dL_law_182 : decode cL_law 182 = .ok (.aload_n 0, 1) := by decide +kernel
theorem dL_law_183 : decode cL_law 183 = .ok (.iload_n 3, 1) := by decide +kernel
theorem dL_law_184 : decode cL_law 184 = .ok (.iconst 2, 1) := by decide +kernel
theorem dL_law_185 : decode cL_law 185 = .ok (.iadd, 1) := by decide +kernel
theorem dL_law_186 : decode cL_law 186 = .ok (.iaload, 1) := by decide +kernel
theorem dL_law_187 : decode cL_law 187 = .ok (.aload_n 0, 1) := by decide +kernel
theorem dL_law_188 : decode cL_law 188 = .ok (.iload_n 3, 1) := by decide +kernel
theorem dL_law_189 : decode cL_law 189 = .ok (.iconst 3, 1) := by decide +kernel
theorem dL_law_190 : decode cL_law 190 = .ok (.iadd, 1) := by decide +kernel
theorem dL_law_191 : decode cL_law 191 = .ok (.iaload, 1) := by decide +kernel
theorem dL_law_192 : decode cL_law 192 = .ok (.aload_n 0, 1) := by decide +kernel
theorem dL_law_193 : decode cL_law 193 = .ok (.iload_n 3, 1) := by decide +kernel
theorem dL_law_194 : decode cL_law 194 = .ok (.iconst 4, 1) := by decide +kernel
theorem dL_law_195 : decode cL_law 195 = .ok (.iadd, 1) := by decide +kernel
theorem dL_law_196 : decode cL_law 196 = .ok (.iaload, 1) := by decide +kernel
theorem dL_law_197 : decode cL_law 197 = .ok (.invokevirtual 17, 3) := by decide +kernel
theorem dL_law_200 : decode cL_law 200 = .ok (.if_icmp .eq 720, 3) := by decide +kernel
theorem dL_law_203 : decode cL_law 203 = .ok (.iconst 0, 1) := by decide +kernel
theorem dL_law_204 : decode cL_law 204 = .ok (.ireturn, 1) := by decide +kernel
theorem dL_law_205 : decode cL_law 205 = .ok (.aload_n 1, 1) := by decide +kernel
theorem dL_law_206 : decode cL_law 206 = .ok (.aload_n 0, 1) := by decide +kernel
theorem dL_law_207 : decode cL_law 207 = .ok (.iload_n 3, 1) := by decide +kernel
theorem dL_law_208 : decode cL_law 208 = .ok (.iconst 1, 1) := by decide +kernel
theorem dL_law_209 : decode cL_law 209 = .ok (.iadd, 1) := by decide +kernel
theorem dL_law_210 : decode cL_law 210 = .ok (.iaload, 1) := by decide +kernel
theorem dL_law_211 : decode cL_law 211 = .ok (.aload_n 0, 1) := by decide +kernel
theorem dL_law_212 : decode cL_law 212 = .ok (.iload_n 3, 1) := by decide +kernel
theorem dL_law_213 : decode cL_law 213 = .ok (.iconst 2, 1) := by decide +kernel
theorem dL_law_214 : decode cL_law 214 = .ok (.iadd, 1) := by decide +kernel
theorem dL_law_215 : decode cL_law 215 = .ok (.iaload, 1) := by decide +kernel
theorem dL_law_216 : decode cL_law 216 = .ok (.invokevirtual 18, 3) := by decide +kernel
theorem dL_law_219 : decode cL_law 219 = .ok (.aload_n 2, 1) := by decide +kernel
theorem dL_law_220 : decode cL_law 220 = .ok (.aload_n 0, 1) := by decide +kernel
theorem dL_law_221 : decode cL_law 221 = .ok (.iload_n 3, 1) := by decide +kernel
theorem dL_law_222 : decode cL_law 222 = .ok (.iconst 1, 1) := by decide +kernel
theorem dL_law_223 : decode cL_law 223 = .ok (.iadd, 1) := by decide +kernel
theorem dL_law_224 : decode cL_law 224 = .ok (.iaload, 1) := by decide +kernel
theorem dL_law_225 : decode cL_law 225 = .ok (.aload_n 0, 1) := by decide +kernel
theorem dL_law_226 : decode cL_law 226 = .ok (.iload_n 3, 1) := by decide +kernel
theorem dL_law_227 : decode cL_law 227 = .ok (.iconst 2, 1) := by decide +kernel
theorem dL_law_228 : decode cL_law 228 = .ok (.iadd, 1) := by decide +kernel
theorem dL_law_229 : decode cL_law 229 = .ok (.iaload, 1) := by decide +kernel
theorem dL_law_230 : decode cL_law 230 = .ok (.invokevirtual 22, 3) := by decide +kernel
theorem dL_law_233 : decode cL_law 233 = .ok (.if_icmp .eq 687, 3) := by decide +kernel
theorem dL_law_236 : decode cL_law 236 = .ok (.iconst 0, 1) := by decide +kernel
theorem dL_law_237 : decode cL_law 237 = .ok (.ireturn, 1) := by decide +kernel
theorem dL_law_238 : decode cL_law 238 = .ok (.aload_n 1, 1) := by decide +kernel
theorem dL_law_239 : decode cL_law 239 = .ok (.aload_n 0, 1) := by decide +kernel
theorem dL_law_240 : decode cL_law 240 = .ok (.iload_n 3, 1) := by decide +kernel
theorem dL_law_241 : decode cL_law 241 = .ok (.iconst 1, 1) := by decide +kernel
theorem dL_law_242 : decode cL_law 242 = .ok (.iadd, 1) := by decide +kernel
theorem dL_law_243 : decode cL_law 243 = .ok (.iaload, 1) := by decide +kernel
theorem dL_law_244 : decode cL_law 244 = .ok (.aload_n 0, 1) := by decide +kernel
theorem dL_law_245 : decode cL_law 245 = .ok (.iload_n 3, 1) := by decide +kernel
theorem dL_law_246 : decode cL_law 246 = .ok (.iconst 2, 1) := by decide +kernel
theorem dL_law_247 : decode cL_law 247 = .ok (.iadd, 1) := by decide +kernel
theorem dL_law_248 : decode cL_law 248 = .ok (.iaload, 1) := by decide +kernel
theorem dL_law_249 : decode cL_law 249 = .ok (.invokevirtual 23, 3) := by decide +kernel
theorem dL_law_252 : decode cL_law 252 = .ok (.aload_n 2, 1) := by decide +kernel
theorem dL_law_253 : decode cL_law 253 = .ok (.aload_n 0, 1) := by decide +kernel
theorem dL_law_254 : decode cL_law 254 = .ok (.iload_n 3, 1) := by decide +kernel
theorem dL_law_255 : decode cL_law 255 = .ok (.iconst 1, 1) := by decide +kernel
theorem dL_law_256 : decode cL_law 256 = .ok (.iadd, 1) := by decide +kernel
theorem dL_law_257 : decode cL_law 257 = .ok (.iaload, 1) := by decide +kernel
theorem dL_law_258 : decode cL_law 258 = .ok (.aload_n 0, 1) := by decide +kernel
theorem dL_law_259 : decode cL_law 259 = .ok (.iload_n 3, 1) := by decide +kernel
theorem dL_law_260 : decode cL_law 260 = .ok (.iconst 2, 1) := by decide +kernel
theorem dL_law_261 : decode cL_law 261 = .ok (.iadd, 1) := by decide +kernel
theorem dL_law_262 : decode cL_law 262 = .ok (.iaload, 1) := by decide +kernel
theorem dL_law_263 : decode cL_law 263 = .ok (.invokevirtual 26, 3) := by decide +kernel
theorem dL_law_266 : decode cL_law 266 = .ok (.if_icmp .eq 654, 3) := by decide +kernel
theorem dL_law_269 : decode cL_law 269 = .ok (.iconst 0, 1) := by decide +kernel
theorem dL_law_270 : decode cL_law 270 = .ok (.ireturn, 1) := by decide +kernel
theorem dL_law_271 : decode cL_law 271 = .ok (.aload_n 1, 1) := by decide +kernel
theorem dL_law_272 : decode cL_law 272 = .ok (.aload_n 0, 1) := by decide +kernel
theorem dL_law_273 : decode cL_law 273 = .ok (.iload_n 3, 1) := by decide +kernel
theorem dL_law_274 : decode cL_law 274 = .ok (.iconst 1, 1) := by decide +kernel
theorem dL_law_275 : decode cL_law 275 = .ok (.iadd, 1) := by decide +kernel
theorem dL_law_276 : decode cL_law 276 = .ok (.iaload, 1) := by decide +kernel
theorem dL_law_277 : decode cL_law 277 = .ok (.invokevirtual 27, 3) := by decide +kernel
theorem dL_law_280 : decode cL_law 280 = .ok (.aload_n 2, 1) := by decide +kernel
theorem dL_law_281 : decode cL_law 281 = .ok (.aload_n 0, 1) := by decide +kernel
theorem dL_law_282 : decode cL_law 282 = .ok (.iload_n 3, 1) := by decide +kernel
theorem dL_law_283 : decode cL_law 283 = .ok (.iconst 1, 1) := by decide +kernel
theorem dL_law_284 : decode cL_law 284 = .ok (.iadd, 1) := by decide +kernel
theorem dL_law_285 : decode cL_law 285 = .ok (.iaload, 1) := by decide +kernel
theorem dL_law_286 : decode cL_law 286 = .ok (.invokevirtual 31, 3) := by decide +kernel
theorem dL_law_289 : decode cL_law 289 = .ok (.if_icmp .eq 631, 3) := by decide +kernel
theorem dL_law_292 : decode cL_law 292 = .ok (.iconst 0, 1) := by decide +kernel
theorem dL_law_293 : decode cL_law 293 = .ok (.ireturn, 1) := by decide +kernel
theorem dL_law_294 : decode cL_law 294 = .ok (.aload_n 1, 1) := by decide +kernel
theorem dL_law_295 : decode cL_law 295 = .ok (.aload_n 0, 1) := by decide +kernel
theorem dL_law_296 : decode cL_law 296 = .ok (.iload_n 3, 1) := by decide +kernel
theorem dL_law_297 : decode cL_law 297 = .ok (.iconst 1, 1) := by decide +kernel
theorem dL_law_298 : decode cL_law 298 = .ok (.iadd, 1) := by decide +kernel
theorem dL_law_299 : decode cL_law 299 = .ok (.iaload, 1) := by decide +kernel
theorem dL_law_300 : decode cL_law 300 = .ok (.aload_n 0, 1) := by decide +kernel
theorem dL_law_301 : decode cL_law 301 = .ok (.iload_n 3, 1) := by decide +kernel
theorem dL_law_302 : decode cL_law 302 = .ok (.iconst 2, 1) := by decide +kernel
theorem dL_law_303 : decode cL_law 303 = .ok (.iadd, 1) := by decide +kernel
theorem dL_law_304 : decode cL_law 304 = .ok (.iaload, 1) := by decide +kernel
theorem dL_law_305 : decode cL_law 305 = .ok (.aload_n 0, 1) := by decide +kernel
theorem dL_law_306 : decode cL_law 306 = .ok (.iload_n 3, 1) := by decide +kernel
theorem dL_law_307 : decode cL_law 307 = .ok (.iconst 3, 1) := by decide +kernel
theorem dL_law_308 : decode cL_law 308 = .ok (.iadd, 1) := by decide +kernel
theorem dL_law_309 : decode cL_law 309 = .ok (.iaload, 1) := by decide +kernel
theorem dL_law_310 : decode cL_law 310 = .ok (.aload_n 0, 1) := by decide +kernel
theorem dL_law_311 : decode cL_law 311 = .ok (.iload_n 3, 1) := by decide +kernel
theorem dL_law_312 : decode cL_law 312 = .ok (.iconst 4, 1) := by decide +kernel
theorem dL_law_313 : decode cL_law 313 = .ok (.iadd, 1) := by decide +kernel
theorem dL_law_314 : decode cL_law 314 = .ok (.iaload, 1) := by decide +kernel
theorem dL_law_315 : decode cL_law 315 = .ok (.invokevirtual 32, 3) := by decide +kernel
theorem dL_law_318 : decode cL_law 318 = .ok (.aload_n 2, 1) := by decide +kernel
theorem dL_law_319 : decode cL_law 319 = .ok (.aload_n 0, 1) := by decide +kernel
theorem dL_law_320 : decode cL_law 320 = .ok (.iload_n 3, 1) := by decide +kernel
theorem dL_law_321 : decode cL_law 321 = .ok (.iconst 1, 1) := by decide +kernel
theorem dL_law_322 : decode cL_law 322 = .ok (.iadd, 1) := by decide +kernel
theorem dL_law_323 : decode cL_law 323 = .ok (.iaload, 1) := by decide +kernel
theorem dL_law_324 : decode cL_law 324 = .ok (.aload_n 0, 1) := by decide +kernel
theorem dL_law_325 : decode cL_law 325 = .ok (.iload_n 3, 1) := by decide +kernel
theorem dL_law_326 : decode cL_law 326 = .ok (.iconst 2, 1) := by decide +kernel
theorem dL_law_327 : decode cL_law 327 = .ok (.iadd, 1) := by decide +kernel
theorem dL_law_328 : decode cL_law 328 = .ok (.iaload, 1) := by decide +kernel
theorem dL_law_329 : decode cL_law 329 = .ok (.aload_n 0, 1) := by decide +kernel
theorem dL_law_330 : decode cL_law 330 = .ok (.iload_n 3, 1) := by decide +kernel
theorem dL_law_331 : decode cL_law 331 = .ok (.iconst 3, 1) := by decide +kernel
theorem dL_law_332 : decode cL_law 332 = .ok (.iadd, 1) := by decide +kernel
theorem dL_law_333 : decode cL_law 333 = .ok (.iaload, 1) := by decide +kernel
theorem dL_law_334 : decode cL_law 334 = .ok (.aload_n 0, 1) := by decide +kernel
theorem dL_law_335 : decode cL_law 335 = .ok (.iload_n 3, 1) := by decide +kernel
theorem dL_law_336 : decode cL_law 336 = .ok (.iconst 4, 1) := by decide +kernel
theorem dL_law_337 : decode cL_law 337 = .ok (.iadd, 1) := by decide +kernel
theorem dL_law_338 : decode cL_law 338 = .ok (.iaload, 1) := by decide +kernel
theorem dL_law_339 : decode cL_law 339 = .ok (.invokevirtual 35, 3) := by decide +kernel
theorem dL_law_342 : decode cL_law 342 = .ok (.if_icmp .eq 578, 3) := by decide +kernel
theorem dL_law_345 : decode cL_law 345 = .ok (.iconst 0, 1) := by decide +kernel
theorem dL_law_346 : decode cL_law 346 = .ok (.ireturn, 1) := by decide +kernel
theorem dL_law_347 : decode cL_law 347 = .ok (.aload_n 1, 1) := by decide +kernel
theorem dL_law_348 : decode cL_law 348 = .ok (.aload_n 0, 1) := by decide +kernel
theorem dL_law_349 : decode cL_law 349 = .ok (.iload_n 3, 1) := by decide +kernel
theorem dL_law_350 : decode cL_law 350 = .ok (.iconst 1, 1) := by decide +kernel
theorem dL_law_351 : decode cL_law 351 = .ok (.iadd, 1) := by decide +kernel
theorem dL_law_352 : decode cL_law 352 = .ok (.iaload, 1) := by decide +kernel
theorem dL_law_353 : decode cL_law 353 = .ok (.aload_n 0, 1) := by decide +kernel
theorem dL_law_354 : decode cL_law 354 = .ok (.iload_n 3, 1) := by decide +kernel
theorem dL_law_355 : decode cL_law 355 = .ok (.iconst 2, 1) := by decide +kernel
theorem dL_law_356 : decode cL_law 356 = .ok (.iadd, 1) := by decide +kernel
theorem dL_law_357 : decode cL_law 357 = .ok (.iaload, 1) := by decide +kernel
theorem dL_law_358 : decode cL_law 358 = .ok (.invokevirtual 36, 3) := by decide +kernel
theorem dL_law_361 : decode cL_law 361 = .ok (.aload_n 2, 1) := by decide +kernel
theorem dL_law_362 : decode cL_law 362 = .ok (.aload_n 0, 1) := by decide +kernel
theorem dL_law_363 : decode cL_law 363 = .ok (.iload_n 3, 1) := by decide +kernel
theorem dL_law_364 : decode cL_law 364 = .ok (.iconst 1, 1) := by decide +kernel
theorem dL_law_365 : decode cL_law 365 = .ok (.iadd, 1) := by decide +kernel
theorem dL_law_366 : decode cL_law 366 = .ok (.iaload, 1) := by decide +kernel
theorem dL_law_367 : decode cL_law 367 = .ok (.aload_n 0, 1) := by decide +kernel
theorem dL_law_368 : decode cL_law 368 = .ok (.iload_n 3, 1) := by decide +kernel
theorem dL_law_369 : decode cL_law 369 = .ok (.iconst 2, 1) := by decide +kernel
theorem dL_law_370 : decode cL_law 370 = .ok (.iadd, 1) := by decide +kernel
theorem dL_law_371 : decode cL_law 371 = .ok (.iaload, 1) := by decide +kernel
theorem dL_law_372 : decode cL_law 372 = .ok (.invokevirtual 39, 3) := by decide +kernel
theorem dL_law_375 : decode cL_law 375 = .ok (.if_icmp .eq 545, 3) := by decide +kernel
theorem dL_law_378 : decode cL_law 378 = .ok (.iconst 0, 1) := by decide +kernel
theorem dL_law_379 : decode cL_law 379 = .ok (.ireturn, 1) := by decide +kernel
theorem dL_law_380 : decode cL_law 380 = .ok (.aload_n 1, 1) := by decide +kernel
theorem dL_law_381 : decode cL_law 381 = .ok (.aload_n 0, 1) := by decide +kernel
theorem dL_law_382 : decode cL_law 382 = .ok (.iload_n 3, 1) := by decide +kernel
theorem dL_law_383 : decode cL_law 383 = .ok (.iconst 1, 1) := by decide +kernel
theorem dL_law_384 : decode cL_law 384 = .ok (.iadd, 1) := by decide +kernel
theorem dL_law_385 : decode cL_law 385 = .ok (.iaload, 1) := by decide +kernel
theorem dL_law_386 : decode cL_law 386 = .ok (.invokevirtual 40, 3) := by decide +kernel
theorem dL_law_389 : decode cL_law 389 = .ok (.aload_n 2, 1) := by decide +kernel
theorem dL_law_390 : decode cL_law 390 = .ok (.aload_n 0, 1) := by decide +kernel
theorem dL_law_391 : decode cL_law 391 = .ok (.iload_n 3, 1) := by decide +kernel
theorem dL_law_392 : decode cL_law 392 = .ok (.iconst 1, 1) := by decide +kernel
theorem dL_law_393 : decode cL_law 393 = .ok (.iadd, 1) := by decide +kernel
theorem dL_law_394 : decode cL_law 394 = .ok (.iaload, 1) := by decide +kernel
theorem dL_law_395 : decode cL_law 395 = .ok (.invokevirtual 43, 3) := by decide +kernel
theorem dL_law_398 : decode cL_law 398 = .ok (.if_icmp .eq 522, 3) := by decide +kernel
theorem dL_law_401 : decode cL_law 401 = .ok (.iconst 0, 1) := by decide +kernel
theorem dL_law_402 : decode cL_law 402 = .ok (.ireturn, 1) := by decide +kernel
theorem dL_law_403 : decode cL_law 403 = .ok (.aload_n 1, 1) := by decide +kernel
theorem dL_law_404 : decode cL_law 404 = .ok (.aload_n 0, 1) := by decide +kernel
theorem dL_law_405 : decode cL_law 405 = .ok (.iload_n 3, 1) := by decide +kernel
theorem dL_law_406 : decode cL_law 406 = .ok (.iconst 1, 1) := by decide +kernel
theorem dL_law_407 : decode cL_law 407 = .ok (.iadd, 1) := by decide +kernel
theorem dL_law_408 : decode cL_law 408 = .ok (.iaload, 1) := by decide +kernel
theorem dL_law_409 : decode cL_law 409 = .ok (.aload_n 0, 1) := by decide +kernel
theorem dL_law_410 : decode cL_law 410 = .ok (.iload_n 3, 1) := by decide +kernel
theorem dL_law_411 : decode cL_law 411 = .ok (.iconst 2, 1) := by decide +kernel
theorem dL_law_412 : decode cL_law 412 = .ok (.iadd, 1) := by decide +kernel
theorem dL_law_413 : decode cL_law 413 = .ok (.iaload, 1) := by decide +kernel
theorem dL_law_414 : decode cL_law 414 = .ok (.invokevirtual 44, 3) := by decide +kernel
theorem dL_law_417 : decode cL_law 417 = .ok (.aload_n 2, 1) := by decide +kernel
theorem dL_law_418 : decode cL_law 418 = .ok (.aload_n 0, 1) := by decide +kernel
theorem dL_law_419 : decode cL_law 419 = .ok (.iload_n 3, 1) := by decide +kernel
theorem dL_law_420 : decode cL_law 420 = .ok (.iconst 1, 1) := by decide +kernel
theorem dL_law_421 : decode cL_law 421 = .ok (.iadd, 1) := by decide +kernel
theorem dL_law_422 : decode cL_law 422 = .ok (.iaload, 1) := by decide +kernel
theorem dL_law_423 : decode cL_law 423 = .ok (.aload_n 0, 1) := by decide +kernel
theorem dL_law_424 : decode cL_law 424 = .ok (.iload_n 3, 1) := by decide +kernel
theorem dL_law_425 : decode cL_law 425 = .ok (.iconst 2, 1) := by decide +kernel
theorem dL_law_426 : decode cL_law 426 = .ok (.iadd, 1) := by decide +kernel
theorem dL_law_427 : decode cL_law 427 = .ok (.iaload, 1) := by decide +kernel
theorem dL_law_428 : decode cL_law 428 = .ok (.invokevirtual 47, 3) := by decide +kernel
theorem dL_law_431 : decode cL_law 431 = .ok (.if_icmp .eq 489, 3) := by decide +kernel
theorem dL_law_434 : decode cL_law 434 = .ok (.iconst 0, 1) := by decide +kernel
theorem dL_law_435 : decode cL_law 435 = .ok (.ireturn, 1) := by decide +kernel
theorem dL_law_436 : decode cL_law 436 = .ok (.aload_n 1, 1) := by decide +kernel
theorem dL_law_437 : decode cL_law 437 = .ok (.aload_n 0, 1) := by decide +kernel
theorem dL_law_438 : decode cL_law 438 = .ok (.iload_n 3, 1) := by decide +kernel
theorem dL_law_439 : decode cL_law 439 = .ok (.iconst 1, 1) := by decide +kernel
theorem dL_law_440 : decode cL_law 440 = .ok (.iadd, 1) := by decide +kernel
theorem dL_law_441 : decode cL_law 441 = .ok (.iaload, 1) := by decide +kernel
theorem dL_law_442 : decode cL_law 442 = .ok (.aload_n 0, 1) := by decide +kernel
theorem dL_law_443 : decode cL_law 443 = .ok (.iload_n 3, 1) := by decide +kernel
theorem dL_law_444 : decode cL_law 444 = .ok (.iconst 2, 1) := by decide +kernel
theorem dL_law_445 : decode cL_law 445 = .ok (.iadd, 1) := by decide +kernel
theorem dL_law_446 : decode cL_law 446 = .ok (.iaload, 1) := by decide +kernel
theorem dL_law_447 : decode cL_law 447 = .ok (.aload_n 0, 1) := by decide +kernel
theorem dL_law_448 : decode cL_law 448 = .ok (.iload_n 3, 1) := by decide +kernel
theorem dL_law_449 : decode cL_law 449 = .ok (.iconst 3, 1) := by decide +kernel
theorem dL_law_450 : decode cL_law 450 = .ok (.iadd, 1) := by decide +kernel
theorem dL_law_451 : decode cL_law 451 = .ok (.iaload, 1) := by decide +kernel
theorem dL_law_452 : decode cL_law 452 = .ok (.aload_n 0, 1) := by decide +kernel
theorem dL_law_453 : decode cL_law 453 = .ok (.iload_n 3, 1) := by decide +kernel
theorem dL_law_454 : decode cL_law 454 = .ok (.iconst 4, 1) := by decide +kernel
theorem dL_law_455 : decode cL_law 455 = .ok (.iadd, 1) := by decide +kernel
theorem dL_law_456 : decode cL_law 456 = .ok (.iaload, 1) := by decide +kernel
theorem dL_law_457 : decode cL_law 457 = .ok (.invokevirtual 48, 3) := by decide +kernel
theorem dL_law_460 : decode cL_law 460 = .ok (.aload_n 2, 1) := by decide +kernel
theorem dL_law_461 : decode cL_law 461 = .ok (.aload_n 0, 1) := by decide +kernel
theorem dL_law_462 : decode cL_law 462 = .ok (.iload_n 3, 1) := by decide +kernel
theorem dL_law_463 : decode cL_law 463 = .ok (.iconst 1, 1) := by decide +kernel
theorem dL_law_464 : decode cL_law 464 = .ok (.iadd, 1) := by decide +kernel
theorem dL_law_465 : decode cL_law 465 = .ok (.iaload, 1) := by decide +kernel
theorem dL_law_466 : decode cL_law 466 = .ok (.aload_n 0, 1) := by decide +kernel
theorem dL_law_467 : decode cL_law 467 = .ok (.iload_n 3, 1) := by decide +kernel
theorem dL_law_468 : decode cL_law 468 = .ok (.iconst 2, 1) := by decide +kernel
theorem dL_law_469 : decode cL_law 469 = .ok (.iadd, 1) := by decide +kernel
theorem dL_law_470 : decode cL_law 470 = .ok (.iaload, 1) := by decide +kernel
theorem dL_law_471 : decode cL_law 471 = .ok (.aload_n 0, 1) := by decide +kernel
theorem dL_law_472 : decode cL_law 472 = .ok (.iload_n 3, 1) := by decide +kernel
theorem dL_law_473 : decode cL_law 473 = .ok (.iconst 3, 1) := by decide +kernel
theorem dL_law_474 : decode cL_law 474 = .ok (.iadd, 1) := by decide +kernel
theorem dL_law_475 : decode cL_law 475 = .ok (.iaload, 1) := by decide +kernel
theorem dL_law_476 : decode cL_law 476 = .ok (.aload_n 0, 1) := by decide +kernel
theorem dL_law_477 : decode cL_law 477 = .ok (.iload_n 3, 1) := by decide +kernel
theorem dL_law_478 : decode cL_law 478 = .ok (.iconst 4, 1) := by decide +kernel
theorem dL_law_479 : decode cL_law 479 = .ok (.iadd, 1) := by decide +kernel
theorem dL_law_480 : decode cL_law 480 = .ok (.iaload, 1) := by decide +kernel
theorem dL_law_481 : decode cL_law 481 = .ok (.invokevirtual 51, 3) := by decide +kernel
theorem dL_law_484 : decode cL_law 484 = .ok (.if_icmp .eq 436, 3) := by decide +kernel
theorem dL_law_487 : decode cL_law 487 = .ok (.iconst 0, 1) := by decide +kernel
theorem dL_law_488 : decode cL_law 488 = .ok (.ireturn, 1) := by decide +kernel
theorem dL_law_489 : decode cL_law 489 = .ok (.aload_n 1, 1) := by decide +kernel
theorem dL_law_490 : decode cL_law 490 = .ok (.aload_n 0, 1) := by decide +kernel
theorem dL_law_491 : decode cL_law 491 = .ok (.iload_n 3, 1) := by decide +kernel
theorem dL_law_492 : decode cL_law 492 = .ok (.iconst 1, 1) := by decide +kernel
theorem dL_law_493 : decode cL_law 493 = .ok (.iadd, 1) := by decide +kernel
theorem dL_law_494 : decode cL_law 494 = .ok (.iaload, 1) := by decide +kernel
theorem dL_law_495 : decode cL_law 495 = .ok (.invokevirtual 52, 3) := by decide +kernel
theorem dL_law_498 : decode cL_law 498 = .ok (.aload_n 2, 1) := by decide +kernel
theorem dL_law_499 : decode cL_law 499 = .ok (.aload_n 0, 1) := by decide +kernel
theorem dL_law_500 : decode cL_law 500 = .ok (.iload_n 3, 1) := by decide +kernel
theorem dL_law_501 : decode cL_law 501 = .ok (.iconst 1, 1) := by decide +kernel
theorem dL_law_502 : decode cL_law 502 = .ok (.iadd, 1) := by decide +kernel
theorem dL_law_503 : decode cL_law 503 = .ok (.iaload, 1) := by decide +kernel
theorem dL_law_504 : decode cL_law 504 = .ok (.invokevirtual 55, 3) := by decide +kernel
theorem dL_law_507 : decode cL_law 507 = .ok (.if_icmp .eq 413, 3) := by decide +kernel
theorem dL_law_510 : decode cL_law 510 = .ok (.iconst 0, 1) := by decide +kernel
theorem dL_law_511 : decode cL_law 511 = .ok (.ireturn, 1) := by decide +kernel
theorem dL_law_512 : decode cL_law 512 = .ok (.aload_n 1, 1) := by decide +kernel
theorem dL_law_513 : decode cL_law 513 = .ok (.aload_n 0, 1) := by decide +kernel
theorem dL_law_514 : decode cL_law 514 = .ok (.iload_n 3, 1) := by decide +kernel
theorem dL_law_515 : decode cL_law 515 = .ok (.iconst 1, 1) := by decide +kernel
theorem dL_law_516 : decode cL_law 516 = .ok (.iadd, 1) := by decide +kernel
theorem dL_law_517 : decode cL_law 517 = .ok (.iaload, 1) := by decide +kernel
theorem dL_law_518 : decode cL_law 518 = .ok (.invokevirtual 56, 3) := by decide +kernel
theorem dL_law_521 : decode cL_law 521 = .ok (.aload_n 2, 1) := by decide +kernel
theorem dL_law_522 : decode cL_law 522 = .ok (.aload_n 0, 1) := by decide +kernel
theorem dL_law_523 : decode cL_law 523 = .ok (.iload_n 3, 1) := by decide +kernel
theorem dL_law_524 : decode cL_law 524 = .ok (.iconst 1, 1) := by decide +kernel
theorem dL_law_525 : decode cL_law 525 = .ok (.iadd, 1) := by decide +kernel
theorem dL_law_526 : decode cL_law 526 = .ok (.iaload, 1) := by decide +kernel
theorem dL_law_527 : decode cL_law 527 = .ok (.invokevirtual 59, 3) := by decide +kernel
theorem dL_law_530 : decode cL_law 530 = .ok (.if_icmp .eq 390, 3) := by decide +kernel
theorem dL_law_533 : decode cL_law 533 = .ok (.iconst 0, 1) := by decide +kernel
theorem dL_law_534 : decode cL_law 534 = .ok (.ireturn, 1) := by decide +kernel
theorem dL_law_535 : decode cL_law 535 = .ok (.aload_n 1, 1) := by decide +kernel
theorem dL_law_536 : decode cL_law 536 = .ok (.invokevirtual 60, 3) := by decide +kernel
theorem dL_law_539 : decode cL_law 539 = .ok (.aload_n 2, 1) := by decide +kernel
theorem dL_law_540 : decode cL_law 540 = .ok (.invokevirtual 64, 3) := by decide +kernel
theorem dL_law_543 : decode cL_law 543 = .ok (.if_icmp .eq 377, 3) := by decide +kernel
theorem dL_law_546 : decode cL_law 546 = .ok (.iconst 0, 1) := by decide +kernel
theorem dL_law_547 : decode cL_law 547 = .ok (.ireturn, 1) := by decide +kernel
theorem dL_law_548 : decode cL_law 548 = .ok (.aload_n 1, 1) := by decide +kernel
theorem dL_law_549 : decode cL_law 549 = .ok (.aload_n 0, 1) := by decide +kernel
theorem dL_law_550 : decode cL_law 550 = .ok (.iload_n 3, 1) := by decide +kernel
theorem dL_law_551 : decode cL_law 551 = .ok (.iconst 1, 1) := by decide +kernel
theorem dL_law_552 : decode cL_law 552 = .ok (.iadd, 1) := by decide +kernel
theorem dL_law_553 : decode cL_law 553 = .ok (.iaload, 1) := by decide +kernel
theorem dL_law_554 : decode cL_law 554 = .ok (.invokevirtual 65, 3) := by decide +kernel
theorem dL_law_557 : decode cL_law 557 = .ok (.aload_n 2, 1) := by decide +kernel
theorem dL_law_558 : decode cL_law 558 = .ok (.aload_n 0, 1) := by decide +kernel
theorem dL_law_559 : decode cL_law 559 = .ok (.iload_n 3, 1) := by decide +kernel
theorem dL_law_560 : decode cL_law 560 = .ok (.iconst 1, 1) := by decide +kernel
theorem dL_law_561 : decode cL_law 561 = .ok (.iadd, 1) := by decide +kernel
theorem dL_law_562 : decode cL_law 562 = .ok (.iaload, 1) := by decide +kernel
theorem dL_law_563 : decode cL_law 563 = .ok (.invokevirtual 68, 3) := by decide +kernel
theorem dL_law_566 : decode cL_law 566 = .ok (.if_icmp .eq 354, 3) := by decide +kernel
theorem dL_law_569 : decode cL_law 569 = .ok (.iconst 0, 1) := by decide +kernel
theorem dL_law_570 : decode cL_law 570 = .ok (.ireturn, 1) := by decide +kernel
theorem dL_law_571 : decode cL_law 571 = .ok (.aload_n 1, 1) := by decide +kernel
theorem dL_law_572 : decode cL_law 572 = .ok (.invokevirtual 69, 3) := by decide +kernel
theorem dL_law_575 : decode cL_law 575 = .ok (.aload_n 2, 1) := by decide +kernel
theorem dL_law_576 : decode cL_law 576 = .ok (.invokevirtual 72, 3) := by decide +kernel
theorem dL_law_579 : decode cL_law 579 = .ok (.if_icmp .eq 341, 3) := by decide +kernel
theorem dL_law_582 : decode cL_law 582 = .ok (.iconst 0, 1) := by decide +kernel
theorem dL_law_583 : decode cL_law 583 = .ok (.ireturn, 1) := by decide +kernel
theorem dL_law_584 : decode cL_law 584 = .ok (.aload_n 1, 1) := by decide +kernel
theorem dL_law_585 : decode cL_law 585 = .ok (.invokevirtual 73, 3) := by decide +kernel
theorem dL_law_588 : decode cL_law 588 = .ok (.aload_n 2, 1) := by decide +kernel
theorem dL_law_589 : decode cL_law 589 = .ok (.invokevirtual 76, 3) := by decide +kernel
theorem dL_law_592 : decode cL_law 592 = .ok (.if_icmp .eq 328, 3) := by decide +kernel
theorem dL_law_595 : decode cL_law 595 = .ok (.iconst 0, 1) := by decide +kernel
theorem dL_law_596 : decode cL_law 596 = .ok (.ireturn, 1) := by decide +kernel
theorem dL_law_597 : decode cL_law 597 = .ok (.aload_n 1, 1) := by decide +kernel
theorem dL_law_598 : decode cL_law 598 = .ok (.aload_n 0, 1) := by decide +kernel
theorem dL_law_599 : decode cL_law 599 = .ok (.iload_n 3, 1) := by decide +kernel
theorem dL_law_600 : decode cL_law 600 = .ok (.iconst 1, 1) := by decide +kernel
theorem dL_law_601 : decode cL_law 601 = .ok (.iadd, 1) := by decide +kernel
theorem dL_law_602 : decode cL_law 602 = .ok (.iaload, 1) := by decide +kernel
theorem dL_law_603 : decode cL_law 603 = .ok (.invokevirtual 77, 3) := by decide +kernel
theorem dL_law_606 : decode cL_law 606 = .ok (.aload_n 2, 1) := by decide +kernel
theorem dL_law_607 : decode cL_law 607 = .ok (.aload_n 0, 1) := by decide +kernel
theorem dL_law_608 : decode cL_law 608 = .ok (.iload_n 3, 1) := by decide +kernel
theorem dL_law_609 : decode cL_law 609 = .ok (.iconst 1, 1) := by decide +kernel
theorem dL_law_610 : decode cL_law 610 = .ok (.iadd, 1) := by decide +kernel
theorem dL_law_611 : decode cL_law 611 = .ok (.iaload, 1) := by decide +kernel
theorem dL_law_612 : decode cL_law 612 = .ok (.invokevirtual 80, 3) := by decide +kernel
theorem dL_law_615 : decode cL_law 615 = .ok (.if_icmp .eq 305, 3) := by decide +kernel
theorem dL_law_618 : decode cL_law 618 = .ok (.iconst 0, 1) := by decide +kernel
theorem dL_law_619 : decode cL_law 619 = .ok (.ireturn, 1) := by decide +kernel
theorem dL_law_620 : decode cL_law 620 = .ok (.aload_n 1, 1) := by decide +kernel
theorem dL_law_621 : decode cL_law 621 = .ok (.aload_n 0, 1) := by decide +kernel
theorem dL_law_622 : decode cL_law 622 = .ok (.iload_n 3, 1) := by decide +kernel
theorem dL_law_623 : decode cL_law 623 = .ok (.iconst 1, 1) := by decide +kernel
theorem dL_law_624 : decode cL_law 624 = .ok (.iadd, 1) := by decide +kernel
theorem dL_law_625 : decode cL_law 625 = .ok (.iaload, 1) := by decide +kernel
theorem dL_law_626 : decode cL_law 626 = .ok (.aload_n 0, 1) := by decide +kernel
theorem dL_law_627 : decode cL_law 627 = .ok (.iload_n 3, 1) := by decide +kernel
theorem dL_law_628 : decode cL_law 628 = .ok (.iconst 2, 1) := by decide +kernel
theorem dL_law_629 : decode cL_law 629 = .ok (.iadd, 1) := by decide +kernel
theorem dL_law_630 : decode cL_law 630 = .ok (.iaload, 1) := by decide +kernel
theorem dL_law_631 : decode cL_law 631 = .ok (.invokevirtual 81, 3) := by decide +kernel
theorem dL_law_634 : decode cL_law 634 = .ok (.aload_n 2, 1) := by decide +kernel
theorem dL_law_635 : decode cL_law 635 = .ok (.aload_n 0, 1) := by decide +kernel
theorem dL_law_636 : decode cL_law 636 = .ok (.iload_n 3, 1) := by decide +kernel
theorem dL_law_637 : decode cL_law 637 = .ok (.iconst 1, 1) := by decide +kernel
theorem dL_law_638 : decode cL_law 638 = .ok (.iadd, 1) := by decide +kernel
theorem dL_law_639 : decode cL_law 639 = .ok (.iaload, 1) := by decide +kernel
theorem dL_law_640 : decode cL_law 640 = .ok (.aload_n 0, 1) := by decide +kernel
theorem dL_law_641 : decode cL_law 641 = .ok (.iload_n 3, 1) := by decide +kernel
theorem dL_law_642 : decode cL_law 642 = .ok (.iconst 2, 1) := by decide +kernel
theorem dL_law_643 : decode cL_law 643 = .ok (.iadd, 1) := by decide +kernel
theorem dL_law_644 : decode cL_law 644 = .ok (.iaload, 1) := by decide +kernel
theorem dL_law_645 : decode cL_law 645 = .ok (.invokevirtual 84, 3) := by decide +kernel
theorem dL_law_648 : decode cL_law 648 = .ok (.if_icmp .eq 272, 3) := by decide +kernel
theorem dL_law_651 : decode cL_law 651 = .ok (.iconst 0, 1) := by decide +kernel
theorem dL_law_652 : decode cL_law 652 = .ok (.ireturn, 1) := by decide +kernel
theorem dL_law_653 : decode cL_law 653 = .ok (.aload_n 1, 1) := by decide +kernel
theorem dL_law_654 : decode cL_law 654 = .ok (.aload_n 0, 1) := by decide +kernel
theorem dL_law_655 : decode cL_law 655 = .ok (.iload_n 3, 1) := by decide +kernel
theorem dL_law_656 : decode cL_law 656 = .ok (.iconst 1, 1) := by decide +kernel
theorem dL_law_657 : decode cL_law 657 = .ok (.iadd, 1) := by decide +kernel
theorem dL_law_658 : decode cL_law 658 = .ok (.iaload, 1) := by decide +kernel
theorem dL_law_659 : decode cL_law 659 = .ok (.aload_n 0, 1) := by decide +kernel
theorem dL_law_660 : decode cL_law 660 = .ok (.iload_n 3, 1) := by decide +kernel
theorem dL_law_661 : decode cL_law 661 = .ok (.iconst 2, 1) := by decide +kernel
theorem dL_law_662 : decode cL_law 662 = .ok (.iadd, 1) := by decide +kernel
theorem dL_law_663 : decode cL_law 663 = .ok (.iaload, 1) := by decide +kernel
theorem dL_law_664 : decode cL_law 664 = .ok (.invokevirtual 85, 3) := by decide +kernel
theorem dL_law_667 : decode cL_law 667 = .ok (.aload_n 2, 1) := by decide +kernel
theorem dL_law_668 : decode cL_law 668 = .ok (.aload_n 0, 1) := by decide +kernel
theorem dL_law_669 : decode cL_law 669 = .ok (.iload_n 3, 1) := by decide +kernel
theorem dL_law_670 : decode cL_law 670 = .ok (.iconst 1, 1) := by decide +kernel
theorem dL_law_671 : decode cL_law 671 = .ok (.iadd, 1) := by decide +kernel
theorem dL_law_672 : decode cL_law 672 = .ok (.iaload, 1) := by decide +kernel
theorem dL_law_673 : decode cL_law 673 = .ok (.aload_n 0, 1) := by decide +kernel
theorem dL_law_674 : decode cL_law 674 = .ok (.iload_n 3, 1) := by decide +kernel
theorem dL_law_675 : decode cL_law 675 = .ok (.iconst 2, 1) := by decide +kernel
theorem dL_law_676 : decode cL_law 676 = .ok (.iadd, 1) := by decide +kernel
theorem dL_law_677 : decode cL_law 677 = .ok (.iaload, 1) := by decide +kernel
theorem dL_law_678 : decode cL_law 678 = .ok (.invokevirtual 88, 3) := by decide +kernel
theorem dL_law_681 : decode cL_law 681 = .ok (.if_icmp .eq 239, 3) := by decide +kernel
theorem dL_law_684 : decode cL_law 684 = .ok (.iconst 0, 1) := by decide +kernel
theorem dL_law_685 : decode cL_law 685 = .ok (.ireturn, 1) := by decide +kernel
theorem dL_law_686 : decode cL_law 686 = .ok (.aload_n 1, 1) := by decide +kernel
theorem dL_law_687 : decode cL_law 687 = .ok (.aload_n 0, 1) := by decide +kernel
theorem dL_law_688 : decode cL_law 688 = .ok (.iload_n 3, 1) := by decide +kernel
theorem dL_law_689 : decode cL_law 689 = .ok (.iconst 1, 1) := by decide +kernel
theorem dL_law_690 : decode cL_law 690 = .ok (.iadd, 1) := by decide +kernel
theorem dL_law_691 : decode cL_law 691 = .ok (.iaload, 1) := by decide +kernel
theorem dL_law_692 : decode cL_law 692 = .ok (.aload_n 0, 1) := by decide +kernel
theorem dL_law_693 : decode cL_law 693 = .ok (.iload_n 3, 1) := by decide +kernel
theorem dL_law_694 : decode cL_law 694 = .ok (.iconst 2, 1) := by decide +kernel
theorem dL_law_695 : decode cL_law 695 = .ok (.iadd, 1) := by decide +kernel
theorem dL_law_696 : decode cL_law 696 = .ok (.iaload, 1) := by decide +kernel
theorem dL_law_697 : decode cL_law 697 = .ok (.invokevirtual 89, 3) := by decide +kernel
theorem dL_law_700 : decode cL_law 700 = .ok (.aload_n 2, 1) := by decide +kernel
theorem dL_law_701 : decode cL_law 701 = .ok (.aload_n 0, 1) := by decide +kernel
theorem dL_law_702 : decode cL_law 702 = .ok (.iload_n 3, 1) := by decide +kernel
theorem dL_law_703 : decode cL_law 703 = .ok (.iconst 1, 1) := by decide +kernel
theorem dL_law_704 : decode cL_law 704 = .ok (.iadd, 1) := by decide +kernel
theorem dL_law_705 : decode cL_law 705 = .ok (.iaload, 1) := by decide +kernel
theorem dL_law_706 : decode cL_law 706 = .ok (.aload_n 0, 1) := by decide +kernel
theorem dL_law_707 : decode cL_law 707 = .ok (.iload_n 3, 1) := by decide +kernel
theorem dL_law_708 : decode cL_law 708 = .ok (.iconst 2, 1) := by decide +kernel
theorem dL_law_709 : decode cL_law 709 = .ok (.iadd, 1) := by decide +kernel
theorem dL_law_710 : decode cL_law 710 = .ok (.iaload, 1) := by decide +kernel
theorem dL_law_711 : decode cL_law 711 = .ok (.invokevirtual 92, 3) := by decide +kernel
theorem dL_law_714 : decode cL_law 714 = .ok (.if_icmp .eq 206, 3) := by decide +kernel
theorem dL_law_717 : decode cL_law 717 = .ok (.iconst 0, 1) := by decide +kernel
theorem dL_law_718 : decode cL_law 718 = .ok (.ireturn, 1) := by decide +kernel
theorem dL_law_719 : decode cL_law 719 = .ok (.aload_n 1, 1) := by decide +kernel
theorem dL_law_720 : decode cL_law 720 = .ok (.aload_n 0, 1) := by decide +kernel
theorem dL_law_721 : decode cL_law 721 = .ok (.iload_n 3, 1) := by decide +kernel
theorem dL_law_722 : decode cL_law 722 = .ok (.iconst 1, 1) := by decide +kernel
theorem dL_law_723 : decode cL_law 723 = .ok (.iadd, 1) := by decide +kernel
theorem dL_law_724 : decode cL_law 724 = .ok (.iaload, 1) := by decide +kernel
theorem dL_law_725 : decode cL_law 725 = .ok (.invokevirtual 93, 3) := by decide +kernel
theorem dL_law_728 : decode cL_law 728 = .ok (.aload_n 2, 1) := by decide +kernel
theorem dL_law_729 : decode cL_law 729 = .ok (.aload_n 0, 1) := by decide +kernel
theorem dL_law_730 : decode cL_law 730 = .ok (.iload_n 3, 1) := by decide +kernel
theorem dL_law_731 : decode cL_law 731 = .ok (.iconst 1, 1) := by decide +kernel
theorem dL_law_732 : decode cL_law 732 = .ok (.iadd, 1) := by decide +kernel
theorem dL_law_733 : decode cL_law 733 = .ok (.iaload, 1) := by decide +kernel
theorem dL_law_734 : decode cL_law 734 = .ok (.invokevirtual 96, 3) := by decide +kernel
theorem dL_law_737 : decode cL_law 737 = .ok (.if_icmp .eq 183, 3) := by decide +kernel
theorem dL_law_740 : decode cL_law 740 = .ok (.iconst 0, 1) := by decide +kernel
theorem dL_law_741 : decode cL_law 741 = .ok (.ireturn, 1) := by decide +kernel
theorem dL_law_742 : decode cL_law 742 = .ok (.aload_n 1, 1) := by decide +kernel
theorem dL_law_743 : decode cL_law 743 = .ok (.aload_n 0, 1) := by decide +kernel
theorem dL_law_744 : decode cL_law 744 = .ok (.iload_n 3, 1) := by decide +kernel
theorem dL_law_745 : decode cL_law 745 = .ok (.iconst 1, 1) := by decide +kernel
theorem dL_law_746 : decode cL_law 746 = .ok (.iadd, 1) := by decide +kernel
theorem dL_law_747 : decode cL_law 747 = .ok (.iaload, 1) := by decide +kernel
theorem dL_law_748 : decode cL_law 748 = .ok (.aload_n 0, 1) := by decide +kernel
theorem dL_law_749 : decode cL_law 749 = .ok (.iload_n 3, 1) := by decide +kernel
theorem dL_law_750 : decode cL_law 750 = .ok (.iconst 2, 1) := by decide +kernel
theorem dL_law_751 : decode cL_law 751 = .ok (.iadd, 1) := by decide +kernel
theorem dL_law_752 : decode cL_law 752 = .ok (.iaload, 1) := by decide +kernel
theorem dL_law_753 : decode cL_law 753 = .ok (.invokevirtual 97, 3) := by decide +kernel
theorem dL_law_756 : decode cL_law 756 = .ok (.aload_n 2, 1) := by decide +kernel
theorem dL_law_757 : decode cL_law 757 = .ok (.aload_n 0, 1) := by decide +kernel
theorem dL_law_758 : decode cL_law 758 = .ok (.iload_n 3, 1) := by decide +kernel
theorem dL_law_759 : decode cL_law 759 = .ok (.iconst 1, 1) := by decide +kernel
theorem dL_law_760 : decode cL_law 760 = .ok (.iadd, 1) := by decide +kernel
theorem dL_law_761 : decode cL_law 761 = .ok (.iaload, 1) := by decide +kernel
theorem dL_law_762 : decode cL_law 762 = .ok (.aload_n 0, 1) := by decide +kernel
theorem dL_law_763 : decode cL_law 763 = .ok (.iload_n 3, 1) := by decide +kernel
theorem dL_law_764 : decode cL_law 764 = .ok (.iconst 2, 1) := by decide +kernel
theorem dL_law_765 : decode cL_law 765 = .ok (.iadd, 1) := by decide +kernel
theorem dL_law_766 : decode cL_law 766 = .ok (.iaload, 1) := by decide +kernel
theorem dL_law_767 : decode cL_law 767 = .ok (.invokevirtual 100, 3) := by decide +kernel
theorem dL_law_770 : decode cL_law 770 = .ok (.if_icmp .eq 150, 3) := by decide +kernel
theorem dL_law_773 : decode cL_law 773 = .ok (.iconst 0, 1) := by decide +kernel
theorem dL_law_774 : decode cL_law 774 = .ok (.ireturn, 1) := by decide +kernel
theorem dL_law_775 : decode cL_law 775 = .ok (.aload_n 1, 1) := by decide +kernel
theorem dL_law_776 : decode cL_law 776 = .ok (.aload_n 0, 1) := by decide +kernel
theorem dL_law_777 : decode cL_law 777 = .ok (.iload_n 3, 1) := by decide +kernel
theorem dL_law_778 : decode cL_law 778 = .ok (.iconst 1, 1) := by decide +kernel
theorem dL_law_779 : decode cL_law 779 = .ok (.iadd, 1) := by decide +kernel
theorem dL_law_780 : decode cL_law 780 = .ok (.iaload, 1) := by decide +kernel
theorem dL_law_781 : decode cL_law 781 = .ok (.aload_n 0, 1) := by decide +kernel
theorem dL_law_782 : decode cL_law 782 = .ok (.iload_n 3, 1) := by decide +kernel
theorem dL_law_783 : decode cL_law 783 = .ok (.iconst 2, 1) := by decide +kernel
theorem dL_law_784 : decode cL_law 784 = .ok (.iadd, 1) := by decide +kernel
theorem dL_law_785 : decode cL_law 785 = .ok (.iaload, 1) := by decide +kernel
theorem dL_law_786 : decode cL_law 786 = .ok (.invokevirtual 101, 3) := by decide +kernel
theorem dL_law_789 : decode cL_law 789 = .ok (.aload_n 2, 1) := by decide +kernel
theorem dL_law_790 : decode cL_law 790 = .ok (.aload_n 0, 1) := by decide +kernel
theorem dL_law_791 : decode cL_law 791 = .ok (.iload_n 3, 1) := by decide +kernel
theorem dL_law_792 : decode cL_law 792 = .ok (.iconst 1, 1) := by decide +kernel
theorem dL_law_793 : decode cL_law 793 = .ok (.iadd, 1) := by decide +kernel
theorem dL_law_794 : decode cL_law 794 = .ok (.iaload, 1) := by decide +kernel
theorem dL_law_795 : decode cL_law 795 = .ok (.aload_n 0, 1) := by decide +kernel
theorem dL_law_796 : decode cL_law 796 = .ok (.iload_n 3, 1) := by decide +kernel
theorem dL_law_797 : decode cL_law 797 = .ok (.iconst 2, 1) := by decide +kernel
theorem dL_law_798 : decode cL_law 798 = .ok (.iadd, 1) := by decide +kernel
theorem dL_law_799 : decode cL_law 799 = .ok (.iaload, 1) := by decide +kernel
theorem dL_law_800 : decode cL_law 800 = .ok (.invokevirtual 104, 3) := by decide +kernel
theorem dL_law_803 : decode cL_law 803 = .ok (.if_icmp .eq 117, 3) := by decide +kernel
theorem dL_law_806 : decode cL_law 806 = .ok (.iconst 0, 1) := by decide +kernel
theorem dL_law_807 : decode cL_law 807 = .ok (.ireturn, 1) := by decide +kernel
theorem dL_law_808 : decode cL_law 808 = .ok (.aload_n 1, 1) := by decide +kernel
theorem dL_law_809 : decode cL_law 809 = .ok (.aload_n 0, 1) := by decide +kernel
theorem dL_law_810 : decode cL_law 810 = .ok (.iload_n 3, 1) := by decide +kernel
theorem dL_law_811 : decode cL_law 811 = .ok (.iconst 1, 1) := by decide +kernel
theorem dL_law_812 : decode cL_law 812 = .ok (.iadd, 1) := by decide +kernel
theorem dL_law_813 : decode cL_law 813 = .ok (.iaload, 1) := by decide +kernel
theorem dL_law_814 : decode cL_law 814 = .ok (.aload_n 0, 1) := by decide +kernel
theorem dL_law_815 : decode cL_law 815 = .ok (.iload_n 3, 1) := by decide +kernel
theorem dL_law_816 : decode cL_law 816 = .ok (.iconst 2, 1) := by decide +kernel
theorem dL_law_817 : decode cL_law 817 = .ok (.iadd, 1) := by decide +kernel
theorem dL_law_818 : decode cL_law 818 = .ok (.iaload, 1) := by decide +kernel
theorem dL_law_819 : decode cL_law 819 = .ok (.invokevirtual 105, 3) := by decide +kernel
theorem dL_law_822 : decode cL_law 822 = .ok (.aload_n 2, 1) := by decide +kernel
theorem dL_law_823 : decode cL_law 823 = .ok (.aload_n 0, 1) := by decide +kernel
theorem dL_law_824 : decode cL_law 824 = .ok (.iload_n 3, 1) := by decide +kernel
theorem dL_law_825 : decode cL_law 825 = .ok (.iconst 1, 1) := by decide +kernel
theorem dL_law_826 : decode cL_law 826 = .ok (.iadd, 1) := by decide +kernel
theorem dL_law_827 : decode cL_law 827 = .ok (.iaload, 1) := by decide +kernel
theorem dL_law_828 : decode cL_law 828 = .ok (.aload_n 0, 1) := by decide +kernel
theorem dL_law_829 : decode cL_law 829 = .ok (.iload_n 3, 1) := by decide +kernel
theorem dL_law_830 : decode cL_law 830 = .ok (.iconst 2, 1) := by decide +kernel
theorem dL_law_831 : decode cL_law 831 = .ok (.iadd, 1) := by decide +kernel
theorem dL_law_832 : decode cL_law 832 = .ok (.iaload, 1) := by decide +kernel
theorem dL_law_833 : decode cL_law 833 = .ok (.invokevirtual 108, 3) := by decide +kernel
theorem dL_law_836 : decode cL_law 836 = .ok (.if_icmp .eq 84, 3) := by decide +kernel
theorem dL_law_839 : decode cL_law 839 = .ok (.iconst 0, 1) := by decide +kernel
theorem dL_law_840 : decode cL_law 840 = .ok (.ireturn, 1) := by decide +kernel
theorem dL_law_841 : decode cL_law 841 = .ok (.aload_n 1, 1) := by decide +kernel
theorem dL_law_842 : decode cL_law 842 = .ok (.aload_n 0, 1) := by decide +kernel
theorem dL_law_843 : decode cL_law 843 = .ok (.iload_n 3, 1) := by decide +kernel
theorem dL_law_844 : decode cL_law 844 = .ok (.iconst 1, 1) := by decide +kernel
theorem dL_law_845 : decode cL_law 845 = .ok (.iadd, 1) := by decide +kernel
theorem dL_law_846 : decode cL_law 846 = .ok (.iaload, 1) := by decide +kernel
theorem dL_law_847 : decode cL_law 847 = .ok (.invokevirtual 109, 3) := by decide +kernel
theorem dL_law_850 : decode cL_law 850 = .ok (.aload_n 2, 1) := by decide +kernel
theorem dL_law_851 : decode cL_law 851 = .ok (.aload_n 0, 1) := by decide +kernel
theorem dL_law_852 : decode cL_law 852 = .ok (.iload_n 3, 1) := by decide +kernel
theorem dL_law_853 : decode cL_law 853 = .ok (.iconst 1, 1) := by decide +kernel
theorem dL_law_854 : decode cL_law 854 = .ok (.iadd, 1) := by decide +kernel
theorem dL_law_855 : decode cL_law 855 = .ok (.iaload, 1) := by decide +kernel
theorem dL_law_856 : decode cL_law 856 = .ok (.invokevirtual 112, 3) := by decide +kernel
theorem dL_law_859 : decode cL_law 859 = .ok (.if_icmp .eq 61, 3) := by decide +kernel
theorem dL_law_862 : decode cL_law 862 = .ok (.iconst 0, 1) := by decide +kernel
theorem dL_law_863 : decode cL_law 863 = .ok (.ireturn, 1) := by decide +kernel
theorem dL_law_864 : decode cL_law 864 = .ok (.aload_n 1, 1) := by decide +kernel
theorem dL_law_865 : decode cL_law 865 = .ok (.aload_n 0, 1) := by decide +kernel
theorem dL_law_866 : decode cL_law 866 = .ok (.iload_n 3, 1) := by decide +kernel
theorem dL_law_867 : decode cL_law 867 = .ok (.iconst 1, 1) := by decide +kernel
theorem dL_law_868 : decode cL_law 868 = .ok (.iadd, 1) := by decide +kernel
theorem dL_law_869 : decode cL_law 869 = .ok (.iaload, 1) := by decide +kernel
theorem dL_law_870 : decode cL_law 870 = .ok (.aload_n 0, 1) := by decide +kernel
theorem dL_law_871 : decode cL_law 871 = .ok (.iload_n 3, 1) := by decide +kernel
theorem dL_law_872 : decode cL_law 872 = .ok (.iconst 2, 1) := by decide +kernel
theorem dL_law_873 : decode cL_law 873 = .ok (.iadd, 1) := by decide +kernel
theorem dL_law_874 : decode cL_law 874 = .ok (.iaload, 1) := by decide +kernel
theorem dL_law_875 : decode cL_law 875 = .ok (.invokevirtual 113, 3) := by decide +kernel
theorem dL_law_878 : decode cL_law 878 = .ok (.aload_n 2, 1) := by decide +kernel
theorem dL_law_879 : decode cL_law 879 = .ok (.aload_n 0, 1) := by decide +kernel
theorem dL_law_880 : decode cL_law 880 = .ok (.iload_n 3, 1) := by decide +kernel
theorem dL_law_881 : decode cL_law 881 = .ok (.iconst 1, 1) := by decide +kernel
theorem dL_law_882 : decode cL_law 882 = .ok (.iadd, 1) := by decide +kernel
theorem dL_law_883 : decode cL_law 883 = .ok (.iaload, 1) := by decide +kernel
theorem dL_law_884 : decode cL_law 884 = .ok (.aload_n 0, 1) := by decide +kernel
theorem dL_law_885 : decode cL_law 885 = .ok (.iload_n 3, 1) := by decide +kernel
theorem dL_law_886 : decode cL_law 886 = .ok (.iconst 2, 1) := by decide +kernel
theorem dL_law_887 : decode cL_law 887 = .ok (.iadd, 1) := by decide +kernel
theorem dL_law_888 : decode cL_law 888 = .ok (.iaload, 1) := by decide +kernel
theorem dL_law_889 : decode cL_law 889 = .ok (.invokevirtual 116, 3) := by decide +kernel
theorem dL_law_892 : decode cL_law 892 = .ok (.if_icmp .eq 28, 3) := by decide +kernel
theorem dL_law_895 : decode cL_law 895 = .ok (.iconst 0, 1) := by decide +kernel
theorem dL_law_896 : decode cL_law 896 = .ok (.ireturn, 1) := by decide +kernel
theorem dL_law_897 : decode cL_law 897 = .ok (.aload_n 1, 1) := by decide +kernel
theorem dL_law_898 : decode cL_law 898 = .ok (.aload_n 0, 1) := by decide +kernel
theorem dL_law_899 : decode cL_law 899 = .ok (.iload_n 3, 1) := by decide +kernel
theorem dL_law_900 : decode cL_law 900 = .ok (.iconst 1, 1) := by decide +kernel
theorem dL_law_901 : decode cL_law 901 = .ok (.iadd, 1) := by decide +kernel
theorem dL_law_902 : decode cL_law 902 = .ok (.iaload, 1) := by decide +kernel
theorem dL_law_903 : decode cL_law 903 = .ok (.invokevirtual 117, 3) := by decide +kernel
theorem dL_law_906 : decode cL_law 906 = .ok (.aload_n 2, 1) := by decide +kernel
theorem dL_law_907 : decode cL_law 907 = .ok (.aload_n 0, 1) := by decide +kernel
theorem dL_law_908 : decode cL_law 908 = .ok (.iload_n 3, 1) := by decide +kernel
theorem dL_law_909 : decode cL_law 909 = .ok (.iconst 1, 1) := by decide +kernel
theorem dL_law_910 : decode cL_law 910 = .ok (.iadd, 1) := by decide +kernel
theorem dL_law_911 : decode cL_law 911 = .ok (.iaload, 1) := by decide +kernel
theorem dL_law_912 : decode cL_law 912 = .ok (.invokevirtual 120, 3) := by decide +kernel
theorem dL_law_915 : decode cL_law 915 = .ok (.if_icmp .eq 5, 3) := by decide +kernel
theorem dL_law_918 : decode cL_law 918 = .ok (.iconst 0, 1) := by decide +kernel
theorem dL_law_919 : decode cL_law 919 = .ok (.ireturn, 1) := by decide +kernel
theorem dL_law_920 : decode cL_law 920 = .ok (.iinc 3 5, 3) := by decide +kernel
theorem dL_law_923 : decode cL_law 923 = .ok (.goto (-905), 3) := by decide +kernel
theorem dL_law_926 : decode cL_law 926 = .ok (.iconst 1, 1) := by decide +kernel
theorem dL_law_927 : decode cL_law 927 = .ok (.ireturn, 1) := by decide +kernel
