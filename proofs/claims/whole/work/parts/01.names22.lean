theorem dX9_isVoucher_11 : decode cX9_isVoucher 11 = .ok (.if_icmp .ge 7, 3) := by decide +kernel
theorem dX9_isVoucher_14 : decode cX9_isVoucher 14 = .ok (.iconst 1, 1) := by decide +kernel
theorem dX9_isVoucher_15 : decode cX9_isVoucher 15 = .ok (.goto 4, 3) := by decide +kernel
theorem dX9_isVoucher_18 : decode cX9_isVoucher 18 = .ok (.iconst 0, 1) := by decide +kernel
theorem dX9_isVoucher_19 : decode cX9_isVoucher 19 = .ok (.ireturn, 1) := by decide +kernel
theorem dX9_of_0 : decode cX9_of 0 = .ok (.aload_n 0, 1) := by decide +kernel
theorem dX9_of_1 : decode cX9_of 1 = .ok (.getfield 7, 3) := by decide +kernel
theorem dX9_of_4 : decode cX9_of 4 = .ok (.bipush 9, 2) := by decide +kernel
theorem dX9_of_6 : decode cX9_of 6 = .ok (.bipush 11, 2) := by decide +kernel
theorem dX9_of_8 : decode cX9_of 8 = .ok (.iload_n 1, 1) := by decide +kernel
theorem dX9_of_9 : decode cX9_of 9 = .ok (.imul, 1) := by decide +kernel
theorem dX9_of_10 : decode cX9_of 10 = .ok (.iadd, 1) := by decide +kernel
theorem dX9_of_11 : decode cX9_of 11 = .ok (.iload_n 2, 1) := by decide +kernel
theorem dX9_of_12 : decode cX9_of 12 = .ok (.iadd, 1) := by decide +kernel
theorem dX9_of_13 : decode cX9_of 13 = .ok (.iaload, 1) := by decide +kernel
theorem dX9_of_14 : decode cX9_of 14 = .ok (.ireturn, 1) := by decide +kernel
theorem dX9_its_0 : decode cX9_its 0 = .ok (.aload_n 0, 1) := by decide +kernel
theorem dX9_its_1 : decode cX9_its 1 = .ok (.getfield 7, 3) := by decide +kernel
theorem dX9_its_4 : decode cX9_its 4 = .ok (.bipush 53, 2) := by decide +kernel
theorem dX9_its_6 : decode cX9_its 6 = .ok (.bipush 9, 2) := by decide +kernel
theorem dX9_its_8 : decode cX9_its 8 = .ok (.iload_n 1, 1) := by decide +kernel
theorem dX9_its_9 : decode cX9_its 9 = .ok (.imul, 1) := by decide +kernel
theorem dX9_its_10 : decode cX9_its 10 = .ok (.iadd, 1) := by decide +kernel
theorem dX9_its_11 : decode cX9_its 11 = .ok (.iload_n 2, 1) := by decide +kernel
theorem dX9_its_12 : decode cX9_its 12 = .ok (.iadd, 1) := by decide +kernel
theorem dX9_its_13 : decode cX9_its 13 = .ok (.iaload, 1) := by decide +kernel
theorem dX9_its_14 : decode cX9_its 14 = .ok (.ireturn, 1) := by decide +kernel
theorem dX9_lays_0 : decode cX9_lays 0 = .ok (.aload_n 0, 1) := by decide +kernel
theorem dX9_lays_1 : decode cX9_lays 1 = .ok (.getfield 7, 3) := by decide +kernel
theorem dX9_lays_4 : decode cX9_lays 4 = .ok (.bipush 53, 2) := by decide +kernel
theorem dX9_lays_6 : decode cX9_lays 6 = .ok (.bipush 9, 2) := by decide +kernel
theorem dX9_lays_8 : decode cX9_lays 8 = .ok (.iload_n 1, 1) := by decide +kernel
theorem dX9_lays_9 : decode cX9_lays 9 = .ok (.imul, 1) := by decide +kernel
theorem dX9_lays_10 : decode cX9_lays 10 = .ok (.iadd, 1) := by decide +kernel
theorem dX9_lays_11 : decode cX9_lays 11 = .ok (.iload_n 2, 1) := by decide +kernel
theorem dX9_lays_12 : decode cX9_lays 12 = .ok (.iadd, 1) := by decide +kernel
theorem dX9_lays_13 : decode cX9_lays 13 = .ok (.iload_n 3, 1) := by decide +kernel
theorem dX9_lays_14 : decode cX9_lays 14 = .ok (.iastore, 1) := by decide +kernel
theorem dX9_lays_15 : decode cX9_lays 15 = .ok (.return_, 1) := by decide +kernel
theorem dX9_adds_0 : decode cX9_adds 0 = .ok (.aload_n 0, 1) := by decide +kernel
theorem dX9_adds_1 : decode cX9_adds 1 = .ok (.getfield 7, 3) := by decide +kernel
theorem dX9_adds_4 : decode cX9_adds 4 = .ok (.bipush 53, 2) := by decide +kernel
theorem dX9_adds_6 : decode cX9_adds 6 = .ok (.bipush 9, 2) := by decide +kernel
theorem dX9_adds_8 : decode cX9_adds 8 = .ok (.iload_n 1, 1) := by decide +kernel
theorem dX9_adds_9 : decode cX9_adds 9 = .ok (.imul, 1) := by decide +kernel
theorem dX9_adds_10 : decode cX9_adds 10 = .ok (.iadd, 1) := by decide +kernel
theorem dX9_adds_11 : decode cX9_adds 11 = .ok (.iload_n 2, 1) := by decide +kernel
theorem dX9_adds_12 : decode cX9_adds 12 = .ok (.iadd, 1) := by decide +kernel
theorem dX9_adds_13 : decode cX9_adds 13 = .ok (.dup2, 1) := by decide +kernel
theorem dX9_adds_14 : decode cX9_adds 14 = .ok (.iaload, 1) := by decide +kernel
theorem dX9_adds_15 : decode cX9_adds 15 = .ok (.iload_n 3, 1) := by decide +kernel
theorem dX9_adds_16 : decode cX9_adds 16 = .ok (.iadd, 1) := by decide +kernel
theorem dX9_adds_17 : decode cX9_adds 17 = .ok (.iastore, 1) := by decide +kernel
theorem dX9_adds_18 : decode cX9_adds 18 = .ok (.return_, 1) := by decide +kernel
theorem dX9_doRoom_0 : decode cX9_doRoom 0 = .ok (.iload_n 1, 1) := by decide +kernel
theorem dX9_doRoom_1 : decode cX9_doRoom 1 = .ok (.bipush 20, 2) := by decide +kernel
theorem dX9_doRoom_3 : decode cX9_doRoom 3 = .ok (.bipush 120, 2) := by decide +kernel
theorem dX9_doRoom_5 : decode cX9_doRoom 5 = .ok (.invokestatic 29, 3) := by decide +kernel
theorem dX9_doRoom_8 : decode cX9_doRoom 8 = .ok (.ifCond .eq 35, 3) := by decide +kernel
theorem dX9_doRoom_11 : decode cX9_doRoom 11 = .ok (.iload_n 2, 1) := by decide +kernel
theorem dX9_doRoom_12 : decode cX9_doRoom 12 = .ok (.iconst 0, 1) := by decide +kernel
theorem dX9_doRoom_13 : decode cX9_doRoom 13 = .ok (.bipush 60, 2) := by decide +kernel
theorem dX9_doRoom_15 : decode cX9_doRoom 15 = .ok (.invokestatic 29, 3) := by decide +kernel
theorem dX9_doRoom_18 : decode cX9_doRoom 18 = .ok (.ifCond .eq 25, 3) := by decide +kernel
theorem dX9_doRoom_21 : decode cX9_doRoom 21 = .ok (.iload_n 3, 1) := by decide +kernel
theorem dX9_doRoom_22 : decode cX9_doRoom 22 = .ok (.iconst 1, 1) := by decide +kernel
theorem dX9_doRoom_23 : decode cX9_doRoom 23 = .ok (.sipush 200, 3) := by decide +kernel
theorem dX9_doRoom_26 : decode cX9_doRoom 26 = .ok (.invokestatic 29, 3) := by decide +kernel
theorem dX9_doRoom_29 : decode cX9_doRoom 29 = .ok (.ifCond .eq 14, 3) := by decide +kernel
theorem dX9_doRoom_32 : decode cX9_doRoom 32 = .ok (.iload 4, 2) := by decide +kernel
theorem dX9_doRoom_34 : decode cX9_doRoom 34 = .ok (.iconst 2, 1) := by decide +kernel
theorem dX9_doRoom_35 : decode cX9_doRoom 35 = .ok (.bipush 8, 2) := by decide +kernel
theorem dX9_doRoom_37 : decode cX9_doRoom 37 = .ok (.invokestatic 29, 3) := by decide +kernel
theorem dX9_doRoom_40 : decode cX9_doRoom 40 = .ok (.ifCond .ne 5, 3) := by decide +kernel
theorem dX9_doRoom_43 : decode cX9_doRoom 43 = .ok (.iconst (-1), 1) := by decide +kernel
theorem dX9_doRoom_44 : decode cX9_doRoom 44 = .ok (.ireturn, 1) := by decide +kernel
theorem dX9_doRoom_45 : decode cX9_doRoom 45 = .ok (.aload_n 0, 1) := by decide +kernel
theorem dX9_doRoom_46 : decode cX9_doRoom 46 = .ok (.getfield 7, 3) := by decide +kernel
theorem dX9_doRoom_49 : decode cX9_doRoom 49 = .ok (.iconst 0, 1) := by decide +kernel
theorem dX9_doRoom_50 : decode cX9_doRoom 50 = .ok (.iaload, 1) := by decide +kernel
theorem dX9_doRoom_51 : decode cX9_doRoom 51 = .ok (.iconst 4, 1) := by decide +kernel
theorem dX9_doRoom_52 : decode cX9_doRoom 52 = .ok (.if_icmp .ne 6, 3) := by decide +kernel
theorem dX9_doRoom_55 : decode cX9_doRoom 55 = .ok (.bipush (-3), 2) := by decide +kernel
theorem dX9_doRoom_57 : decode cX9_doRoom 57 = .ok (.ireturn, 1) := by decide +kernel
theorem dX9_doRoom_58 : decode cX9_doRoom 58 = .ok (.bipush 9, 2) := by decide +kernel
theorem dX9_doRoom_60 : decode cX9_doRoom 60 = .ok (.bipush 11, 2) := by decide +kernel
theorem dX9_doRoom_62 : decode cX9_doRoom 62 = .ok (.aload_n 0, 1) := by decide +kernel
theorem dX9_doRoom_63 : decode cX9_doRoom 63 = .ok (.getfield 7, 3) := by decide +kernel
theorem dX9_doRoom_66 : decode cX9_doRoom 66 = .ok (.iconst 0, 1) := by decide +kernel
theorem dX9_doRoom_67 : decode cX9_doRoom 67 = .ok (.iaload, 1) := by decide +kernel
theorem dX9_doRoom_68 : decode cX9_doRoom 68 = .ok (.imul, 1) := by decide +kernel
theorem dX9_doRoom_69 : decode cX9_doRoom 69 = .ok (.iadd, 1) := by decide +kernel
theorem dX9_doRoom_70 : decode cX9_doRoom 70 = .ok (.istore 5, 2) := by decide +kernel
theorem dX9_doRoom_72 : decode cX9_doRoom 72 = .ok (.iconst 0, 1) := by decide +kernel
theorem dX9_doRoom_73 : decode cX9_doRoom 73 = .ok (.istore 6, 2) := by decide +kernel
theorem dX9_doRoom_75 : decode cX9_doRoom 75 = .ok (.iload 6, 2) := by decide +kernel
theorem dX9_doRoom_77 : decode cX9_doRoom 77 = .ok (.bipush 11, 2) := by decide +kernel
theorem dX9_doRoom_79 : decode cX9_doRoom 79 = .ok (.if_icmp .ge 20, 3) := by decide +kernel
theorem dX9_doRoom_82 : decode cX9_doRoom 82 = .ok (.aload_n 0, 1) := by decide +kernel
theorem dX9_doRoom_83 : decode cX9_doRoom 83 = .ok (.getfield 7, 3) := by decide +kernel
theorem dX9_doRoom_86 : decode cX9_doRoom 86 = .ok (.iload 5, 2) := by decide +kernel
theorem dX9_doRoom_88 : decode cX9_doRoom 88 = .ok (.iload 6, 2) := by decide +kernel
theorem dX9_doRoom_90 : decode cX9_doRoom 90 = .ok (.iadd, 1) := by decide +kernel
theorem dX9_doRoom_91 : decode cX9_doRoom 91 = .ok (.iconst 0, 1) := by decide +kernel
theorem dX9_doRoom_92 : decode cX9_doRoom 92 = .ok (.iastore, 1) := by decide +kernel
theorem dX9_doRoom_93 : decode cX9_doRoom 93 = .ok (.iinc 6 1, 3) := by decide +kernel
theorem dX9_doRoom_96 : decode cX9_doRoom 96 = .ok (.goto (-21), 3) := by decide +kernel
theorem dX9_doRoom_99 : decode cX9_doRoom 99 = .ok (.aload_n 0, 1) := by decide +kernel
theorem dX9_doRoom_100 : decode cX9_doRoom 100 = .ok (.getfield 7, 3) := by decide +kernel
theorem dX9_doRoom_103 : decode cX9_doRoom 103 = .ok (.iload 5, 2) := by decide +kernel
theorem dX9_doRoom_105 : decode cX9_doRoom 105 = .ok (.iconst 0, 1) := by decide +kernel
theorem dX9_doRoom_106 : decode cX9_doRoom 106 = .ok (.iadd, 1) := by decide +kernel
theorem dX9_doRoom_107 : decode cX9_doRoom 107 = .ok (.iload_n 1, 1) := by decide +kernel
theorem dX9_doRoom_108 : decode cX9_doRoom 108 = .ok (.iastore, 1) := by decide +kernel
theorem dX9_doRoom_109 : decode cX9_doRoom 109 = .ok (.aload_n 0, 1) := by decide +kernel
theorem dX9_doRoom_110 : decode cX9_doRoom 110 = .ok (.getfield 7, 3) := by decide +kernel
theorem dX9_doRoom_113 : decode cX9_doRoom 113 = .ok (.iload 5, 2) := by decide +kernel
theorem dX9_doRoom_115 : decode cX9_doRoom 115 = .ok (.iconst 1, 1) := by decide +kernel
theorem dX9_doRoom_116 : decode cX9_doRoom 116 = .ok (.iadd, 1) := by decide +kernel
theorem dX9_doRoom_117 : decode cX9_doRoom 117 = .ok (.iload_n 2, 1) := by decide +kernel
theorem dX9_doRoom_118 : decode cX9_doRoom 118 = .ok (.iastore, 1) := by decide +kernel
theorem dX9_doRoom_119 : decode cX9_doRoom 119 = .ok (.aload_n 0, 1) := by decide +kernel
theorem dX9_doRoom_120 : decode cX9_doRoom 120 = .ok (.getfield 7, 3) := by decide +kernel
theorem dX9_doRoom_123 : decode cX9_doRoom 123 = .ok (.iload 5, 2) := by decide +kernel
theorem dX9_doRoom_125 : decode cX9_doRoom 125 = .ok (.iconst 2, 1) := by decide +kernel
theorem dX9_doRoom_126 : decode cX9_doRoom 126 = .ok (.iadd, 1) := by decide +kernel
theorem dX9_doRoom_127 : decode cX9_doRoom 127 = .ok (.iload_n 3, 1) := by decide +kernel
theorem dX9_doRoom_128 : decode cX9_doRoom 128 = .ok (.iastore, 1) := by decide +kernel
theorem dX9_doRoom_129 : decode cX9_doRoom 129 = .ok (.aload_n 0, 1) := by decide +kernel
theorem dX9_doRoom_130 : decode cX9_doRoom 130 = .ok (.getfield 7, 3) := by decide +kernel
theorem dX9_doRoom_133 : decode cX9_doRoom 133 = .ok (.iload 5, 2) := by decide +kernel
theorem dX9_doRoom_135 : decode cX9_doRoom 135 = .ok (.iconst 3, 1) := by decide +kernel
theorem dX9_doRoom_136 : decode cX9_doRoom 136 = .ok (.iadd, 1) := by decide +kernel
theorem dX9_doRoom_137 : decode cX9_doRoom 137 = .ok (.iload 4, 2) := by decide +kernel
theorem dX9_doRoom_139 : decode cX9_doRoom 139 = .ok (.iastore, 1) := by decide +kernel
theorem dX9_doRoom_140 : decode cX9_doRoom 140 = .ok (.aload_n 0, 1) := by decide +kernel
theorem dX9_doRoom_141 : decode cX9_doRoom 141 = .ok (.getfield 7, 3) := by decide +kernel
theorem dX9_doRoom_144 : decode cX9_doRoom 144 = .ok (.iconst 0, 1) := by decide +kernel
theorem dX9_doRoom_145 : decode cX9_doRoom 145 = .ok (.dup2, 1) := by decide +kernel
theorem dX9_doRoom_146 : decode cX9_doRoom 146 = .ok (.iaload, 1) := by decide +kernel
theorem dX9_doRoom_147 : decode cX9_doRoom 147 = .ok (.iconst 1, 1) := by decide +kernel
theorem dX9_doRoom_148 : decode cX9_doRoom 148 = .ok (.iadd, 1) := by decide +kernel
theorem dX9_doRoom_149 : decode cX9_doRoom 149 = .ok (.iastore, 1) := by decide +kernel
theorem dX9_doRoom_150 : decode cX9_doRoom 150 = .ok (.aload_n 0, 1) := by decide +kernel
theorem dX9_doRoom_151 : decode cX9_doRoom 151 = .ok (.getfield 7, 3) := by decide +kernel
theorem dX9_doRoom_154 : decode cX9_doRoom 154 = .ok (.iconst 0, 1) := by decide +kernel
theorem dX9_doRoom_155 : decode cX9_doRoom 155 = .ok (.iaload, 1) := by decide +kernel
theorem dX9_doRoom_156 : decode cX9_doRoom 156 = .ok (.iconst 1, 1) := by decide +kernel
theorem dX9_doRoom_157 : decode cX9_doRoom 157 = .ok (.isub, 1) := by decide +kernel
theorem dX9_doRoom_158 : decode cX9_doRoom 158 = .ok (.ireturn, 1) := by decide +kernel
theorem dX9_addRoom_0 : decode cX9_addRoom 0 = .ok (.aload_n 0, 1) := by decide +kernel
theorem dX9_addRoom_1 : decode cX9_addRoom 1 = .ok (.invokevirtual 33, 3) := by decide +kernel
theorem dX9_addRoom_4 : decode cX9_addRoom 4 = .ok (.aload_n 0, 1) := by decide +kernel
theorem dX9_addRoom_5 : decode cX9_addRoom 5 = .ok (.aload_n 0, 1) := by decide +kernel
theorem dX9_addRoom_6 : decode cX9_addRoom 6 = .ok (.iload_n 1, 1) := by decide +kernel
theorem dX9_addRoom_7 : decode cX9_addRoom 7 = .ok (.iload_n 2, 1) := by decide +kernel
theorem dX9_addRoom_8 : decode cX9_addRoom 8 = .ok (.iload_n 3, 1) := by decide +kernel
theorem dX9_addRoom_9 : decode cX9_addRoom 9 = .ok (.iload 4, 2) := by decide +kernel
theorem dX9_addRoom_11 : decode cX9_addRoom 11 = .ok (.invokevirtual 36, 3) := by decide +kernel
theorem dX9_addRoom_14 : decode cX9_addRoom 14 = .ok (.invokevirtual 40, 3) := by decide +kernel
theorem dX9_addRoom_17 : decode cX9_addRoom 17 = .ok (.ireturn, 1) := by decide +kernel
theorem dX9_setPrice_0 : decode cX9_setPrice 0 = .ok (.aload_n 0, 1) := by decide +kernel
theorem dX9_setPrice_1 : decode cX9_setPrice 1 = .ok (.iload_n 1, 1) := by decide +kernel
theorem dX9_setPrice_2 : decode cX9_setPrice 2 = .ok (.invokevirtual 44, 3) := by decide +kernel
theorem dX9_setPrice_5 : decode cX9_setPrice 5 = .ok (.ifCond .eq 14, 3) := by decide +kernel
theorem dX9_setPrice_8 : decode cX9_setPrice 8 = .ok (.iload_n 2, 1) := by decide +kernel
theorem dX9_setPrice_9 : decode cX9_setPrice 9 = .ok (.iconst 1, 1) := by decide +kernel
theorem dX9_setPrice_10 : decode cX9_setPrice 10 = .ok (.sipush 200, 3) := by decide +kernel
theorem dX9_setPrice_13 : decode cX9_setPrice 13 = .ok (.invokestatic 29, 3) := by decide +kernel
theorem dX9_setPrice_16 : decode cX9_setPrice 16 = .ok (.ifCond .ne 5, 3) := by decide +kernel
theorem dX9_setPrice_19 : decode cX9_setPrice 19 = .ok (.iconst (-1), 1) := by decide +kernel
theorem dX9_setPrice_20 : decode cX9_setPrice 20 = .ok (.ireturn, 1) := by decide +kernel
theorem dX9_setPrice_21 : decode cX9_setPrice 21 = .ok (.aload_n 0, 1) := by decide +kernel
theorem dX9_setPrice_22 : decode cX9_setPrice 22 = .ok (.invokevirtual 33, 3) := by decide +kernel
theorem dX9_setPrice_25 : decode cX9_setPrice 25 = .ok (.aload_n 0, 1) := by decide +kernel
theorem dX9_setPrice_26 : decode cX9_setPrice 26 = .ok (.iload_n 1, 1) := by decide +kernel
theorem dX9_setPrice_27 : decode cX9_setPrice 27 = .ok (.iconst 2, 1) := by decide +kernel
theorem dX9_setPrice_28 : decode cX9_setPrice 28 = .ok (.invokevirtual 48, 3) := by decide +kernel
theorem dX9_setPrice_31 : decode cX9_setPrice 31 = .ok (.istore_n 3, 1) := by decide +kernel
theorem dX9_setPrice_32 : decode cX9_setPrice 32 = .ok (.aload_n 0, 1) := by decide +kernel
theorem dX9_setPrice_33 : decode cX9_setPrice 33 = .ok (.getfield 7, 3) := by decide +kernel
theorem dX9_setPrice_36 : decode cX9_setPrice 36 = .ok (.bipush 9, 2) := by decide +kernel
theorem dX9_setPrice_38 : decode cX9_setPrice 38 = .ok (.bipush 11, 2) := by decide +kernel
theorem dX9_setPrice_40 : decode cX9_setPrice 40 = .ok (.iload_n 1, 1) := by decide +kernel
theorem dX9_setPrice_41 : decode cX9_setPrice 41 = .ok (.imul, 1) := by decide +kernel
theorem dX9_setPrice_42 : decode cX9_setPrice 42 = .ok (.iadd, 1) := by decide +kernel
theorem dX9_setPrice_43 : decode cX9_setPrice 43 = .ok (.iconst 2, 1) := by decide +kernel
theorem dX9_setPrice_44 : decode cX9_setPrice 44 = .ok (.iadd, 1) := by decide +kernel
theorem dX9_setPrice_45 : decode cX9_setPrice 45 = .ok (.iload_n 2, 1) := by decide +kernel
theorem dX9_setPrice_46 : decode cX9_setPrice 46 = .ok (.iastore, 1) := by decide +kernel
theorem dX9_setPrice_47 : decode cX9_setPrice 47 = .ok (.aload_n 0, 1) := by decide +kernel
theorem dX9_setPrice_48 : decode cX9_setPrice 48 = .ok (.iload_n 3, 1) := by decide +kernel
theorem dX9_setPrice_49 : decode cX9_setPrice 49 = .ok (.invokevirtual 40, 3) := by decide +kernel
theorem dX9_setPrice_52 : decode cX9_setPrice 52 = .ok (.ireturn, 1) := by decide +kernel
theorem dX9_highest_0 : decode cX9_highest 0 = .ok (.iload_n 0, 1) := by decide +kernel
theorem dX9_highest_1 : decode cX9_highest 1 = .ok (.ifCond .ne 8, 3) := by decide +kernel
theorem dX9_highest_4 : decode cX9_highest 4 = .ok (.bipush 10, 2) := by decide +kernel
theorem dX9_highest_6 : decode cX9_highest 6 = .ok (.goto 35, 3) := by decide +kernel
theorem dX9_highest_9 : decode cX9_highest 9 = .ok (.iload_n 0, 1) := by decide +kernel
theorem dX9_highest_10 : decode cX9_highest 10 = .ok (.iconst 1, 1) := by decide +kernel
theorem dX9_highest_11 : decode cX9_highest 11 = .ok (.if_icmp .ne 8, 3) := by decide +kernel
theorem dX9_highest_14 : decode cX9_highest 14 = .ok (.bipush 30, 2) := by decide +kernel
theorem dX9_highest_16 : decode cX9_highest 16 = .ok (.goto 25, 3) := by decide +kernel
theorem dX9_highest_19 : decode cX9_highest 19 = .ok (.iload_n 0, 1) := by decide +kernel
theorem dX9_highest_20 : decode cX9_highest 20 = .ok (.iconst 2, 1) := by decide +kernel
theorem dX9_highest_21 : decode cX9_highest 21 = .ok (.if_icmp .ne 8, 3) := by decide +kernel
theorem dX9_highest_24 : decode cX9_highest 24 = .ok (.bipush 20, 2) := by decide +kernel
theorem dX9_highest_26 : decode cX9_highest 26 = .ok (.goto 15, 3) := by decide +kernel
theorem dX9_highest_29 : decode cX9_highest 29 = .ok (.iload_n 0, 1) := by decide +kernel
theorem dX9_highest_30 : decode cX9_highest 30 = .ok (.iconst 3, 1) := by decide +kernel
theorem dX9_highest_31 : decode cX9_highest 31 = .ok (.if_icmp .ne 8, 3) := by decide +kernel
theorem dX9_highest_34 : decode cX9_highest 34 = .ok (.bipush 60, 2) := by decide +kernel
theorem dX9_highest_36 : decode cX9_highest 36 = .ok (.goto 5, 3) := by decide +kernel
theorem dX9_highest_39 : decode cX9_highest 39 = .ok (.bipush 50, 2) := by decide +kernel
theorem dX9_highest_41 : decode cX9_highest 41 = .ok (.ireturn, 1) := by decide +kernel
theorem dX9_set_0 : decode cX9_set 0 = .ok (.iload_n 1, 1) := by decide +kernel
theorem dX9_set_1 : decode cX9_set 1 = .ok (.iconst 0, 1) := by decide +kernel
theorem dX9_set_2 : decode cX9_set 2 = .ok (.iconst 4, 1) := by decide +kernel
theorem dX9_set_3 : decode cX9_set 3 = .ok (.invokestatic 29, 3) := by decide +kernel
theorem dX9_set_6 : decode cX9_set 6 = .ok (.ifCond .eq 15, 3) := by decide +kernel
theorem dX9_set_9 : decode cX9_set 9 = .ok (.iload_n 2, 1) := by decide +kernel
theorem dX9_set_10 : decode cX9_set 10 = .ok (.iconst 0, 1) := by decide +kernel
theorem dX9_set_11 : decode cX9_set 11 = .ok (.iload_n 1, 1) := by decide +kernel
theorem dX9_set_12 : decode cX9_set 12 = .ok (.invokestatic 52, 3) := by decide +kernel
theorem dX9_set_15 : decode cX9_set 15 = .ok (.invokestatic 29, 3) := by decide +kernel
theorem dX9_set_18 : decode cX9_set 18 = .ok (.ifCond .ne 5, 3) := by decide +kernel
theorem dX9_set_21 : decode cX9_set 21 = .ok (.iconst (-1), 1) := by decide +kernel
theorem dX9_set_22 : decode cX9_set 22 = .ok (.ireturn, 1) := by decide +kernel
theorem dX9_set_23 : decode cX9_set 23 = .ok (.aload_n 0, 1) := by decide +kernel
theorem dX9_set_24 : decode cX9_set 24 = .ok (.invokevirtual 33, 3) := by decide +kernel
theorem dX9_set_27 : decode cX9_set 27 = .ok (.aload_n 0, 1) := by decide +kernel
theorem dX9_set_28 : decode cX9_set 28 = .ok (.getfield 7, 3) := by decide +kernel
theorem dX9_set_31 : decode cX9_set 31 = .ok (.iconst 4, 1) := by decide +kernel
theorem dX9_set_32 : decode cX9_set 32 = .ok (.iload_n 1, 1) := by decide +kernel
theorem dX9_set_33 : decode cX9_set 33 = .ok (.iadd, 1) := by decide +kernel
theorem dX9_set_34 : decode cX9_set 34 = .ok (.iaload, 1) := by decide +kernel
theorem dX9_set_35 : decode cX9_set 35 = .ok (.istore_n 3, 1) := by decide +kernel
theorem dX9_set_36 : decode cX9_set 36 = .ok (.aload_n 0, 1) := by decide +kernel
theorem dX9_set_37 : decode cX9_set 37 = .ok (.getfield 7, 3) := by decide +kernel
theorem dX9_set_40 : decode cX9_set 40 = .ok (.iconst 4, 1) := by decide +kernel
theorem dX9_set_41 : decode cX9_set 41 = .ok (.iload_n 1, 1) := by decide +kernel
theorem dX9_set_42 : decode cX9_set 42 = .ok (.iadd, 1) := by decide +kernel
theorem dX9_set_43 : decode cX9_set 43 = .ok (.iload_n 2, 1) := by decide +kernel
theorem dX9_set_44 : decode cX9_set 44 = .ok (.iastore, 1) := by decide +kernel
theorem dX9_set_45 : decode cX9_set 45 = .ok (.aload_n 0, 1) := by decide +kernel
theorem dX9_set_46 : decode cX9_set 46 = .ok (.iload_n 3, 1) := by decide +kernel
theorem dX9_set_47 : decode cX9_set 47 = .ok (.invokevirtual 40, 3) := by decide +kernel
theorem dX9_set_50 : decode cX9_set 50 = .ok (.ireturn, 1) := by decide +kernel
theorem dX9_doGift_0 : decode cX9_doGift 0 = .ok (.iload_n 1, 1) := by decide +kernel
theorem dX9_doGift_1 : decode cX9_doGift 1 = .ok (.iconst 1, 1) := by decide +kernel
theorem dX9_doGift_2 : decode cX9_doGift 2 = .ok (.sipush 500, 3) := by decide +kernel
theorem dX9_doGift_5 : decode cX9_doGift 5 = .ok (.invokestatic 29, 3) := by decide +kernel
theorem dX9_doGift_8 : decode cX9_doGift 8 = .ok (.ifCond .ne 5, 3) := by decide +kernel
theorem dX9_doGift_11 : decode cX9_doGift 11 = .ok (.iconst (-1), 1) := by decide +kernel
theorem dX9_doGift_12 : decode cX9_doGift 12 = .ok (.ireturn, 1) := by decide +kernel
theorem dX9_doGift_13 : decode cX9_doGift 13 = .ok (.aload_n 0, 1) := by decide +kernel
theorem dX9_doGift_14 : decode cX9_doGift 14 = .ok (.getfield 7, 3) := by decide +kernel
theorem dX9_doGift_17 : decode cX9_doGift 17 = .ok (.iconst 2, 1) := by decide +kernel
theorem dX9_doGift_18 : decode cX9_doGift 18 = .ok (.iaload, 1) := by decide +kernel
theorem dX9_doGift_19 : decode cX9_doGift 19 = .ok (.bipush 8, 2) := by decide +kernel
theorem dX9_doGift_21 : decode cX9_doGift 21 = .ok (.if_icmp .ne 6, 3) := by decide +kernel
theorem dX9_doGift_24 : decode cX9_doGift 24 = .ok (.bipush (-3), 2) := by decide +kernel
theorem dX9_doGift_26 : decode cX9_doGift 26 = .ok (.ireturn, 1) := by decide +kernel
theorem dX9_doGift_27 : decode cX9_doGift 27 = .ok (.aload_n 0, 1) := by decide +kernel
theorem dX9_doGift_28 : decode cX9_doGift 28 = .ok (.getfield 7, 3) := by decide +kernel
theorem dX9_doGift_31 : decode cX9_doGift 31 = .ok (.sipush 501, 3) := by decide +kernel
theorem dX9_doGift_34 : decode cX9_doGift 34 = .ok (.iconst 2, 1) := by decide +kernel
theorem dX9_doGift_35 : decode cX9_doGift 35 = .ok (.aload_n 0, 1) := by decide +kernel
theorem dX9_doGift_36 : decode cX9_doGift 36 = .ok (.getfield 7, 3) := by decide +kernel
theorem dX9_doGift_39 : decode cX9_doGift 39 = .ok (.iconst 2, 1) := by decide +kernel
theorem dX9_doGift_40 : decode cX9_doGift 40 = .ok (.iaload, 1) := by decide +kernel
theorem dX9_doGift_41 : decode cX9_doGift 41 = .ok (.imul, 1) := by decide +kernel
theorem dX9_doGift_42 : decode cX9_doGift 42 = .ok (.iadd, 1) := by decide +kernel
theorem dX9_doGift_43 : decode cX9_doGift 43 = .ok (.iload_n 1, 1) := by decide +kernel
theorem dX9_doGift_44 : decode cX9_doGift 44 = .ok (.iastore, 1) := by decide +kernel
theorem dX9_doGift_45 : decode cX9_doGift 45 = .ok (.aload_n 0, 1) := by decide +kernel
theorem dX9_doGift_46 : decode cX9_doGift 46 = .ok (.getfield 7, 3) := by decide +kernel
theorem dX9_doGift_49 : decode cX9_doGift 49 = .ok (.sipush 501, 3) := by decide +kernel
theorem dX9_doGift_52 : decode cX9_doGift 52 = .ok (.iconst 2, 1) := by decide +kernel
theorem dX9_doGift_53 : decode cX9_doGift 53 = .ok (.aload_n 0, 1) := by decide +kernel
theorem dX9_doGift_54 : decode cX9_doGift 54 = .ok (.getfield 7, 3) := by decide +kernel
theorem dX9_doGift_57 : decode cX9_doGift 57 = .ok (.iconst 2, 1) := by decide +kernel
theorem dX9_doGift_58 : decode cX9_doGift 58 = .ok (.iaload, 1) := by decide +kernel
theorem dX9_doGift_59 : decode cX9_doGift 59 = .ok (.imul, 1) := by decide +kernel
theorem dX9_doGift_60 : decode cX9_doGift 60 = .ok (.iadd, 1) := by decide +kernel
theorem dX9_doGift_61 : decode cX9_doGift 61 = .ok (.iconst 1, 1) := by decide +kernel
theorem dX9_doGift_62 : decode cX9_doGift 62 = .ok (.iadd, 1) := by decide +kernel
theorem dX9_doGift_63 : decode cX9_doGift 63 = .ok (.iload_n 1, 1) := by decide +kernel
theorem dX9_doGift_64 : decode cX9_doGift 64 = .ok (.iastore, 1) := by decide +kernel
theorem dX9_doGift_65 : decode cX9_doGift 65 = .ok (.aload_n 0, 1) := by decide +kernel
theorem dX9_doGift_66 : decode cX9_doGift 66 = .ok (.getfield 7, 3) := by decide +kernel
theorem dX9_doGift_69 : decode cX9_doGift 69 = .ok (.iconst 3, 1) := by decide +kernel
theorem dX9_doGift_70 : decode cX9_doGift 70 = .ok (.dup2, 1) := by decide +kernel
theorem dX9_doGift_71 : decode cX9_doGift 71 = .ok (.iaload, 1) := by decide +kernel
theorem dX9_doGift_72 : decode cX9_doGift 72 = .ok (.iload_n 1, 1) := by decide +kernel
theorem dX9_doGift_73 : decode cX9_doGift 73 = .ok (.iadd, 1) := by decide +kernel
theorem dX9_doGift_74 : decode cX9_doGift 74 = .ok (.iastore, 1) := by decide +kernel
theorem dX9_doGift_75 : decode cX9_doGift 75 = .ok (.aload_n 0, 1) := by decide +kernel
theorem dX9_doGift_76 : decode cX9_doGift 76 = .ok (.getfield 7, 3) := by decide +kernel
theorem dX9_doGift_79 : decode cX9_doGift 79 = .ok (.iconst 2, 1) := by decide +kernel
theorem dX9_doGift_80 : decode cX9_doGift 80 = .ok (.dup2, 1) := by decide +kernel
theorem dX9_doGift_81 : decode cX9_doGift 81 = .ok (.iaload, 1) := by decide +kernel
theorem dX9_doGift_82 : decode cX9_doGift 82 = .ok (.iconst 1, 1) := by decide +kernel
theorem dX9_doGift_83 : decode cX9_doGift 83 = .ok (.iadd, 1) := by decide +kernel
theorem dX9_doGift_84 : decode cX9_doGift 84 = .ok (.iastore, 1) := by decide +kernel
theorem dX9_doGift_85 : decode cX9_doGift 85 = .ok (.aload_n 0, 1) := by decide +kernel
theorem dX9_doGift_86 : decode cX9_doGift 86 = .ok (.getfield 7, 3) := by decide +kernel
theorem dX9_doGift_89 : decode cX9_doGift 89 = .ok (.iconst 2, 1) := by decide +kernel
theorem dX9_doGift_90 : decode cX9_doGift 90 = .ok (.iaload, 1) := by decide +kernel
theorem dX9_doGift_91 : decode cX9_doGift 91 = .ok (.iconst 1, 1) := by decide +kernel
theorem dX9_doGift_92 : decode cX9_doGift 92 = .ok (.isub, 1) := by decide +kernel
theorem dX9_doGift_93 : decode cX9_doGift 93 = .ok (.ireturn, 1) := by decide +kernel
theorem dX9_sellVoucher_0 : decode cX9_sellVoucher 0 = .ok (.aload_n 0, 1) := by decide +kernel
theorem dX9_sellVoucher_1 : decode cX9_sellVoucher 1 = .ok (.invokevirtual 33, 3) := by decide +kernel
theorem dX9_sellVoucher_4 : decode cX9_sellVoucher 4 = .ok (.aload_n 0, 1) := by decide +kernel
theorem dX9_sellVoucher_5 : decode cX9_sellVoucher 5 = .ok (.aload_n 0, 1) := by decide +kernel
theorem dX9_sellVoucher_6 : decode cX9_sellVoucher 6 = .ok (.iload_n 1, 1) := by decide +kernel
theorem dX9_sellVoucher_7 : decode cX9_sellVoucher 7 = .ok (.invokevirtual 55, 3) := by decide +kernel
theorem dX9_sellVoucher_10 : decode cX9_sellVoucher 10 = .ok (.invokevirtual 40, 3) := by decide +kernel
theorem dX9_sellVoucher_13 : decode cX9_sellVoucher 13 = .ok (.ireturn, 1) := by decide +kernel
theorem dX9_isPossible_0 : decode cX9_isPossible 0 = .ok (.iconst 1, 1) := by decide +kernel
theorem dX9_isPossible_1 : decode cX9_isPossible 1 = .ok (.istore 4, 2) := by decide +kernel
theorem dX9_isPossible_3 : decode cX9_isPossible 3 = .ok (.iconst 0, 1) := by decide +kernel
theorem dX9_isPossible_4 : decode cX9_isPossible 4 = .ok (.istore 5, 2) := by decide +kernel
theorem dX9_isPossible_6 : decode cX9_isPossible 6 = .ok (.iload 5, 2) := by decide +kernel
theorem dX9_isPossible_8 : decode cX9_isPossible 8 = .ok (.aload_n 0, 1) := by decide +kernel
theorem dX9_isPossible_9 : decode cX9_isPossible 9 = .ok (.getfield 7, 3) := by decide +kernel
theorem dX9_isPossible_12 : decode cX9_isPossible 12 = .ok (.iconst 1, 1) := by decide +kernel
theorem dX9_isPossible_13 : decode cX9_isPossible 13 = .ok (.iaload, 1) := by decide +kernel
theorem dX9_isPossible_14 : decode cX9_isPossible 14 = .ok (.if_icmp .ge 113, 3) := by decide +kernel
theorem dX9_isPossible_17 : decode cX9_isPossible 17 = .ok (.iload 5, 2) := by decide +kernel
theorem dX9_isPossible_19 : decode cX9_isPossible 19 = .ok (.iload_n 3, 1) := by decide +kernel
theorem dX9_isPossible_20 : decode cX9_isPossible 20 = .ok (.if_icmp .eq 101, 3) := by decide +kernel
theorem dX9_isPossible_23 : decode cX9_isPossible 23 = .ok (.aload_n 0, 1) := by decide +kernel
theorem dX9_isPossible_24 : decode cX9_isPossible 24 = .ok (.iload 5, 2) := by decide +kernel
theorem dX9_isPossible_26 : decode cX9_isPossible 26 = .ok (.iconst 0, 1) := by decide +kernel
theorem dX9_isPossible_27 : decode cX9_isPossible 27 = .ok (.invokevirtual 58, 3) := by decide +kernel
theorem dX9_isPossible_30 : decode cX9_isPossible 30 = .ok (.iload_n 1, 1) := by decide +kernel
theorem dX9_isPossible_31 : decode cX9_isPossible 31 = .ok (.if_icmp .ne 90, 3) := by decide +kernel
theorem dX9_isPossible_34 : decode cX9_isPossible 34 = .ok (.aload_n 0, 1) := by decide +kernel
theorem dX9_isPossible_35 : decode cX9_isPossible 35 = .ok (.iload 5, 2) := by decide +kernel
theorem dX9_isPossible_37 : decode cX9_isPossible 37 = .ok (.iconst 3, 1) := by decide +kernel
theorem dX9_isPossible_38 : decode cX9_isPossible 38 = .ok (.invokevirtual 58, 3) := by decide +kernel
theorem dX9_isPossible_41 : decode cX9_isPossible 41 = .ok (.iconst 2, 1) := by decide +kernel
theorem dX9_isPossible_42 : decode cX9_isPossible 42 = .ok (.if_icmp .ge 79, 3) := by decide +kernel
theorem dX9_isPossible_45 : decode cX9_isPossible 45 = .ok (.iload_n 2, 1) := by decide +kernel
theorem dX9_isPossible_46 : decode cX9_isPossible 46 = .ok (.aload_n 0, 1) := by decide +kernel
theorem dX9_isPossible_47 : decode cX9_isPossible 47 = .ok (.iload 5, 2) := by decide +kernel
theorem dX9_isPossible_49 : decode cX9_isPossible 49 = .ok (.iconst 1, 1) := by decide +kernel
theorem dX9_isPossible_50 : decode cX9_isPossible 50 = .ok (.invokevirtual 58, 3) := by decide +kernel
theorem dX9_isPossible_53 : decode cX9_isPossible 53 = .ok (.isub, 1) := by decide +kernel
theorem dX9_isPossible_54 : decode cX9_isPossible 54 = .ok (.istore 6, 2) := by decide +kernel
theorem dX9_isPossible_56 : decode cX9_isPossible 56 = .ok (.iload 4, 2) := by decide +kernel
theorem dX9_isPossible_58 : decode cX9_isPossible 58 = .ok (.ifCond .eq 60, 3) := by decide +kernel
theorem dX9_isPossible_61 : decode cX9_isPossible 61 = .ok (.iload 6, 2) := by decide +kernel
theorem dX9_isPossible_63 : decode cX9_isPossible 63 = .ok (.iconst 1, 1) := by decide +kernel
theorem dX9_isPossible_64 : decode cX9_isPossible 64 = .ok (.aload_n 0, 1) := by decide +kernel
theorem dX9_isPossible_65 : decode cX9_isPossible 65 = .ok (.iload_n 1, 1) := by decide +kernel
theorem dX9_isPossible_66 : decode cX9_isPossible 66 = .ok (.iconst 0, 1) := by decide +kernel
theorem dX9_isPossible_67 : decode cX9_isPossible 67 = .ok (.invokevirtual 48, 3) := by decide +kernel
theorem dX9_isPossible_70 : decode cX9_isPossible 70 = .ok (.isub, 1) := by decide +kernel
theorem dX9_isPossible_71 : decode cX9_isPossible 71 = .ok (.aload_n 0, 1) := by decide +kernel
theorem dX9_isPossible_72 : decode cX9_isPossible 72 = .ok (.iload_n 1, 1) := by decide +kernel
theorem dX9_isPossible_73 : decode cX9_isPossible 73 = .ok (.iconst 1, 1) := by decide +kernel
theorem dX9_isPossible_74 : decode cX9_isPossible 74 = .ok (.invokevirtual 48, 3) := by decide +kernel
theorem dX9_isPossible_77 : decode cX9_isPossible 77 = .ok (.isub, 1) := by decide +kernel
theorem dX9_isPossible_78 : decode cX9_isPossible 78 = .ok (.aload_n 0, 1) := by decide +kernel
theorem dX9_isPossible_79 : decode cX9_isPossible 79 = .ok (.iload_n 1, 1) := by decide +kernel
theorem dX9_isPossible_80 : decode cX9_isPossible 80 = .ok (.iconst 0, 1) := by decide +kernel
theorem dX9_isPossible_81 : decode cX9_isPossible 81 = .ok (.invokevirtual 48, 3) := by decide +kernel
theorem dX9_isPossible_84 : decode cX9_isPossible 84 = .ok (.aload_n 0, 1) := by decide +kernel
theorem dX9_isPossible_85 : decode cX9_isPossible 85 = .ok (.iload_n 1, 1) := by decide +kernel
theorem dX9_isPossible_86 : decode cX9_isPossible 86 = .ok (.iconst 1, 1) := by decide +kernel
theorem dX9_isPossible_87 : decode cX9_isPossible 87 = .ok (.invokevirtual 48, 3) := by decide +kernel
theorem dX9_isPossible_90 : decode cX9_isPossible 90 = .ok (.iadd, 1) := by decide +kernel
theorem dX9_isPossible_91 : decode cX9_isPossible 91 = .ok (.iconst 1, 1) := by decide +kernel
theorem dX9_isPossible_92 : decode cX9_isPossible 92 = .ok (.isub, 1) := by decide +kernel
theorem dX9_isPossible_93 : decode cX9_isPossible 93 = .ok (.invokestatic 29, 3) := by decide +kernel
theorem dX9_isPossible_96 : decode cX9_isPossible 96 = .ok (.ifCond .ne 22, 3) := by decide +kernel
theorem dX9_isPossible_99 : decode cX9_isPossible 99 = .ok (.aload_n 0, 1) := by decide +kernel
theorem dX9_isPossible_100 : decode cX9_isPossible 100 = .ok (.iload 5, 2) := by decide +kernel
theorem dX9_isPossible_102 : decode cX9_isPossible 102 = .ok (.iconst 3, 1) := by decide +kernel
theorem dX9_isPossible_103 : decode cX9_isPossible 103 = .ok (.invokevirtual 58, 3) := by decide +kernel
theorem dX9_isPossible_106 : decode cX9_isPossible 106 = .ok (.ifCond .eq 8, 3) := by decide +kernel
theorem dX9_isPossible_109 : decode cX9_isPossible 109 = .ok (.iload 6, 2) := by decide +kernel
theorem dX9_isPossible_111 : decode cX9_isPossible 111 = .ok (.ifCond .le 7, 3) := by decide +kernel
theorem dX9_isPossible_114 : decode cX9_isPossible 114 = .ok (.iconst 1, 1) := by decide +kernel
theorem dX9_isPossible_115 : decode cX9_isPossible 115 = .ok (.goto 4, 3) := by decide +kernel
theorem dX9_isPossible_118 : decode cX9_isPossible 118 = .ok (.iconst 0, 1) := by decide +kernel
theorem dX9_isPossible_119 : decode cX9_isPossible 119 = .ok (.istore 4, 2) := by decide +kernel
theorem dX9_isPossible_121 : decode cX9_isPossible 121 = .ok (.iinc 5 1, 3) := by decide +kernel
theorem dX9_isPossible_124 : decode cX9_isPossible 124 = .ok (.goto (-118), 3) := by decide +kernel
theorem dX9_isPossible_127 : decode cX9_isPossible 127 = .ok (.iload 4, 2) := by decide +kernel
theorem dX9_isPossible_129 : decode cX9_isPossible 129 = .ok (.ireturn, 1) := by decide +kernel
theorem dX9_doBook_0 : decode cX9_doBook 0 = .ok (.aload_n 0, 1) := by decide +kernel
theorem dX9_doBook_1 : decode cX9_doBook 1 = .ok (.iload_n 1, 1) := by decide +kernel
theorem dX9_doBook_2 : decode cX9_doBook 2 = .ok (.invokevirtual 44, 3) := by decide +kernel
theorem dX9_doBook_5 : decode cX9_doBook 5 = .ok (.ifCond .eq 43, 3) := by decide +kernel
theorem dX9_doBook_8 : decode cX9_doBook 8 = .ok (.iload_n 2, 1) := by decide +kernel
theorem dX9_doBook_9 : decode cX9_doBook 9 = .ok (.iconst 0, 1) := by decide +kernel
theorem dX9_doBook_10 : decode cX9_doBook 10 = .ok (.sipush 720, 3) := by decide +kernel
theorem dX9_doBook_13 : decode cX9_doBook 13 = .ok (.invokestatic 29, 3) := by decide +kernel
theorem dX9_doBook_16 : decode cX9_doBook 16 = .ok (.ifCond .eq 32, 3) := by decide +kernel
theorem dX9_doBook_19 : decode cX9_doBook 19 = .ok (.iload_n 3, 1) := by decide +kernel
theorem dX9_doBook_20 : decode cX9_doBook 20 = .ok (.iconst 2, 1) := by decide +kernel
theorem dX9_doBook_21 : decode cX9_doBook 21 = .ok (.aload_n 0, 1) := by decide +kernel
theorem dX9_doBook_22 : decode cX9_doBook 22 = .ok (.iload_n 1, 1) := by decide +kernel
theorem dX9_doBook_23 : decode cX9_doBook 23 = .ok (.iconst 3, 1) := by decide +kernel
theorem dX9_doBook_24 : decode cX9_doBook 24 = .ok (.invokevirtual 48, 3) := by decide +kernel
theorem dX9_doBook_27 : decode cX9_doBook 27 = .ok (.invokestatic 29, 3) := by decide +kernel
theorem dX9_doBook_30 : decode cX9_doBook 30 = .ok (.ifCond .eq 18, 3) := by decide +kernel
theorem dX9_doBook_33 : decode cX9_doBook 33 = .ok (.iload 4, 2) := by decide +kernel
theorem dX9_doBook_35 : decode cX9_doBook 35 = .ok (.iconst (-1), 1) := by decide +kernel
theorem dX9_doBook_36 : decode cX9_doBook 36 = .ok (.if_icmp .eq 14, 3) := by decide +kernel
theorem dX9_doBook_39 : decode cX9_doBook 39 = .ok (.aload_n 0, 1) := by decide +kernel
theorem dX9_doBook_40 : decode cX9_doBook 40 = .ok (.iload 4, 2) := by decide +kernel
theorem dX9_doBook_42 : decode cX9_doBook 42 = .ok (.invokevirtual 61, 3) := by decide +kernel
theorem dX9_doBook_45 : decode cX9_doBook 45 = .ok (.ifCond .ne 5, 3) := by decide +kernel
theorem dX9_doBook_48 : decode cX9_doBook 48 = .ok (.iconst (-1), 1) := by decide +kernel
theorem dX9_doBook_49 : decode cX9_doBook 49 = .ok (.ireturn, 1) := by decide +kernel
theorem dX9_doBook_50 : decode cX9_doBook 50 = .ok (.aload_n 0, 1) := by decide +kernel
theorem dX9_doBook_51 : decode cX9_doBook 51 = .ok (.iload_n 1, 1) := by decide +kernel
theorem dX9_doBook_52 : decode cX9_doBook 52 = .ok (.iload_n 2, 1) := by decide +kernel
theorem dX9_doBook_53 : decode cX9_doBook 53 = .ok (.bipush (-9), 2) := by decide +kernel
theorem dX9_doBook_55 : decode cX9_doBook 55 = .ok (.invokevirtual 64, 3) := by decide +kernel
theorem dX9_doBook_58 : decode cX9_doBook 58 = .ok (.ifCond .ne 6, 3) := by decide +kernel
theorem dX9_doBook_61 : decode cX9_doBook 61 = .ok (.bipush (-2), 2) := by decide +kernel
theorem dX9_doBook_63 : decode cX9_doBook 63 = .ok (.ireturn, 1) := by decide +kernel
theorem dX9_doBook_64 : decode cX9_doBook 64 = .ok (.aload_n 0, 1) := by decide +kernel
theorem dX9_doBook_65 : decode cX9_doBook 65 = .ok (.getfield 7, 3) := by decide +kernel
theorem dX9_doBook_68 : decode cX9_doBook 68 = .ok (.iconst 1, 1) := by decide +kernel
theorem dX9_doBook_69 : decode cX9_doBook 69 = .ok (.iaload, 1) := by decide +kernel
theorem dX9_doBook_70 : decode cX9_doBook 70 = .ok (.bipush 16, 2) := by decide +kernel
theorem dX9_doBook_72 : decode cX9_doBook 72 = .ok (.if_icmp .ne 6, 3) := by decide +kernel
theorem dX9_doBook_75 : decode cX9_doBook 75 = .ok (.bipush (-3), 2) := by decide +kernel
theorem dX9_doBook_77 : decode cX9_doBook 77 = .ok (.ireturn, 1) := by decide +kernel
theorem dX9_doBook_78 : decode cX9_doBook 78 = .ok (.aload_n 0, 1) := by decide +kernel
theorem dX9_doBook_79 : decode cX9_doBook 79 = .ok (.getfield 7, 3) := by decide +kernel
theorem dX9_doBook_82 : decode cX9_doBook 82 = .ok (.iconst 1, 1) := by decide +kernel
theorem dX9_doBook_83 : decode cX9_doBook 83 = .ok (.iaload, 1) := by decide +kernel
theorem dX9_doBook_84 : decode cX9_doBook 84 = .ok (.istore 5, 2) := by decide +kernel
theorem dX9_doBook_86 : decode cX9_doBook 86 = .ok (.aload_n 0, 1) := by decide +kernel
theorem dX9_doBook_87 : decode cX9_doBook 87 = .ok (.iload_n 1, 1) := by decide +kernel
theorem dX9_doBook_88 : decode cX9_doBook 88 = .ok (.iconst 2, 1) := by decide +kernel
theorem dX9_doBook_89 : decode cX9_doBook 89 = .ok (.invokevirtual 48, 3) := by decide +kernel
theorem dX9_doBook_92 : decode cX9_doBook 92 = .ok (.iload_n 3, 1) := by decide +kernel
theorem dX9_doBook_93 : decode cX9_doBook 93 = .ok (.imul, 1) := by decide +kernel
theorem dX9_doBook_94 : decode cX9_doBook 94 = .ok (.istore 6, 2) := by decide +kernel
theorem dX9_doBook_96 : decode cX9_doBook 96 = .ok (.iload 4, 2) := by decide +kernel
theorem dX9_doBook_98 : decode cX9_doBook 98 = .ok (.ifCond .ge 7, 3) := by decide +kernel
theorem dX9_doBook_101 : decode cX9_doBook 101 = .ok (.iconst 0, 1) := by decide +kernel
theorem dX9_doBook_102 : decode cX9_doBook 102 = .ok (.goto 23, 3) := by decide +kernel
theorem dX9_doBook_105 : decode cX9_doBook 105 = .ok (.iload 6, 2) := by decide +kernel
theorem dX9_doBook_107 : decode cX9_doBook 107 = .ok (.aload_n 0, 1) := by decide +kernel
theorem dX9_doBook_108 : decode cX9_doBook 108 = .ok (.getfield 7, 3) := by decide +kernel
theorem dX9_doBook_111 : decode cX9_doBook 111 = .ok (.sipush 501, 3) := by decide +kernel
theorem dX9_doBook_114 : decode cX9_doBook 114 = .ok (.iconst 2, 1) := by decide +kernel
theorem dX9_doBook_115 : decode cX9_doBook 115 = .ok (.iload 4, 2) := by decide +kernel
theorem dX9_doBook_117 : decode cX9_doBook 117 = .ok (.imul, 1) := by decide +kernel
theorem dX9_doBook_118 : decode cX9_doBook 118 = .ok (.iadd, 1) := by decide +kernel
theorem dX9_doBook_119 : decode cX9_doBook 119 = .ok (.iconst 1, 1) := by decide +kernel
theorem dX9_doBook_120 : decode cX9_doBook 120 = .ok (.iadd, 1) := by decide +kernel
theorem dX9_doBook_121 : decode cX9_doBook 121 = .ok (.iaload, 1) := by decide +kernel
theorem dX9_doBook_122 : decode cX9_doBook 122 = .ok (.invokestatic 67, 3) := by decide +kernel
theorem dX9_doBook_125 : decode cX9_doBook 125 = .ok (.istore 7, 2) := by decide +kernel
theorem dX9_doBook_127 : decode cX9_doBook 127 = .ok (.aload_n 0, 1) := by decide +kernel
theorem dX9_doBook_128 : decode cX9_doBook 128 = .ok (.iload 5, 2) := by decide +kernel
theorem dX9_doBook_130 : decode cX9_doBook 130 = .ok (.iconst 0, 1) := by decide +kernel
theorem dX9_doBook_131 : decode cX9_doBook 131 = .ok (.iload_n 1, 1) := by decide +kernel
theorem dX9_doBook_132 : decode cX9_doBook 132 = .ok (.invokevirtual 70, 3) := by decide +kernel
theorem dX9_doBook_135 : decode cX9_doBook 135 = .ok (.aload_n 0, 1) := by decide +kernel
theorem dX9_doBook_136 : decode cX9_doBook 136 = .ok (.iload 5, 2) := by decide +kernel
theorem dX9_doBook_138 : decode cX9_doBook 138 = .ok (.iconst 1, 1) := by decide +kernel
theorem dX9_doBook_139 : decode cX9_doBook 139 = .ok (.iload_n 2, 1) := by decide +kernel
theorem dX9_doBook_140 : decode cX9_doBook 140 = .ok (.invokevirtual 70, 3) := by decide +kernel
theorem dX9_doBook_143 : decode cX9_doBook 143 = .ok (.aload_n 0, 1) := by decide +kernel
theorem dX9_doBook_144 : decode cX9_doBook 144 = .ok (.iload 5, 2) := by decide +kernel
theorem dX9_doBook_146 : decode cX9_doBook 146 = .ok (.iconst 2, 1) := by decide +kernel
theorem dX9_doBook_147 : decode cX9_doBook 147 = .ok (.iload_n 3, 1) := by decide +kernel
theorem dX9_doBook_148 : decode cX9_doBook 148 = .ok (.invokevirtual 70, 3) := by decide +kernel
theorem dX9_doBook_151 : decode cX9_doBook 151 = .ok (.aload_n 0, 1) := by decide +kernel
theorem dX9_doBook_152 : decode cX9_doBook 152 = .ok (.iload 5, 2) := by decide +kernel
theorem dX9_doBook_154 : decode cX9_doBook 154 = .ok (.iconst 3, 1) := by decide +kernel
theorem dX9_doBook_155 : decode cX9_doBook 155 = .ok (.iconst 0, 1) := by decide +kernel
theorem dX9_doBook_156 : decode cX9_doBook 156 = .ok (.invokevirtual 70, 3) := by decide +kernel
theorem dX9_doBook_159 : decode cX9_doBook 159 = .ok (.aload_n 0, 1) := by decide +kernel
theorem dX9_doBook_160 : decode cX9_doBook 160 = .ok (.iload 5, 2) := by decide +kernel
theorem dX9_doBook_162 : decode cX9_doBook 162 = .ok (.iconst 4, 1) := by decide +kernel
theorem dX9_doBook_163 : decode cX9_doBook 163 = .ok (.iload 6, 2) := by decide +kernel
theorem dX9_doBook_165 : decode cX9_doBook 165 = .ok (.invokevirtual 70, 3) := by decide +kernel
theorem dX9_doBook_168 : decode cX9_doBook 168 = .ok (.aload_n 0, 1) := by decide +kernel
theorem dX9_doBook_169 : decode cX9_doBook 169 = .ok (.iload 5, 2) := by decide +kernel
theorem dX9_doBook_171 : decode cX9_doBook 171 = .ok (.iconst 5, 1) := by decide +kernel
theorem dX9_doBook_172 : decode cX9_doBook 172 = .ok (.iload 6, 2) := by decide +kernel
theorem dX9_doBook_174 : decode cX9_doBook 174 = .ok (.iload 7, 2) := by decide +kernel
theorem dX9_doBook_176 : decode cX9_doBook 176 = .ok (.isub, 1) := by decide +kernel
theorem dX9_doBook_177 : decode cX9_doBook 177 = .ok (.invokevirtual 70, 3) := by decide +kernel
theorem dX9_doBook_180 : decode cX9_doBook 180 = .ok (.aload_n 0, 1) := by decide +kernel
theorem dX9_doBook_181 : decode cX9_doBook 181 = .ok (.iload 5, 2) := by decide +kernel
theorem dX9_doBook_183 : decode cX9_doBook 183 = .ok (.bipush 6, 2) := by decide +kernel
theorem dX9_doBook_185 : decode cX9_doBook 185 = .ok (.iconst 0, 1) := by decide +kernel
theorem dX9_doBook_186 : decode cX9_doBook 186 = .ok (.invokevirtual 70, 3) := by decide +kernel
theorem dX9_doBook_189 : decode cX9_doBook 189 = .ok (.aload_n 0, 1) := by decide +kernel
theorem dX9_doBook_190 : decode cX9_doBook 190 = .ok (.iload 5, 2) := by decide +kernel
theorem dX9_doBook_192 : decode cX9_doBook 192 = .ok (.bipush 7, 2) := by decide +kernel
theorem dX9_doBook_194 : decode cX9_doBook 194 = .ok (.bipush (-9), 2) := by decide +kernel
theorem dX9_doBook_196 : decode cX9_doBook 196 = .ok (.invokevirtual 70, 3) := by decide +kernel
theorem dX9_doBook_199 : decode cX9_doBook 199 = .ok (.aload_n 0, 1) := by decide +kernel
theorem dX9_doBook_200 : decode cX9_doBook 200 = .ok (.iload 5, 2) := by decide +kernel
theorem dX9_doBook_202 : decode cX9_doBook 202 = .ok (.bipush 8, 2) := by decide +kernel
theorem dX9_doBook_204 : decode cX9_doBook 204 = .ok (.bipush (-9), 2) := by decide +kernel
theorem dX9_doBook_206 : decode cX9_doBook 206 = .ok (.invokevirtual 70, 3) := by decide +kernel
theorem dX9_doBook_209 : decode cX9_doBook 209 = .ok (.aload_n 0, 1) := by decide +kernel
theorem dX9_doBook_210 : decode cX9_doBook 210 = .ok (.getfield 7, 3) := by decide +kernel
theorem dX9_doBook_213 : decode cX9_doBook 213 = .ok (.sipush 197, 3) := by decide +kernel
theorem dX9_doBook_216 : decode cX9_doBook 216 = .ok (.iload 5, 2) := by decide +kernel
theorem dX9_doBook_218 : decode cX9_doBook 218 = .ok (.iadd, 1) := by decide +kernel
theorem dX9_doBook_219 : decode cX9_doBook 219 = .ok (.iconst 0, 1) := by decide +kernel
theorem dX9_doBook_220 : decode cX9_doBook 220 = .ok (.iastore, 1) := by decide +kernel
theorem dX9_doBook_221 : decode cX9_doBook 221 = .ok (.aload_n 0, 1) := by decide +kernel
theorem dX9_doBook_222 : decode cX9_doBook 222 = .ok (.getfield 7, 3) := by decide +kernel
theorem dX9_doBook_225 : decode cX9_doBook 225 = .ok (.iconst 3, 1) := by decide +kernel
theorem dX9_doBook_226 : decode cX9_doBook 226 = .ok (.dup2, 1) := by decide +kernel
theorem dX9_doBook_227 : decode cX9_doBook 227 = .ok (.iaload, 1) := by decide +kernel
theorem dX9_doBook_228 : decode cX9_doBook 228 = .ok (.iload 6, 2) := by decide +kernel
theorem dX9_doBook_230 : decode cX9_doBook 230 = .ok (.iload 7, 2) := by decide +kernel
theorem dX9_doBook_232 : decode cX9_doBook 232 = .ok (.isub, 1) := by decide +kernel
theorem dX9_doBook_233 : decode cX9_doBook 233 = .ok (.iadd, 1) := by decide +kernel
theorem dX9_doBook_234 : decode cX9_doBook 234 = .ok (.iastore, 1) := by decide +kernel
theorem dX9_doBook_235 : decode cX9_doBook 235 = .ok (.iload 7, 2) := by decide +kernel
theorem dX9_doBook_237 : decode cX9_doBook 237 = .ok (.ifCond .le 77, 3) := by decide +kernel
theorem dX9_doBook_240 : decode cX9_doBook 240 = .ok (.aload_n 0, 1) := by decide +kernel
theorem dX9_doBook_241 : decode cX9_doBook 241 = .ok (.getfield 7, 3) := by decide +kernel
theorem dX9_doBook_244 : decode cX9_doBook 244 = .ok (.sipush 501, 3) := by decide +kernel
theorem dX9_doBook_247 : decode cX9_doBook 247 = .ok (.iconst 2, 1) := by decide +kernel
theorem dX9_doBook_248 : decode cX9_doBook 248 = .ok (.iload 4, 2) := by decide +kernel
theorem dX9_doBook_250 : decode cX9_doBook 250 = .ok (.imul, 1) := by decide +kernel
theorem dX9_doBook_251 : decode cX9_doBook 251 = .ok (.iadd, 1) := by decide +kernel
theorem dX9_doBook_252 : decode cX9_doBook 252 = .ok (.iconst 1, 1) := by decide +kernel
theorem dX9_doBook_253 : decode cX9_doBook 253 = .ok (.iadd, 1) := by decide +kernel
theorem dX9_doBook_254 : decode cX9_doBook 254 = .ok (.dup2, 1) := by decide +kernel
theorem dX9_doBook_255 : decode cX9_doBook 255 = .ok (.iaload, 1) := by decide +kernel
theorem dX9_doBook_256 : decode cX9_doBook 256 = .ok (.iload 7, 2) := by decide +kernel
theorem dX9_doBook_258 : decode cX9_doBook 258 = .ok (.isub, 1) := by decide +kernel
theorem dX9_doBook_259 : decode cX9_doBook 259 = .ok (.iastore, 1) := by decide +kernel
theorem dX9_doBook_260 : decode cX9_doBook 260 = .ok (.aload_n 0, 1) := by decide +kernel
theorem dX9_doBook_261 : decode cX9_doBook 261 = .ok (.getfield 7, 3) := by decide +kernel
theorem dX9_doBook_264 : decode cX9_doBook 264 = .ok (.sipush 469, 3) := by decide +kernel
theorem dX9_doBook_267 : decode cX9_doBook 267 = .ok (.iload 5, 2) := by decide +kernel
theorem dX9_doBook_269 : decode cX9_doBook 269 = .ok (.iadd, 1) := by decide +kernel
theorem dX9_doBook_270 : decode cX9_doBook 270 = .ok (.iload 4, 2) := by decide +kernel
theorem dX9_doBook_272 : decode cX9_doBook 272 = .ok (.iastore, 1) := by decide +kernel
theorem dX9_doBook_273 : decode cX9_doBook 273 = .ok (.aload_n 0, 1) := by decide +kernel
theorem dX9_doBook_274 : decode cX9_doBook 274 = .ok (.getfield 7, 3) := by decide +kernel
theorem dX9_doBook_277 : decode cX9_doBook 277 = .ok (.sipush 485, 3) := by decide +kernel
theorem dX9_doBook_280 : decode cX9_doBook 280 = .ok (.iload 5, 2) := by decide +kernel
theorem dX9_doBook_282 : decode cX9_doBook 282 = .ok (.iadd, 1) := by decide +kernel
theorem dX9_doBook_283 : decode cX9_doBook 283 = .ok (.iload 7, 2) := by decide +kernel
theorem dX9_doBook_285 : decode cX9_doBook 285 = .ok (.iastore, 1) := by decide +kernel
theorem dX9_doBook_286 : decode cX9_doBook 286 = .ok (.aload_n 0, 1) := by decide +kernel
theorem dX9_doBook_287 : decode cX9_doBook 287 = .ok (.getfield 7, 3) := by decide +kernel
theorem dX9_doBook_290 : decode cX9_doBook 290 = .ok (.sipush 213, 3) := by decide +kernel
theorem dX9_doBook_293 : decode cX9_doBook 293 = .ok (.bipush 16, 2) := by decide +kernel
theorem dX9_doBook_295 : decode cX9_doBook 295 = .ok (.iload 5, 2) := by decide +kernel
theorem dX9_doBook_297 : decode cX9_doBook 297 = .ok (.imul, 1) := by decide +kernel
theorem dX9_doBook_298 : decode cX9_doBook 298 = .ok (.iadd, 1) := by decide +kernel
theorem dX9_doBook_299 : decode cX9_doBook 299 = .ok (.iload 5, 2) := by decide +kernel
theorem dX9_doBook_301 : decode cX9_doBook 301 = .ok (.iastore, 1) := by decide +kernel
theorem dX9_doBook_302 : decode cX9_doBook 302 = .ok (.aload_n 0, 1) := by decide +kernel
theorem dX9_doBook_303 : decode cX9_doBook 303 = .ok (.getfield 7, 3) := by decide +kernel
theorem dX9_doBook_306 : decode cX9_doBook 306 = .ok (.sipush 197, 3) := by decide +kernel
theorem dX9_doBook_309 : decode cX9_doBook 309 = .ok (.iload 5, 2) := by decide +kernel
theorem dX9_doBook_311 : decode cX9_doBook 311 = .ok (.iadd, 1) := by decide +kernel
theorem dX9_doBook_312 : decode cX9_doBook 312 = .ok (.iconst 1, 1) := by decide +kernel
theorem dX9_doBook_313 : decode cX9_doBook 313 = .ok (.iastore, 1) := by decide +kernel
theorem dX9_doBook_314 : decode cX9_doBook 314 = .ok (.aload_n 0, 1) := by decide +kernel
theorem dX9_doBook_315 : decode cX9_doBook 315 = .ok (.getfield 7, 3) := by decide +kernel
theorem dX9_doBook_318 : decode cX9_doBook 318 = .ok (.iconst 1, 1) := by decide +kernel
theorem dX9_doBook_319 : decode cX9_doBook 319 = .ok (.dup2, 1) := by decide +kernel
theorem dX9_doBook_320 : decode cX9_doBook 320 = .ok (.iaload, 1) := by decide +kernel
theorem dX9_doBook_321 : decode cX9_doBook 321 = .ok (.iconst 1, 1) := by decide +kernel
theorem dX9_doBook_322 : decode cX9_doBook 322 = .ok (.iadd, 1) := by decide +kernel
theorem dX9_doBook_323 : decode cX9_doBook 323 = .ok (.iastore, 1) := by decide +kernel
theorem dX9_doBook_324 : decode cX9_doBook 324 = .ok (.iload 5, 2) := by decide +kernel
theorem dX9_doBook_326 : decode cX9_doBook 326 = .ok (.ireturn, 1) := by decide +kernel
theorem dX9_book_0 : decode cX9_book 0 = .ok (.aload_n 0, 1) := by decide +kernel
theorem dX9_book_1 : decode cX9_book 1 = .ok (.invokevirtual 33, 3) := by decide +kernel
theorem dX9_book_4 : decode cX9_book 4 = .ok (.aload_n 0, 1) := by decide +kernel
theorem dX9_book_5 : decode cX9_book 5 = .ok (.aload_n 0, 1) := by decide +kernel
theorem dX9_book_6 : decode cX9_book 6 = .ok (.iload_n 1, 1) := by decide +kernel
theorem dX9_book_7 : decode cX9_book 7 = .ok (.iload_n 2, 1) := by decide +kernel
theorem dX9_book_8 : decode cX9_book 8 = .ok (.iload_n 3, 1) := by decide +kernel
theorem dX9_book_9 : decode cX9_book 9 = .ok (.iload 4, 2) := by decide +kernel
theorem dX9_book_11 : decode cX9_book 11 = .ok (.invokevirtual 74, 3) := by decide +kernel
theorem dX9_book_14 : decode cX9_book 14 = .ok (.invokevirtual 40, 3) := by decide +kernel
theorem dX9_book_17 : decode cX9_book 17 = .ok (.ireturn, 1) := by decide +kernel
theorem dX9_move_0 : decode cX9_move 0 = .ok (.aload_n 0, 1) := by decide +kernel
theorem dX9_move_1 : decode cX9_move 1 = .ok (.iload_n 1, 1) := by decide +kernel
theorem dX9_move_2 : decode cX9_move 2 = .ok (.invokevirtual 77, 3) := by decide +kernel
theorem dX9_move_5 : decode cX9_move 5 = .ok (.ifCond .eq 14, 3) := by decide +kernel
theorem dX9_move_8 : decode cX9_move 8 = .ok (.iload_n 2, 1) := by decide +kernel
theorem dX9_move_9 : decode cX9_move 9 = .ok (.iconst 0, 1) := by decide +kernel
theorem dX9_move_10 : decode cX9_move 10 = .ok (.sipush 720, 3) := by decide +kernel
theorem dX9_move_13 : decode cX9_move 13 = .ok (.invokestatic 29, 3) := by decide +kernel
theorem dX9_move_16 : decode cX9_move 16 = .ok (.ifCond .ne 5, 3) := by decide +kernel
theorem dX9_move_19 : decode cX9_move 19 = .ok (.iconst (-1), 1) := by decide +kernel
theorem dX9_move_20 : decode cX9_move 20 = .ok (.ireturn, 1) := by decide +kernel
theorem dX9_move_21 : decode cX9_move 21 = .ok (.aload_n 0, 1) := by decide +kernel
theorem dX9_move_22 : decode cX9_move 22 = .ok (.iload_n 1, 1) := by decide +kernel
theorem dX9_move_23 : decode cX9_move 23 = .ok (.iconst 3, 1) := by decide +kernel
theorem dX9_move_24 : decode cX9_move 24 = .ok (.invokevirtual 58, 3) := by decide +kernel
theorem dX9_move_27 : decode cX9_move 27 = .ok (.ifCond .ne 18, 3) := by decide +kernel
theorem dX9_move_30 : decode cX9_move 30 = .ok (.aload_n 0, 1) := by decide +kernel
theorem dX9_move_31 : decode cX9_move 31 = .ok (.aload_n 0, 1) := by decide +kernel
theorem dX9_move_32 : decode cX9_move 32 = .ok (.iload_n 1, 1) := by decide +kernel
theorem dX9_move_33 : decode cX9_move 33 = .ok (.iconst 0, 1) := by decide +kernel
theorem dX9_move_34 : decode cX9_move 34 = .ok (.invokevirtual 58, 3) := by decide +kernel
theorem dX9_move_37 : decode cX9_move 37 = .ok (.iload_n 2, 1) := by decide +kernel
theorem dX9_move_38 : decode cX9_move 38 = .ok (.iload_n 1, 1) := by decide +kernel
theorem dX9_move_39 : decode cX9_move 39 = .ok (.invokevirtual 64, 3) := by decide +kernel
theorem dX9_move_42 : decode cX9_move 42 = .ok (.ifCond .ne 6, 3) := by decide +kernel
theorem dX9_move_45 : decode cX9_move 45 = .ok (.bipush (-2), 2) := by decide +kernel
theorem dX9_move_47 : decode cX9_move 47 = .ok (.ireturn, 1) := by decide +kernel
theorem dX9_move_48 : decode cX9_move 48 = .ok (.aload_n 0, 1) := by decide +kernel
theorem dX9_move_49 : decode cX9_move 49 = .ok (.invokevirtual 33, 3) := by decide +kernel
theorem dX9_move_52 : decode cX9_move 52 = .ok (.aload_n 0, 1) := by decide +kernel
theorem dX9_move_53 : decode cX9_move 53 = .ok (.iload_n 1, 1) := by decide +kernel
theorem dX9_move_54 : decode cX9_move 54 = .ok (.iconst 1, 1) := by decide +kernel
theorem dX9_move_55 : decode cX9_move 55 = .ok (.invokevirtual 58, 3) := by decide +kernel
theorem dX9_move_58 : decode cX9_move 58 = .ok (.istore_n 3, 1) := by decide +kernel
theorem dX9_move_59 : decode cX9_move 59 = .ok (.aload_n 0, 1) := by decide +kernel
theorem dX9_move_60 : decode cX9_move 60 = .ok (.iload_n 1, 1) := by decide +kernel
theorem dX9_move_61 : decode cX9_move 61 = .ok (.iconst 1, 1) := by decide +kernel
theorem dX9_move_62 : decode cX9_move 62 = .ok (.iload_n 2, 1) := by decide +kernel
theorem dX9_move_63 : decode cX9_move 63 = .ok (.invokevirtual 70, 3) := by decide +kernel
theorem dX9_move_66 : decode cX9_move 66 = .ok (.aload_n 0, 1) := by decide +kernel
theorem dX9_move_67 : decode cX9_move 67 = .ok (.iload_n 3, 1) := by decide +kernel
theorem dX9_move_68 : decode cX9_move 68 = .ok (.invokevirtual 40, 3) := by decide +kernel
theorem dX9_move_71 : decode cX9_move 71 = .ok (.ireturn, 1) := by decide +kernel
theorem dX9_byVouchers_0 : decode cX9_byVouchers 0 = .ok (.iconst 0, 1) := by decide +kernel
theorem dX9_byVouchers_1 : decode cX9_byVouchers 1 = .ok (.istore_n 2, 1) := by decide +kernel
theorem dX9_byVouchers_2 : decode cX9_byVouchers 2 = .ok (.iconst 0, 1) := by decide +kernel
theorem dX9_byVouchers_3 : decode cX9_byVouchers 3 = .ok (.istore_n 3, 1) := by decide +kernel
theorem dX9_byVouchers_4 : decode cX9_byVouchers 4 = .ok (.iload_n 3, 1) := by decide +kernel
theorem dX9_byVouchers_5 : decode cX9_byVouchers 5 = .ok (.aload_n 0, 1) := by decide +kernel
theorem dX9_byVouchers_6 : decode cX9_byVouchers 6 = .ok (.getfield 7, 3) := by decide +kernel
theorem dX9_byVouchers_9 : decode cX9_byVouchers 9 = .ok (.sipush 197, 3) := by decide +kernel
theorem dX9_byVouchers_12 : decode cX9_byVouchers 12 = .ok (.iload_n 1, 1) := by decide +kernel
theorem dX9_byVouchers_13 : decode cX9_byVouchers 13 = .ok (.iadd, 1) := by decide +kernel
theorem dX9_byVouchers_14 : decode cX9_byVouchers 14 = .ok (.iaload, 1) := by decide +kernel
theorem dX9_byVouchers_15 : decode cX9_byVouchers 15 = .ok (.if_icmp .ge 36, 3) := by decide +kernel
theorem dX9_byVouchers_18 : decode cX9_byVouchers 18 = .ok (.iload_n 2, 1) := by decide +kernel
theorem dX9_byVouchers_19 : decode cX9_byVouchers 19 = .ok (.aload_n 0, 1) := by decide +kernel
theorem dX9_byVouchers_20 : decode cX9_byVouchers 20 = .ok (.getfield 7, 3) := by decide +kernel
theorem dX9_byVouchers_23 : decode cX9_byVouchers 23 = .ok (.sipush 485, 3) := by decide +kernel
theorem dX9_byVouchers_26 : decode cX9_byVouchers 26 = .ok (.aload_n 0, 1) := by decide +kernel
theorem dX9_byVouchers_27 : decode cX9_byVouchers 27 = .ok (.getfield 7, 3) := by decide +kernel
theorem dX9_byVouchers_30 : decode cX9_byVouchers 30 = .ok (.sipush 213, 3) := by decide +kernel
theorem dX9_byVouchers_33 : decode cX9_byVouchers 33 = .ok (.bipush 16, 2) := by decide +kernel
theorem dX9_byVouchers_35 : decode cX9_byVouchers 35 = .ok (.iload_n 1, 1) := by decide +kernel
theorem dX9_byVouchers_36 : decode cX9_byVouchers 36 = .ok (.imul, 1) := by decide +kernel
theorem dX9_byVouchers_37 : decode cX9_byVouchers 37 = .ok (.iadd, 1) := by decide +kernel
theorem dX9_byVouchers_38 : decode cX9_byVouchers 38 = .ok (.iload_n 3, 1) := by decide +kernel
theorem dX9_byVouchers_39 : decode cX9_byVouchers 39 = .ok (.iadd, 1) := by decide +kernel
theorem dX9_byVouchers_40 : decode cX9_byVouchers 40 = .ok (.iaload, 1) := by decide +kernel
theorem dX9_byVouchers_41 : decode cX9_byVouchers 41 = .ok (.iadd, 1) := by decide +kernel
theorem dX9_byVouchers_42 : decode cX9_byVouchers 42 = .ok (.iaload, 1) := by decide +kernel
theorem dX9_byVouchers_43 : decode cX9_byVouchers 43 = .ok (.iadd, 1) := by decide +kernel
theorem dX9_byVouchers_44 : decode cX9_byVouchers 44 = .ok (.istore_n 2, 1) := by decide +kernel
theorem dX9_byVouchers_45 : decode cX9_byVouchers 45 = .ok (.iinc 3 1, 3) := by decide +kernel
theorem dX9_byVouchers_48 : decode cX9_byVouchers 48 = .ok (.goto (-44), 3) := by decide +kernel
theorem dX9_byVouchers_51 : decode cX9_byVouchers 51 = .ok (.iload_n 2, 1) := by decide +kernel
theorem dX9_byVouchers_52 : decode cX9_byVouchers 52 = .ok (.ireturn, 1) := by decide +kernel
theorem dX9_refunds_0 : decode cX9_refunds 0 = .ok (.iload_n 2, 1) := by decide +kernel
theorem dX9_refunds_1 : decode cX9_refunds 1 = .ok (.aload_n 0, 1) := by decide +kernel
theorem dX9_refunds_2 : decode cX9_refunds 2 = .ok (.iload_n 1, 1) := by decide +kernel
theorem dX9_refunds_3 : decode cX9_refunds 3 = .ok (.iconst 5, 1) := by decide +kernel
theorem dX9_refunds_4 : decode cX9_refunds 4 = .ok (.invokevirtual 58, 3) := by decide +kernel
theorem dX9_refunds_7 : decode cX9_refunds 7 = .ok (.invokestatic 67, 3) := by decide +kernel
theorem dX9_refunds_10 : decode cX9_refunds 10 = .ok (.istore_n 3, 1) := by decide +kernel
theorem dX9_refunds_11 : decode cX9_refunds 11 = .ok (.iload_n 2, 1) := by decide +kernel
theorem dX9_refunds_12 : decode cX9_refunds 12 = .ok (.iload_n 3, 1) := by decide +kernel
theorem dX9_refunds_13 : decode cX9_refunds 13 = .ok (.isub, 1) := by decide +kernel
theorem dX9_refunds_14 : decode cX9_refunds 14 = .ok (.istore 4, 2) := by decide +kernel
theorem dX9_refunds_16 : decode cX9_refunds 16 = .ok (.aload_n 0, 1) := by decide +kernel
theorem dX9_refunds_17 : decode cX9_refunds 17 = .ok (.iload_n 1, 1) := by decide +kernel
theorem dX9_refunds_18 : decode cX9_refunds 18 = .ok (.iconst 5, 1) := by decide +kernel
theorem dX9_refunds_19 : decode cX9_refunds 19 = .ok (.iload_n 3, 1) := by decide +kernel
theorem dX9_refunds_20 : decode cX9_refunds 20 = .ok (.ineg, 1) := by decide +kernel
theorem dX9_refunds_21 : decode cX9_refunds 21 = .ok (.invokevirtual 80, 3) := by decide +kernel
theorem dX9_refunds_24 : decode cX9_refunds 24 = .ok (.aload_n 0, 1) := by decide +kernel
theorem dX9_refunds_25 : decode cX9_refunds 25 = .ok (.iload_n 1, 1) := by decide +kernel
theorem dX9_refunds_26 : decode cX9_refunds 26 = .ok (.bipush 6, 2) := by decide +kernel
theorem dX9_refunds_28 : decode cX9_refunds 28 = .ok (.iload_n 2, 1) := by decide +kernel
theorem dX9_refunds_29 : decode cX9_refunds 29 = .ok (.invokevirtual 80, 3) := by decide +kernel
theorem dX9_refunds_32 : decode cX9_refunds 32 = .ok (.aload_n 0, 1) := by decide +kernel
theorem dX9_refunds_33 : decode cX9_refunds 33 = .ok (.getfield 7, 3) := by decide +kernel
theorem dX9_refunds_36 : decode cX9_refunds 36 = .ok (.iconst 3, 1) := by decide +kernel
theorem dX9_refunds_37 : decode cX9_refunds 37 = .ok (.dup2, 1) := by decide +kernel
theorem dX9_refunds_38 : decode cX9_refunds 38 = .ok (.iaload, 1) := by decide +kernel
theorem dX9_refunds_39 : decode cX9_refunds 39 = .ok (.iload_n 3, 1) := by decide +kernel
theorem dX9_refunds_40 : decode cX9_refunds 40 = .ok (.isub, 1) := by decide +kernel
theorem dX9_refunds_41 : decode cX9_refunds 41 = .ok (.iastore, 1) := by decide +kernel
theorem dX9_refunds_42 : decode cX9_refunds 42 = .ok (.aload_n 0, 1) := by decide +kernel
theorem dX9_refunds_43 : decode cX9_refunds 43 = .ok (.getfield 7, 3) := by decide +kernel
theorem dX9_refunds_46 : decode cX9_refunds 46 = .ok (.sipush 197, 3) := by decide +kernel
theorem dX9_refunds_49 : decode cX9_refunds 49 = .ok (.iload_n 1, 1) := by decide +kernel
theorem dX9_refunds_50 : decode cX9_refunds 50 = .ok (.iadd, 1) := by decide +kernel
theorem dX9_refunds_51 : decode cX9_refunds 51 = .ok (.iaload, 1) := by decide +kernel
theorem dX9_refunds_52 : decode cX9_refunds 52 = .ok (.iconst 1, 1) := by decide +kernel
theorem dX9_refunds_53 : decode cX9_refunds 53 = .ok (.isub, 1) := by decide +kernel
theorem dX9_refunds_54 : decode cX9_refunds 54 = .ok (.istore 5, 2) := by decide +kernel
theorem dX9_refunds_56 : decode cX9_refunds 56 = .ok (.iload 5, 2) := by decide +kernel
theorem dX9_refunds_58 : decode cX9_refunds 58 = .ok (.ifCond .lt 97, 3) := by decide +kernel
theorem dX9_refunds_61 : decode cX9_refunds 61 = .ok (.aload_n 0, 1) := by decide +kernel
theorem dX9_refunds_62 : decode cX9_refunds 62 = .ok (.getfield 7, 3) := by decide +kernel
theorem dX9_refunds_65 : decode cX9_refunds 65 = .ok (.sipush 213, 3) := by decide +kernel
theorem dX9_refunds_68 : decode cX9_refunds 68 = .ok (.bipush 16, 2) := by decide +kernel
theorem dX9_refunds_70 : decode cX9_refunds 70 = .ok (.iload_n 1, 1) := by decide +kernel
theorem dX9_refunds_71 : decode cX9_refunds 71 = .ok (.imul, 1) := by decide +kernel
theorem dX9_refunds_72 : decode cX9_refunds 72 = .ok (.iadd, 1) := by decide +kernel
theorem dX9_refunds_73 : decode cX9_refunds 73 = .ok (.iload 5, 2) := by decide +kernel
theorem dX9_refunds_75 : decode cX9_refunds 75 = .ok (.iadd, 1) := by decide +kernel
theorem dX9_refunds_76 : decode cX9_refunds 76 = .ok (.iaload, 1) := by decide +kernel
theorem dX9_refunds_77 : decode cX9_refunds 77 = .ok (.istore 6, 2) := by decide +kernel
theorem dX9_refunds_79 : decode cX9_refunds 79 = .ok (.iload 4, 2) := by decide +kernel
theorem dX9_refunds_81 : decode cX9_refunds 81 = .ok (.aload_n 0, 1) := by decide +kernel
theorem dX9_refunds_82 : decode cX9_refunds 82 = .ok (.getfield 7, 3) := by decide +kernel
theorem dX9_refunds_85 : decode cX9_refunds 85 = .ok (.sipush 485, 3) := by decide +kernel
theorem dX9_refunds_88 : decode cX9_refunds 88 = .ok (.iload 6, 2) := by decide +kernel
theorem dX9_refunds_90 : decode cX9_refunds 90 = .ok (.iadd, 1) := by decide +kernel
theorem dX9_refunds_91 : decode cX9_refunds 91 = .ok (.iaload, 1) := by decide +kernel
theorem dX9_refunds_92 : decode cX9_refunds 92 = .ok (.invokestatic 67, 3) := by decide +kernel
theorem dX9_refunds_95 : decode cX9_refunds 95 = .ok (.istore 7, 2) := by decide +kernel
theorem dX9_refunds_97 : decode cX9_refunds 97 = .ok (.aload_n 0, 1) := by decide +kernel
theorem dX9_refunds_98 : decode cX9_refunds 98 = .ok (.getfield 7, 3) := by decide +kernel
theorem dX9_refunds_101 : decode cX9_refunds 101 = .ok (.sipush 485, 3) := by decide +kernel
theorem dX9_refunds_104 : decode cX9_refunds 104 = .ok (.iload 6, 2) := by decide +kernel
theorem dX9_refunds_106 : decode cX9_refunds 106 = .ok (.iadd, 1) := by decide +kernel
theorem dX9_refunds_107 : decode cX9_refunds 107 = .ok (.dup2, 1) := by decide +kernel
theorem dX9_refunds_108 : decode cX9_refunds 108 = .ok (.iaload, 1) := by decide +kernel
theorem dX9_refunds_109 : decode cX9_refunds 109 = .ok (.iload 7, 2) := by decide +kernel
theorem dX9_refunds_111 : decode cX9_refunds 111 = .ok (.isub, 1) := by decide +kernel
theorem dX9_refunds_112 : decode cX9_refunds 112 = .ok (.iastore, 1) := by decide +kernel
theorem dX9_refunds_113 : decode cX9_refunds 113 = .ok (.aload_n 0, 1) := by decide +kernel
theorem dX9_refunds_114 : decode cX9_refunds 114 = .ok (.getfield 7, 3) := by decide +kernel
theorem dX9_refunds_117 : decode cX9_refunds 117 = .ok (.sipush 501, 3) := by decide +kernel
theorem dX9_refunds_120 : decode cX9_refunds 120 = .ok (.iconst 2, 1) := by decide +kernel
theorem dX9_refunds_121 : decode cX9_refunds 121 = .ok (.aload_n 0, 1) := by decide +kernel
theorem dX9_refunds_122 : decode cX9_refunds 122 = .ok (.getfield 7, 3) := by decide +kernel
theorem dX9_refunds_125 : decode cX9_refunds 125 = .ok (.sipush 469, 3) := by decide +kernel
theorem dX9_refunds_128 : decode cX9_refunds 128 = .ok (.iload 6, 2) := by decide +kernel
theorem dX9_refunds_130 : decode cX9_refunds 130 = .ok (.iadd, 1) := by decide +kernel
theorem dX9_refunds_131 : decode cX9_refunds 131 = .ok (.iaload, 1) := by decide +kernel
theorem dX9_refunds_132 : decode cX9_refunds 132 = .ok (.imul, 1) := by decide +kernel
theorem dX9_refunds_133 : decode cX9_refunds 133 = .ok (.iadd, 1) := by decide +kernel
theorem dX9_refunds_134 : decode cX9_refunds 134 = .ok (.iconst 1, 1) := by decide +kernel
theorem dX9_refunds_135 : decode cX9_refunds 135 = .ok (.iadd, 1) := by decide +kernel
theorem dX9_refunds_136 : decode cX9_refunds 136 = .ok (.dup2, 1) := by decide +kernel
theorem dX9_refunds_137 : decode cX9_refunds 137 = .ok (.iaload, 1) := by decide +kernel
theorem dX9_refunds_138 : decode cX9_refunds 138 = .ok (.iload 7, 2) := by decide +kernel
theorem dX9_refunds_140 : decode cX9_refunds 140 = .ok (.iadd, 1) := by decide +kernel
theorem dX9_refunds_141 : decode cX9_refunds 141 = .ok (.iastore, 1) := by decide +kernel
theorem dX9_refunds_142 : decode cX9_refunds 142 = .ok (.iload 4, 2) := by decide +kernel
theorem dX9_refunds_144 : decode cX9_refunds 144 = .ok (.iload 7, 2) := by decide +kernel
theorem dX9_refunds_146 : decode cX9_refunds 146 = .ok (.isub, 1) := by decide +kernel
theorem dX9_refunds_147 : decode cX9_refunds 147 = .ok (.istore 4, 2) := by decide +kernel
theorem dX9_refunds_149 : decode cX9_refunds 149 = .ok (.iinc 5 (-1), 3) := by decide +kernel
theorem dX9_refunds_152 : decode cX9_refunds 152 = .ok (.goto (-96), 3) := by decide +kernel
theorem dX9_refunds_155 : decode cX9_refunds 155 = .ok (.return_, 1) := by decide +kernel
theorem dX9_nextOf_0 : decode cX9_nextOf 0 = .ok (.bipush (-9), 2) := by decide +kernel
theorem dX9_nextOf_2 : decode cX9_nextOf 2 = .ok (.istore_n 3, 1) := by decide +kernel
theorem dX9_nextOf_3 : decode cX9_nextOf 3 = .ok (.iconst 0, 1) := by decide +kernel
theorem dX9_nextOf_4 : decode cX9_nextOf 4 = .ok (.istore 4, 2) := by decide +kernel
theorem dX9_nextOf_6 : decode cX9_nextOf 6 = .ok (.iload 4, 2) := by decide +kernel
theorem dX9_nextOf_8 : decode cX9_nextOf 8 = .ok (.aload_n 0, 1) := by decide +kernel
theorem dX9_nextOf_9 : decode cX9_nextOf 9 = .ok (.getfield 7, 3) := by decide +kernel
theorem dX9_nextOf_12 : decode cX9_nextOf 12 = .ok (.iconst 1, 1) := by decide +kernel
theorem dX9_nextOf_13 : decode cX9_nextOf 13 = .ok (.iaload, 1) := by decide +kernel
theorem dX9_nextOf_14 : decode cX9_nextOf 14 = .ok (.if_icmp .ge 82, 3) := by decide +kernel
theorem dX9_nextOf_17 : decode cX9_nextOf 17 = .ok (.aload_n 0, 1) := by decide +kernel
theorem dX9_nextOf_18 : decode cX9_nextOf 18 = .ok (.iload 4, 2) := by decide +kernel
theorem dX9_nextOf_20 : decode cX9_nextOf 20 = .ok (.iconst 0, 1) := by decide +kernel
theorem dX9_nextOf_21 : decode cX9_nextOf 21 = .ok (.invokevirtual 58, 3) := by decide +kernel
theorem dX9_nextOf_24 : decode cX9_nextOf 24 = .ok (.iload_n 1, 1) := by decide +kernel
theorem dX9_nextOf_25 : decode cX9_nextOf 25 = .ok (.if_icmp .ne 28, 3) := by decide +kernel
theorem dX9_nextOf_28 : decode cX9_nextOf 28 = .ok (.aload_n 0, 1) := by decide +kernel
theorem dX9_nextOf_29 : decode cX9_nextOf 29 = .ok (.iload 4, 2) := by decide +kernel
theorem dX9_nextOf_31 : decode cX9_nextOf 31 = .ok (.iconst 3, 1) := by decide +kernel
theorem dX9_nextOf_32 : decode cX9_nextOf 32 = .ok (.invokevirtual 58, 3) := by decide +kernel
theorem dX9_nextOf_35 : decode cX9_nextOf 35 = .ok (.ifCond .ne 18, 3) := by decide +kernel
theorem dX9_nextOf_38 : decode cX9_nextOf 38 = .ok (.aload_n 0, 1) := by decide +kernel
theorem dX9_nextOf_39 : decode cX9_nextOf 39 = .ok (.iload 4, 2) := by decide +kernel
theorem dX9_nextOf_41 : decode cX9_nextOf 41 = .ok (.iconst 1, 1) := by decide +kernel
theorem dX9_nextOf_42 : decode cX9_nextOf 42 = .ok (.invokevirtual 58, 3) := by decide +kernel
theorem dX9_nextOf_45 : decode cX9_nextOf 45 = .ok (.iload_n 2, 1) := by decide +kernel
theorem dX9_nextOf_46 : decode cX9_nextOf 46 = .ok (.if_icmp .le 7, 3) := by decide +kernel
theorem dX9_nextOf_49 : decode cX9_nextOf 49 = .ok (.iconst 1, 1) := by decide +kernel
theorem dX9_nextOf_50 : decode cX9_nextOf 50 = .ok (.goto 4, 3) := by decide +kernel
theorem dX9_nextOf_53 : decode cX9_nextOf 53 = .ok (.iconst 0, 1) := by decide +kernel
theorem dX9_nextOf_54 : decode cX9_nextOf 54 = .ok (.istore 5, 2) := by decide +kernel
theorem dX9_nextOf_56 : decode cX9_nextOf 56 = .ok (.iload 5, 2) := by decide +kernel
theorem dX9_nextOf_58 : decode cX9_nextOf 58 = .ok (.ifCond .eq 30, 3) := by decide +kernel
theorem dX9_nextOf_61 : decode cX9_nextOf 61 = .ok (.iload_n 3, 1) := by decide +kernel
theorem dX9_nextOf_62 : decode cX9_nextOf 62 = .ok (.bipush (-9), 2) := by decide +kernel
theorem dX9_nextOf_64 : decode cX9_nextOf 64 = .ok (.if_icmp .eq 19, 3) := by decide +kernel
theorem dX9_nextOf_67 : decode cX9_nextOf 67 = .ok (.aload_n 0, 1) := by decide +kernel
theorem dX9_nextOf_68 : decode cX9_nextOf 68 = .ok (.iload 4, 2) := by decide +kernel
theorem dX9_nextOf_70 : decode cX9_nextOf 70 = .ok (.iconst 1, 1) := by decide +kernel
theorem dX9_nextOf_71 : decode cX9_nextOf 71 = .ok (.invokevirtual 58, 3) := by decide +kernel
theorem dX9_nextOf_74 : decode cX9_nextOf 74 = .ok (.aload_n 0, 1) := by decide +kernel
theorem dX9_nextOf_75 : decode cX9_nextOf 75 = .ok (.iload_n 3, 1) := by decide +kernel
theorem dX9_nextOf_76 : decode cX9_nextOf 76 = .ok (.iconst 1, 1) := by decide +kernel
theorem dX9_nextOf_77 : decode cX9_nextOf 77 = .ok (.invokevirtual 58, 3) := by decide +kernel
theorem dX9_nextOf_80 : decode cX9_nextOf 80 = .ok (.if_icmp .ge 8, 3) := by decide +kernel
theorem dX9_nextOf_83 : decode cX9_nextOf 83 = .ok (.iload 4, 2) := by decide +kernel
theorem dX9_nextOf_85 : decode cX9_nextOf 85 = .ok (.goto 4, 3) := by decide +kernel
theorem dX9_nextOf_88 : decode cX9_nextOf 88 = .ok (.iload_n 3, 1) := by decide +kernel
theorem dX9_nextOf_89 : decode cX9_nextOf 89 = .ok (.istore_n 3, 1) := by decide +kernel
theorem dX9_nextOf_90 : decode cX9_nextOf 90 = .ok (.iinc 4 1, 3) := by decide +kernel
theorem dX9_nextOf_93 : decode cX9_nextOf 93 = .ok (.goto (-87), 3) := by decide +kernel
theorem dX9_nextOf_96 : decode cX9_nextOf 96 = .ok (.iload_n 3, 1) := by decide +kernel
theorem dX9_nextOf_97 : decode cX9_nextOf 97 = .ok (.ireturn, 1) := by decide +kernel
theorem dX9_startOf_0 : decode cX9_startOf 0 = .ok (.aload_n 0, 1) := by decide +kernel
theorem dX9_startOf_1 : decode cX9_startOf 1 = .ok (.iload_n 1, 1) := by decide +kernel
theorem dX9_startOf_2 : decode cX9_startOf 2 = .ok (.iconst 0, 1) := by decide +kernel
theorem dX9_startOf_3 : decode cX9_startOf 3 = .ok (.invokevirtual 58, 3) := by decide +kernel
theorem dX9_startOf_6 : decode cX9_startOf 6 = .ok (.istore_n 3, 1) := by decide +kernel
theorem dX9_startOf_7 : decode cX9_startOf 7 = .ok (.aload_n 0, 1) := by decide +kernel
theorem dX9_startOf_8 : decode cX9_startOf 8 = .ok (.iload_n 3, 1) := by decide +kernel
theorem dX9_startOf_9 : decode cX9_startOf 9 = .ok (.iconst 4, 1) := by decide +kernel
theorem dX9_startOf_10 : decode cX9_startOf 10 = .ok (.invokevirtual 48, 3) := by decide +kernel
theorem dX9_startOf_13 : decode cX9_startOf 13 = .ok (.iload_n 2, 1) := by decide +kernel
theorem dX9_startOf_14 : decode cX9_startOf 14 = .ok (.iadd, 1) := by decide +kernel
theorem dX9_startOf_15 : decode cX9_startOf 15 = .ok (.istore 4, 2) := by decide +kernel
theorem dX9_startOf_17 : decode cX9_startOf 17 = .ok (.aload_n 0, 1) := by decide +kernel
theorem dX9_startOf_18 : decode cX9_startOf 18 = .ok (.iload_n 3, 1) := by decide +kernel
theorem dX9_startOf_19 : decode cX9_startOf 19 = .ok (.iconst (-1), 1) := by decide +kernel
theorem dX9_startOf_20 : decode cX9_startOf 20 = .ok (.invokevirtual 83, 3) := by decide +kernel
theorem dX9_startOf_23 : decode cX9_startOf 23 = .ok (.istore 5, 2) := by decide +kernel
theorem dX9_startOf_25 : decode cX9_startOf 25 = .ok (.iload 5, 2) := by decide +kernel
theorem dX9_startOf_27 : decode cX9_startOf 27 = .ok (.iload_n 1, 1) := by decide +kernel
theorem dX9_startOf_28 : decode cX9_startOf 28 = .ok (.if_icmp .eq 48, 3) := by decide +kernel
theorem dX9_startOf_31 : decode cX9_startOf 31 = .ok (.iload 4, 2) := by decide +kernel
theorem dX9_startOf_33 : decode cX9_startOf 33 = .ok (.aload_n 0, 1) := by decide +kernel
theorem dX9_startOf_34 : decode cX9_startOf 34 = .ok (.iload 5, 2) := by decide +kernel
theorem dX9_startOf_36 : decode cX9_startOf 36 = .ok (.iconst 1, 1) := by decide +kernel
theorem dX9_startOf_37 : decode cX9_startOf 37 = .ok (.invokevirtual 58, 3) := by decide +kernel
theorem dX9_startOf_40 : decode cX9_startOf 40 = .ok (.invokestatic 86, 3) := by decide +kernel
theorem dX9_startOf_43 : decode cX9_startOf 43 = .ok (.aload_n 0, 1) := by decide +kernel
theorem dX9_startOf_44 : decode cX9_startOf 44 = .ok (.iload_n 3, 1) := by decide +kernel
theorem dX9_startOf_45 : decode cX9_startOf 45 = .ok (.iconst 0, 1) := by decide +kernel
theorem dX9_startOf_46 : decode cX9_startOf 46 = .ok (.invokevirtual 48, 3) := by decide +kernel
theorem dX9_startOf_49 : decode cX9_startOf 49 = .ok (.iadd, 1) := by decide +kernel
theorem dX9_startOf_50 : decode cX9_startOf 50 = .ok (.aload_n 0, 1) := by decide +kernel
theorem dX9_startOf_51 : decode cX9_startOf 51 = .ok (.iload_n 3, 1) := by decide +kernel
theorem dX9_startOf_52 : decode cX9_startOf 52 = .ok (.iconst 1, 1) := by decide +kernel
theorem dX9_startOf_53 : decode cX9_startOf 53 = .ok (.invokevirtual 48, 3) := by decide +kernel
theorem dX9_startOf_56 : decode cX9_startOf 56 = .ok (.iadd, 1) := by decide +kernel
theorem dX9_startOf_57 : decode cX9_startOf 57 = .ok (.istore 4, 2) := by decide +kernel
theorem dX9_startOf_59 : decode cX9_startOf 59 = .ok (.aload_n 0, 1) := by decide +kernel
theorem dX9_startOf_60 : decode cX9_startOf 60 = .ok (.iload_n 3, 1) := by decide +kernel
theorem dX9_startOf_61 : decode cX9_startOf 61 = .ok (.aload_n 0, 1) := by decide +kernel
theorem dX9_startOf_62 : decode cX9_startOf 62 = .ok (.iload 5, 2) := by decide +kernel
theorem dX9_startOf_64 : decode cX9_startOf 64 = .ok (.iconst 1, 1) := by decide +kernel
theorem dX9_startOf_65 : decode cX9_startOf 65 = .ok (.invokevirtual 58, 3) := by decide +kernel
theorem dX9_startOf_68 : decode cX9_startOf 68 = .ok (.invokevirtual 83, 3) := by decide +kernel
theorem dX9_startOf_71 : decode cX9_startOf 71 = .ok (.istore 5, 2) := by decide +kernel
theorem dX9_startOf_73 : decode cX9_startOf 73 = .ok (.goto (-48), 3) := by decide +kernel
theorem dX9_startOf_76 : decode cX9_startOf 76 = .ok (.iload 4, 2) := by decide +kernel
theorem dX9_startOf_78 : decode cX9_startOf 78 = .ok (.aload_n 0, 1) := by decide +kernel
theorem dX9_startOf_79 : decode cX9_startOf 79 = .ok (.iload 5, 2) := by decide +kernel
theorem dX9_startOf_81 : decode cX9_startOf 81 = .ok (.iconst 1, 1) := by decide +kernel
theorem dX9_startOf_82 : decode cX9_startOf 82 = .ok (.invokevirtual 58, 3) := by decide +kernel
theorem dX9_startOf_85 : decode cX9_startOf 85 = .ok (.invokestatic 86, 3) := by decide +kernel
theorem dX9_startOf_88 : decode cX9_startOf 88 = .ok (.ireturn, 1) := by decide +kernel
theorem dX9_shareOf_0 : decode cX9_shareOf 0 = .ok (.iload_n 2, 1) := by decide +kernel
theorem dX9_shareOf_1 : decode cX9_shareOf 1 = .ok (.aload_n 0, 1) := by decide +kernel
theorem dX9_shareOf_2 : decode cX9_shareOf 2 = .ok (.getfield 7, 3) := by decide +kernel
theorem dX9_shareOf_5 : decode cX9_shareOf 5 = .ok (.bipush 7, 2) := by decide +kernel
theorem dX9_shareOf_7 : decode cX9_shareOf 7 = .ok (.iaload, 1) := by decide +kernel
theorem dX9_shareOf_8 : decode cX9_shareOf 8 = .ok (.isub, 1) := by decide +kernel
theorem dX9_shareOf_9 : decode cX9_shareOf 9 = .ok (.istore_n 3, 1) := by decide +kernel
theorem dX9_shareOf_10 : decode cX9_shareOf 10 = .ok (.iload_n 3, 1) := by decide +kernel
theorem dX9_shareOf_11 : decode cX9_shareOf 11 = .ok (.ifCond .gt 7, 3) := by decide +kernel
theorem dX9_shareOf_14 : decode cX9_shareOf 14 = .ok (.iconst 0, 1) := by decide +kernel
theorem dX9_shareOf_15 : decode cX9_shareOf 15 = .ok (.goto 28, 3) := by decide +kernel
theorem dX9_shareOf_18 : decode cX9_shareOf 18 = .ok (.iload_n 1, 1) := by decide +kernel
theorem dX9_shareOf_19 : decode cX9_shareOf 19 = .ok (.bipush 100, 2) := by decide +kernel
theorem dX9_shareOf_21 : decode cX9_shareOf 21 = .ok (.iload_n 3, 1) := by decide +kernel
theorem dX9_shareOf_22 : decode cX9_shareOf 22 = .ok (.bipush 9, 2) := by decide +kernel
theorem dX9_shareOf_24 : decode cX9_shareOf 24 = .ok (.iadd, 1) := by decide +kernel
theorem dX9_shareOf_25 : decode cX9_shareOf 25 = .ok (.bipush 10, 2) := by decide +kernel
theorem dX9_shareOf_27 : decode cX9_shareOf 27 = .ok (.idiv, 1) := by decide +kernel
theorem dX9_shareOf_28 : decode cX9_shareOf 28 = .ok (.aload_n 0, 1) := by decide +kernel
theorem dX9_shareOf_29 : decode cX9_shareOf 29 = .ok (.getfield 7, 3) := by decide +kernel
theorem dX9_shareOf_32 : decode cX9_shareOf 32 = .ok (.bipush 8, 2) := by decide +kernel
theorem dX9_shareOf_34 : decode cX9_shareOf 34 = .ok (.iaload, 1) := by decide +kernel
theorem dX9_shareOf_35 : decode cX9_shareOf 35 = .ok (.imul, 1) := by decide +kernel
theorem dX9_shareOf_36 : decode cX9_shareOf 36 = .ok (.invokestatic 67, 3) := by decide +kernel
theorem dX9_shareOf_39 : decode cX9_shareOf 39 = .ok (.imul, 1) := by decide +kernel
theorem dX9_shareOf_40 : decode cX9_shareOf 40 = .ok (.bipush 100, 2) := by decide +kernel
theorem dX9_shareOf_42 : decode cX9_shareOf 42 = .ok (.idiv, 1) := by decide +kernel
theorem dX9_shareOf_43 : decode cX9_shareOf 43 = .ok (.ireturn, 1) := by decide +kernel
theorem dX9_doDrop_0 : decode cX9_doDrop 0 = .ok (.aload_n 0, 1) := by decide +kernel
theorem dX9_doDrop_1 : decode cX9_doDrop 1 = .ok (.iload_n 1, 1) := by decide +kernel
theorem dX9_doDrop_2 : decode cX9_doDrop 2 = .ok (.invokevirtual 77, 3) := by decide +kernel
theorem dX9_doDrop_5 : decode cX9_doDrop 5 = .ok (.ifCond .ne 5, 3) := by decide +kernel
theorem dX9_doDrop_8 : decode cX9_doDrop 8 = .ok (.iconst (-1), 1) := by decide +kernel
theorem dX9_doDrop_9 : decode cX9_doDrop 9 = .ok (.ireturn, 1) := by decide +kernel
theorem dX9_doDrop_10 : decode cX9_doDrop 10 = .ok (.aload_n 0, 1) := by decide +kernel
theorem dX9_doDrop_11 : decode cX9_doDrop 11 = .ok (.iload_n 1, 1) := by decide +kernel
theorem dX9_doDrop_12 : decode cX9_doDrop 12 = .ok (.iconst 3, 1) := by decide +kernel
theorem dX9_doDrop_13 : decode cX9_doDrop 13 = .ok (.invokevirtual 58, 3) := by decide +kernel
theorem dX9_doDrop_16 : decode cX9_doDrop 16 = .ok (.ifCond .eq 6, 3) := by decide +kernel
theorem dX9_doDrop_19 : decode cX9_doDrop 19 = .ok (.bipush (-2), 2) := by decide +kernel
theorem dX9_doDrop_21 : decode cX9_doDrop 21 = .ok (.ireturn, 1) := by decide +kernel
theorem dX9_doDrop_22 : decode cX9_doDrop 22 = .ok (.aload_n 0, 1) := by decide +kernel
theorem dX9_doDrop_23 : decode cX9_doDrop 23 = .ok (.iload_n 1, 1) := by decide +kernel
theorem dX9_doDrop_24 : decode cX9_doDrop 24 = .ok (.iconst 5, 1) := by decide +kernel
theorem dX9_doDrop_25 : decode cX9_doDrop 25 = .ok (.invokevirtual 58, 3) := by decide +kernel
theorem dX9_doDrop_28 : decode cX9_doDrop 28 = .ok (.aload_n 0, 1) := by decide +kernel
theorem dX9_doDrop_29 : decode cX9_doDrop 29 = .ok (.iload_n 1, 1) := by decide +kernel
theorem dX9_doDrop_30 : decode cX9_doDrop 30 = .ok (.invokevirtual 89, 3) := by decide +kernel
theorem dX9_doDrop_33 : decode cX9_doDrop 33 = .ok (.iadd, 1) := by decide +kernel
theorem dX9_doDrop_34 : decode cX9_doDrop 34 = .ok (.istore_n 2, 1) := by decide +kernel
theorem dX9_doDrop_35 : decode cX9_doDrop 35 = .ok (.aload_n 0, 1) := by decide +kernel
theorem dX9_doDrop_36 : decode cX9_doDrop 36 = .ok (.iload_n 1, 1) := by decide +kernel
theorem dX9_doDrop_37 : decode cX9_doDrop 37 = .ok (.iconst 0, 1) := by decide +kernel
theorem dX9_doDrop_38 : decode cX9_doDrop 38 = .ok (.invokevirtual 92, 3) := by decide +kernel
theorem dX9_doDrop_41 : decode cX9_doDrop 41 = .ok (.aload_n 0, 1) := by decide +kernel
theorem dX9_doDrop_42 : decode cX9_doDrop 42 = .ok (.iload_n 1, 1) := by decide +kernel
theorem dX9_doDrop_43 : decode cX9_doDrop 43 = .ok (.iconst 1, 1) := by decide +kernel
theorem dX9_doDrop_44 : decode cX9_doDrop 44 = .ok (.invokevirtual 58, 3) := by decide +kernel
theorem dX9_doDrop_47 : decode cX9_doDrop 47 = .ok (.isub, 1) := by decide +kernel
theorem dX9_doDrop_48 : decode cX9_doDrop 48 = .ok (.aload_n 0, 1) := by decide +kernel
theorem dX9_doDrop_49 : decode cX9_doDrop 49 = .ok (.getfield 7, 3) := by decide +kernel
theorem dX9_doDrop_52 : decode cX9_doDrop 52 = .ok (.bipush 7, 2) := by decide +kernel
theorem dX9_doDrop_54 : decode cX9_doDrop 54 = .ok (.iaload, 1) := by decide +kernel
theorem dX9_doDrop_55 : decode cX9_doDrop 55 = .ok (.if_icmp .le 7, 3) := by decide +kernel
theorem dX9_doDrop_58 : decode cX9_doDrop 58 = .ok (.iload_n 2, 1) := by decide +kernel
theorem dX9_doDrop_59 : decode cX9_doDrop 59 = .ok (.goto 6, 3) := by decide +kernel
theorem dX9_doDrop_62 : decode cX9_doDrop 62 = .ok (.iload_n 2, 1) := by decide +kernel
theorem dX9_doDrop_63 : decode cX9_doDrop 63 = .ok (.iconst 2, 1) := by decide +kernel
theorem dX9_doDrop_64 : decode cX9_doDrop 64 = .ok (.idiv, 1) := by decide +kernel
theorem dX9_doDrop_65 : decode cX9_doDrop 65 = .ok (.istore_n 3, 1) := by decide +kernel
theorem dX9_doDrop_66 : decode cX9_doDrop 66 = .ok (.aload_n 0, 1) := by decide +kernel
theorem dX9_doDrop_67 : decode cX9_doDrop 67 = .ok (.iload_n 1, 1) := by decide +kernel
theorem dX9_doDrop_68 : decode cX9_doDrop 68 = .ok (.iload_n 3, 1) := by decide +kernel
theorem dX9_doDrop_69 : decode cX9_doDrop 69 = .ok (.invokevirtual 95, 3) := by decide +kernel
theorem dX9_doDrop_72 : decode cX9_doDrop 72 = .ok (.aload_n 0, 1) := by decide +kernel
theorem dX9_doDrop_73 : decode cX9_doDrop 73 = .ok (.iload_n 1, 1) := by decide +kernel
theorem dX9_doDrop_74 : decode cX9_doDrop 74 = .ok (.iconst 3, 1) := by decide +kernel
theorem dX9_doDrop_75 : decode cX9_doDrop 75 = .ok (.iconst 2, 1) := by decide +kernel
theorem dX9_doDrop_76 : decode cX9_doDrop 76 = .ok (.invokevirtual 70, 3) := by decide +kernel
theorem dX9_doDrop_79 : decode cX9_doDrop 79 = .ok (.iload_n 3, 1) := by decide +kernel
theorem dX9_doDrop_80 : decode cX9_doDrop 80 = .ok (.ireturn, 1) := by decide +kernel
theorem dX9_cancel_0 : decode cX9_cancel 0 = .ok (.aload_n 0, 1) := by decide +kernel
theorem dX9_cancel_1 : decode cX9_cancel 1 = .ok (.invokevirtual 33, 3) := by decide +kernel
theorem dX9_cancel_4 : decode cX9_cancel 4 = .ok (.aload_n 0, 1) := by decide +kernel
theorem dX9_cancel_5 : decode cX9_cancel 5 = .ok (.aload_n 0, 1) := by decide +kernel
theorem dX9_cancel_6 : decode cX9_cancel 6 = .ok (.iload_n 1, 1) := by decide +kernel
theorem dX9_cancel_7 : decode cX9_cancel 7 = .ok (.invokevirtual 99, 3) := by decide +kernel
theorem dX9_cancel_10 : decode cX9_cancel 10 = .ok (.invokevirtual 40, 3) := by decide +kernel
theorem dX9_cancel_13 : decode cX9_cancel 13 = .ok (.ireturn, 1) := by decide +kernel
theorem dX9_doJoin_0 : decode cX9_doJoin 0 = .ok (.aload_n 0, 1) := by decide +kernel
theorem dX9_doJoin_1 : decode cX9_doJoin 1 = .ok (.iload_n 1, 1) := by decide +kernel
theorem dX9_doJoin_2 : decode cX9_doJoin 2 = .ok (.invokevirtual 77, 3) := by decide +kernel
theorem dX9_doJoin_5 : decode cX9_doJoin 5 = .ok (.ifCond .eq 16, 3) := by decide +kernel
theorem dX9_doJoin_8 : decode cX9_doJoin 8 = .ok (.aload_n 0, 1) := by decide +kernel
theorem dX9_doJoin_9 : decode cX9_doJoin 9 = .ok (.iload_n 2, 1) := by decide +kernel
theorem dX9_doJoin_10 : decode cX9_doJoin 10 = .ok (.invokevirtual 77, 3) := by decide +kernel
theorem dX9_doJoin_13 : decode cX9_doJoin 13 = .ok (.ifCond .eq 8, 3) := by decide +kernel
theorem dX9_doJoin_16 : decode cX9_doJoin 16 = .ok (.iload_n 1, 1) := by decide +kernel
theorem dX9_doJoin_17 : decode cX9_doJoin 17 = .ok (.iload_n 2, 1) := by decide +kernel
theorem dX9_doJoin_18 : decode cX9_doJoin 18 = .ok (.if_icmp .ne 5, 3) := by decide +kernel
theorem dX9_doJoin_21 : decode cX9_doJoin 21 = .ok (.iconst (-1), 1) := by decide +kernel
theorem dX9_doJoin_22 : decode cX9_doJoin 22 = .ok (.ireturn, 1) := by decide +kernel
theorem dX9_doJoin_23 : decode cX9_doJoin 23 = .ok (.aload_n 0, 1) := by decide +kernel
theorem dX9_doJoin_24 : decode cX9_doJoin 24 = .ok (.iload_n 1, 1) := by decide +kernel
theorem dX9_doJoin_25 : decode cX9_doJoin 25 = .ok (.iconst 3, 1) := by decide +kernel
theorem dX9_doJoin_26 : decode cX9_doJoin 26 = .ok (.invokevirtual 58, 3) := by decide +kernel
theorem dX9_doJoin_29 : decode cX9_doJoin 29 = .ok (.ifCond .ne 27, 3) := by decide +kernel
theorem dX9_doJoin_32 : decode cX9_doJoin 32 = .ok (.aload_n 0, 1) := by decide +kernel
theorem dX9_doJoin_33 : decode cX9_doJoin 33 = .ok (.iload_n 2, 1) := by decide +kernel
theorem dX9_doJoin_34 : decode cX9_doJoin 34 = .ok (.iconst 3, 1) := by decide +kernel
theorem dX9_doJoin_35 : decode cX9_doJoin 35 = .ok (.invokevirtual 58, 3) := by decide +kernel
theorem dX9_doJoin_38 : decode cX9_doJoin 38 = .ok (.ifCond .ne 18, 3) := by decide +kernel
theorem dX9_doJoin_41 : decode cX9_doJoin 41 = .ok (.aload_n 0, 1) := by decide +kernel
theorem dX9_doJoin_42 : decode cX9_doJoin 42 = .ok (.iload_n 1, 1) := by decide +kernel
theorem dX9_doJoin_43 : decode cX9_doJoin 43 = .ok (.iconst 0, 1) := by decide +kernel
theorem dX9_doJoin_44 : decode cX9_doJoin 44 = .ok (.invokevirtual 58, 3) := by decide +kernel
theorem dX9_doJoin_47 : decode cX9_doJoin 47 = .ok (.aload_n 0, 1) := by decide +kernel
theorem dX9_doJoin_48 : decode cX9_doJoin 48 = .ok (.iload_n 2, 1) := by decide +kernel
theorem dX9_doJoin_49 : decode cX9_doJoin 49 = .ok (.iconst 0, 1) := by decide +kernel
theorem dX9_doJoin_50 : decode cX9_doJoin 50 = .ok (.invokevirtual 58, 3) := by decide +kernel
theorem dX9_doJoin_53 : decode cX9_doJoin 53 = .ok (.if_icmp .eq 6, 3) := by decide +kernel
theorem dX9_doJoin_56 : decode cX9_doJoin 56 = .ok (.bipush (-2), 2) := by decide +kernel
theorem dX9_doJoin_58 : decode cX9_doJoin 58 = .ok (.ireturn, 1) := by decide +kernel
theorem dX9_doJoin_59 : decode cX9_doJoin 59 = .ok (.aload_n 0, 1) := by decide +kernel
theorem dX9_doJoin_60 : decode cX9_doJoin 60 = .ok (.iload_n 1, 1) := by decide +kernel
theorem dX9_doJoin_61 : decode cX9_doJoin 61 = .ok (.iconst 2, 1) := by decide +kernel
theorem dX9_doJoin_62 : decode cX9_doJoin 62 = .ok (.invokevirtual 58, 3) := by decide +kernel
theorem dX9_doJoin_65 : decode cX9_doJoin 65 = .ok (.aload_n 0, 1) := by decide +kernel
theorem dX9_doJoin_66 : decode cX9_doJoin 66 = .ok (.iload_n 2, 1) := by decide +kernel
theorem dX9_doJoin_67 : decode cX9_doJoin 67 = .ok (.iconst 2, 1) := by decide +kernel
theorem dX9_doJoin_68 : decode cX9_doJoin 68 = .ok (.invokevirtual 58, 3) := by decide +kernel
theorem dX9_doJoin_71 : decode cX9_doJoin 71 = .ok (.iadd, 1) := by decide +kernel
theorem dX9_doJoin_72 : decode cX9_doJoin 72 = .ok (.aload_n 0, 1) := by decide +kernel
theorem dX9_doJoin_73 : decode cX9_doJoin 73 = .ok (.aload_n 0, 1) := by decide +kernel
theorem dX9_doJoin_74 : decode cX9_doJoin 74 = .ok (.iload_n 1, 1) := by decide +kernel
theorem dX9_doJoin_75 : decode cX9_doJoin 75 = .ok (.iconst 0, 1) := by decide +kernel
theorem dX9_doJoin_76 : decode cX9_doJoin 76 = .ok (.invokevirtual 58, 3) := by decide +kernel
theorem dX9_doJoin_79 : decode cX9_doJoin 79 = .ok (.iconst 3, 1) := by decide +kernel
theorem dX9_doJoin_80 : decode cX9_doJoin 80 = .ok (.invokevirtual 48, 3) := by decide +kernel
theorem dX9_doJoin_83 : decode cX9_doJoin 83 = .ok (.if_icmp .le 6, 3) := by decide +kernel
theorem dX9_doJoin_86 : decode cX9_doJoin 86 = .ok (.bipush (-3), 2) := by decide +kernel
theorem dX9_doJoin_88 : decode cX9_doJoin 88 = .ok (.ireturn, 1) := by decide +kernel
theorem dX9_doJoin_89 : decode cX9_doJoin 89 = .ok (.aload_n 0, 1) := by decide +kernel
theorem dX9_doJoin_90 : decode cX9_doJoin 90 = .ok (.iload_n 2, 1) := by decide +kernel
theorem dX9_doJoin_91 : decode cX9_doJoin 91 = .ok (.iconst 2, 1) := by decide +kernel
theorem dX9_doJoin_92 : decode cX9_doJoin 92 = .ok (.aload_n 0, 1) := by decide +kernel
theorem dX9_doJoin_93 : decode cX9_doJoin 93 = .ok (.iload_n 1, 1) := by decide +kernel
theorem dX9_doJoin_94 : decode cX9_doJoin 94 = .ok (.iconst 2, 1) := by decide +kernel
theorem dX9_doJoin_95 : decode cX9_doJoin 95 = .ok (.invokevirtual 58, 3) := by decide +kernel
theorem dX9_doJoin_98 : decode cX9_doJoin 98 = .ok (.invokevirtual 80, 3) := by decide +kernel
theorem dX9_doJoin_101 : decode cX9_doJoin 101 = .ok (.aload_n 0, 1) := by decide +kernel
theorem dX9_doJoin_102 : decode cX9_doJoin 102 = .ok (.iload_n 2, 1) := by decide +kernel
theorem dX9_doJoin_103 : decode cX9_doJoin 103 = .ok (.iconst 4, 1) := by decide +kernel
theorem dX9_doJoin_104 : decode cX9_doJoin 104 = .ok (.aload_n 0, 1) := by decide +kernel
theorem dX9_doJoin_105 : decode cX9_doJoin 105 = .ok (.iload_n 1, 1) := by decide +kernel
theorem dX9_doJoin_106 : decode cX9_doJoin 106 = .ok (.iconst 4, 1) := by decide +kernel
theorem dX9_doJoin_107 : decode cX9_doJoin 107 = .ok (.invokevirtual 58, 3) := by decide +kernel
theorem dX9_doJoin_110 : decode cX9_doJoin 110 = .ok (.invokevirtual 80, 3) := by decide +kernel
theorem dX9_doJoin_113 : decode cX9_doJoin 113 = .ok (.aload_n 0, 1) := by decide +kernel
theorem dX9_doJoin_114 : decode cX9_doJoin 114 = .ok (.iload_n 2, 1) := by decide +kernel
theorem dX9_doJoin_115 : decode cX9_doJoin 115 = .ok (.iconst 5, 1) := by decide +kernel
theorem dX9_doJoin_116 : decode cX9_doJoin 116 = .ok (.aload_n 0, 1) := by decide +kernel
theorem dX9_doJoin_117 : decode cX9_doJoin 117 = .ok (.iload_n 1, 1) := by decide +kernel
theorem dX9_doJoin_118 : decode cX9_doJoin 118 = .ok (.iconst 5, 1) := by decide +kernel
theorem dX9_doJoin_119 : decode cX9_doJoin 119 = .ok (.invokevirtual 58, 3) := by decide +kernel
theorem dX9_doJoin_122 : decode cX9_doJoin 122 = .ok (.invokevirtual 80, 3) := by decide +kernel
theorem dX9_doJoin_125 : decode cX9_doJoin 125 = .ok (.iconst 0, 1) := by decide +kernel
theorem dX9_doJoin_126 : decode cX9_doJoin 126 = .ok (.istore_n 3, 1) := by decide +kernel
theorem dX9_doJoin_127 : decode cX9_doJoin 127 = .ok (.iload_n 3, 1) := by decide +kernel
theorem dX9_doJoin_128 : decode cX9_doJoin 128 = .ok (.aload_n 0, 1) := by decide +kernel
theorem dX9_doJoin_129 : decode cX9_doJoin 129 = .ok (.getfield 7, 3) := by decide +kernel
theorem dX9_doJoin_132 : decode cX9_doJoin 132 = .ok (.sipush 197, 3) := by decide +kernel
theorem dX9_doJoin_135 : decode cX9_doJoin 135 = .ok (.iload_n 1, 1) := by decide +kernel
theorem dX9_doJoin_136 : decode cX9_doJoin 136 = .ok (.iadd, 1) := by decide +kernel
theorem dX9_doJoin_137 : decode cX9_doJoin 137 = .ok (.iaload, 1) := by decide +kernel
theorem dX9_doJoin_138 : decode cX9_doJoin 138 = .ok (.if_icmp .ge 62, 3) := by decide +kernel
theorem dX9_doJoin_141 : decode cX9_doJoin 141 = .ok (.aload_n 0, 1) := by decide +kernel
theorem dX9_doJoin_142 : decode cX9_doJoin 142 = .ok (.getfield 7, 3) := by decide +kernel
theorem dX9_doJoin_145 : decode cX9_doJoin 145 = .ok (.sipush 213, 3) := by decide +kernel
theorem dX9_doJoin_148 : decode cX9_doJoin 148 = .ok (.bipush 16, 2) := by decide +kernel
theorem dX9_doJoin_150 : decode cX9_doJoin 150 = .ok (.iload_n 2, 1) := by decide +kernel
theorem dX9_doJoin_151 : decode cX9_doJoin 151 = .ok (.imul, 1) := by decide +kernel
theorem dX9_doJoin_152 : decode cX9_doJoin 152 = .ok (.iadd, 1) := by decide +kernel
theorem dX9_doJoin_153 : decode cX9_doJoin 153 = .ok (.aload_n 0, 1) := by decide +kernel
theorem dX9_doJoin_154 : decode cX9_doJoin 154 = .ok (.getfield 7, 3) := by decide +kernel
theorem dX9_doJoin_157 : decode cX9_doJoin 157 = .ok (.sipush 197, 3) := by decide +kernel
theorem dX9_doJoin_160 : decode cX9_doJoin 160 = .ok (.iload_n 2, 1) := by decide +kernel
theorem dX9_doJoin_161 : decode cX9_doJoin 161 = .ok (.iadd, 1) := by decide +kernel
theorem dX9_doJoin_162 : decode cX9_doJoin 162 = .ok (.iaload, 1) := by decide +kernel
theorem dX9_doJoin_163 : decode cX9_doJoin 163 = .ok (.iadd, 1) := by decide +kernel
theorem dX9_doJoin_164 : decode cX9_doJoin 164 = .ok (.aload_n 0, 1) := by decide +kernel
theorem dX9_doJoin_165 : decode cX9_doJoin 165 = .ok (.getfield 7, 3) := by decide +kernel
theorem dX9_doJoin_168 : decode cX9_doJoin 168 = .ok (.sipush 213, 3) := by decide +kernel
theorem dX9_doJoin_171 : decode cX9_doJoin 171 = .ok (.bipush 16, 2) := by decide +kernel
theorem dX9_doJoin_173 : decode cX9_doJoin 173 = .ok (.iload_n 1, 1) := by decide +kernel
theorem dX9_doJoin_174 : decode cX9_doJoin 174 = .ok (.imul, 1) := by decide +kernel
theorem dX9_doJoin_175 : decode cX9_doJoin 175 = .ok (.iadd, 1) := by decide +kernel
theorem dX9_doJoin_176 : decode cX9_doJoin 176 = .ok (.iload_n 3, 1) := by decide +kernel
theorem dX9_doJoin_177 : decode cX9_doJoin 177 = .ok (.iadd, 1) := by decide +kernel
theorem dX9_doJoin_178 : decode cX9_doJoin 178 = .ok (.iaload, 1) := by decide +kernel
theorem dX9_doJoin_179 : decode cX9_doJoin 179 = .ok (.iastore, 1) := by decide +kernel
theorem dX9_doJoin_180 : decode cX9_doJoin 180 = .ok (.aload_n 0, 1) := by decide +kernel
theorem dX9_doJoin_181 : decode cX9_doJoin 181 = .ok (.getfield 7, 3) := by decide +kernel
theorem dX9_doJoin_184 : decode cX9_doJoin 184 = .ok (.sipush 197, 3) := by decide +kernel
theorem dX9_doJoin_187 : decode cX9_doJoin 187 = .ok (.iload_n 2, 1) := by decide +kernel
theorem dX9_doJoin_188 : decode cX9_doJoin 188 = .ok (.iadd, 1) := by decide +kernel
theorem dX9_doJoin_189 : decode cX9_doJoin 189 = .ok (.dup2, 1) := by decide +kernel
theorem dX9_doJoin_190 : decode cX9_doJoin 190 = .ok (.iaload, 1) := by decide +kernel
theorem dX9_doJoin_191 : decode cX9_doJoin 191 = .ok (.iconst 1, 1) := by decide +kernel
theorem dX9_doJoin_192 : decode cX9_doJoin 192 = .ok (.iadd, 1) := by decide +kernel
theorem dX9_doJoin_193 : decode cX9_doJoin 193 = .ok (.iastore, 1) := by decide +kernel
theorem dX9_doJoin_194 : decode cX9_doJoin 194 = .ok (.iinc 3 1, 3) := by decide +kernel
theorem dX9_doJoin_197 : decode cX9_doJoin 197 = .ok (.goto (-70), 3) := by decide +kernel
theorem dX9_doJoin_200 : decode cX9_doJoin 200 = .ok (.aload_n 0, 1) := by decide +kernel
theorem dX9_doJoin_201 : decode cX9_doJoin 201 = .ok (.getfield 7, 3) := by decide +kernel
theorem dX9_doJoin_204 : decode cX9_doJoin 204 = .ok (.sipush 197, 3) := by decide +kernel
theorem dX9_doJoin_207 : decode cX9_doJoin 207 = .ok (.iload_n 1, 1) := by decide +kernel
theorem dX9_doJoin_208 : decode cX9_doJoin 208 = .ok (.iadd, 1) := by decide +kernel
theorem dX9_doJoin_209 : decode cX9_doJoin 209 = .ok (.iconst 0, 1) := by decide +kernel
theorem dX9_doJoin_210 : decode cX9_doJoin 210 = .ok (.iastore, 1) := by decide +kernel
theorem dX9_doJoin_211 : decode cX9_doJoin 211 = .ok (.aload_n 0, 1) := by decide +kernel
theorem dX9_doJoin_212 : decode cX9_doJoin 212 = .ok (.iload_n 1, 1) := by decide +kernel
theorem dX9_doJoin_213 : decode cX9_doJoin 213 = .ok (.iconst 2, 1) := by decide +kernel
theorem dX9_doJoin_214 : decode cX9_doJoin 214 = .ok (.iconst 0, 1) := by decide +kernel
theorem dX9_doJoin_215 : decode cX9_doJoin 215 = .ok (.invokevirtual 70, 3) := by decide +kernel
theorem dX9_doJoin_218 : decode cX9_doJoin 218 = .ok (.aload_n 0, 1) := by decide +kernel
theorem dX9_doJoin_219 : decode cX9_doJoin 219 = .ok (.iload_n 1, 1) := by decide +kernel
theorem dX9_doJoin_220 : decode cX9_doJoin 220 = .ok (.iconst 4, 1) := by decide +kernel
theorem dX9_doJoin_221 : decode cX9_doJoin 221 = .ok (.iconst 0, 1) := by decide +kernel
theorem dX9_doJoin_222 : decode cX9_doJoin 222 = .ok (.invokevirtual 70, 3) := by decide +kernel
theorem dX9_doJoin_225 : decode cX9_doJoin 225 = .ok (.aload_n 0, 1) := by decide +kernel
theorem dX9_doJoin_226 : decode cX9_doJoin 226 = .ok (.iload_n 1, 1) := by decide +kernel
theorem dX9_doJoin_227 : decode cX9_doJoin 227 = .ok (.iconst 5, 1) := by decide +kernel
theorem dX9_doJoin_228 : decode cX9_doJoin 228 = .ok (.iconst 0, 1) := by decide +kernel
theorem dX9_doJoin_229 : decode cX9_doJoin 229 = .ok (.invokevirtual 70, 3) := by decide +kernel
theorem dX9_doJoin_232 : decode cX9_doJoin 232 = .ok (.aload_n 0, 1) := by decide +kernel
theorem dX9_doJoin_233 : decode cX9_doJoin 233 = .ok (.iload_n 1, 1) := by decide +kernel
theorem dX9_doJoin_234 : decode cX9_doJoin 234 = .ok (.iconst 3, 1) := by decide +kernel
theorem dX9_doJoin_235 : decode cX9_doJoin 235 = .ok (.iconst 3, 1) := by decide +kernel
theorem dX9_doJoin_236 : decode cX9_doJoin 236 = .ok (.invokevirtual 70, 3) := by decide +kernel
theorem dX9_doJoin_239 : decode cX9_doJoin 239 = .ok (.aload_n 0, 1) := by decide +kernel
theorem dX9_doJoin_240 : decode cX9_doJoin 240 = .ok (.iload_n 2, 1) := by decide +kernel
theorem dX9_doJoin_241 : decode cX9_doJoin 241 = .ok (.iconst 2, 1) := by decide +kernel
theorem dX9_doJoin_242 : decode cX9_doJoin 242 = .ok (.invokevirtual 58, 3) := by decide +kernel
theorem dX9_doJoin_245 : decode cX9_doJoin 245 = .ok (.ireturn, 1) := by decide +kernel
theorem dX9_merge_0 : decode cX9_merge 0 = .ok (.aload_n 0, 1) := by decide +kernel
theorem dX9_merge_1 : decode cX9_merge 1 = .ok (.invokevirtual 33, 3) := by decide +kernel
theorem dX9_merge_4 : decode cX9_merge 4 = .ok (.aload_n 0, 1) := by decide +kernel
theorem dX9_merge_5 : decode cX9_merge 5 = .ok (.aload_n 0, 1) := by decide +kernel
theorem dX9_merge_6 : decode cX9_merge 6 = .ok (.iload_n 1, 1) := by decide +kernel
theorem dX9_merge_7 : decode cX9_merge 7 = .ok (.iload_n 2, 1) := by decide +kernel
theorem dX9_merge_8 : decode cX9_merge 8 = .ok (.invokevirtual 102, 3) := by decide +kernel
theorem dX9_merge_11 : decode cX9_merge 11 = .ok (.invokevirtual 40, 3) := by decide +kernel
theorem dX9_merge_14 : decode cX9_merge 14 = .ok (.ireturn, 1) := by decide +kernel
theorem dX9_counts_0 : decode cX9_counts 0 = .ok (.aload_n 0, 1) := by decide +kernel
theorem dX9_counts_1 : decode cX9_counts 1 = .ok (.getfield 7, 3) := by decide +kernel
theorem dX9_counts_4 : decode cX9_counts 4 = .ok (.bipush 9, 2) := by decide +kernel
theorem dX9_counts_6 : decode cX9_counts 6 = .ok (.bipush 11, 2) := by decide +kernel
theorem dX9_counts_8 : decode cX9_counts 8 = .ok (.iload_n 1, 1) := by decide +kernel
theorem dX9_counts_9 : decode cX9_counts 9 = .ok (.imul, 1) := by decide +kernel
theorem dX9_counts_10 : decode cX9_counts 10 = .ok (.iadd, 1) := by decide +kernel
theorem dX9_counts_11 : decode cX9_counts 11 = .ok (.iload_n 2, 1) := by decide +kernel
theorem dX9_counts_12 : decode cX9_counts 12 = .ok (.iadd, 1) := by decide +kernel
theorem dX9_counts_13 : decode cX9_counts 13 = .ok (.dup2, 1) := by decide +kernel
theorem dX9_counts_14 : decode cX9_counts 14 = .ok (.iaload, 1) := by decide +kernel
theorem dX9_counts_15 : decode cX9_counts 15 = .ok (.iload_n 3, 1) := by decide +kernel
theorem dX9_counts_16 : decode cX9_counts 16 = .ok (.iadd, 1) := by decide +kernel
theorem dX9_counts_17 : decode cX9_counts 17 = .ok (.iastore, 1) := by decide +kernel
theorem dX9_counts_18 : decode cX9_counts 18 = .ok (.return_, 1) := by decide +kernel
theorem dX9_doPlay_0 : decode cX9_doPlay 0 = .ok (.aload_n 0, 1) := by decide +kernel
theorem dX9_doPlay_1 : decode cX9_doPlay 1 = .ok (.iload_n 1, 1) := by decide +kernel
theorem dX9_doPlay_2 : decode cX9_doPlay 2 = .ok (.invokevirtual 77, 3) := by decide +kernel
theorem dX9_doPlay_5 : decode cX9_doPlay 5 = .ok (.ifCond .eq 43, 3) := by decide +kernel
theorem dX9_doPlay_8 : decode cX9_doPlay 8 = .ok (.iload_n 2, 1) := by decide +kernel
theorem dX9_doPlay_9 : decode cX9_doPlay 9 = .ok (.iconst 0, 1) := by decide +kernel
theorem dX9_doPlay_10 : decode cX9_doPlay 10 = .ok (.aload_n 0, 1) := by decide +kernel
theorem dX9_doPlay_11 : decode cX9_doPlay 11 = .ok (.aload_n 0, 1) := by decide +kernel
theorem dX9_doPlay_12 : decode cX9_doPlay 12 = .ok (.iload_n 1, 1) := by decide +kernel
theorem dX9_doPlay_13 : decode cX9_doPlay 13 = .ok (.iconst 0, 1) := by decide +kernel
theorem dX9_doPlay_14 : decode cX9_doPlay 14 = .ok (.invokevirtual 58, 3) := by decide +kernel
theorem dX9_doPlay_17 : decode cX9_doPlay 17 = .ok (.iconst 0, 1) := by decide +kernel
theorem dX9_doPlay_18 : decode cX9_doPlay 18 = .ok (.invokevirtual 48, 3) := by decide +kernel
theorem dX9_doPlay_21 : decode cX9_doPlay 21 = .ok (.invokestatic 29, 3) := by decide +kernel
theorem dX9_doPlay_24 : decode cX9_doPlay 24 = .ok (.ifCond .eq 24, 3) := by decide +kernel
theorem dX9_doPlay_27 : decode cX9_doPlay 27 = .ok (.iload_n 3, 1) := by decide +kernel
theorem dX9_doPlay_28 : decode cX9_doPlay 28 = .ok (.iconst 0, 1) := by decide +kernel
theorem dX9_doPlay_29 : decode cX9_doPlay 29 = .ok (.bipush 20, 2) := by decide +kernel
theorem dX9_doPlay_31 : decode cX9_doPlay 31 = .ok (.invokestatic 29, 3) := by decide +kernel
theorem dX9_doPlay_34 : decode cX9_doPlay 34 = .ok (.ifCond .eq 14, 3) := by decide +kernel
theorem dX9_doPlay_37 : decode cX9_doPlay 37 = .ok (.iload 4, 2) := by decide +kernel
theorem dX9_doPlay_39 : decode cX9_doPlay 39 = .ok (.iconst 0, 1) := by decide +kernel
theorem dX9_doPlay_40 : decode cX9_doPlay 40 = .ok (.bipush 9, 2) := by decide +kernel
theorem dX9_doPlay_42 : decode cX9_doPlay 42 = .ok (.invokestatic 29, 3) := by decide +kernel
theorem dX9_doPlay_45 : decode cX9_doPlay 45 = .ok (.ifCond .ne 5, 3) := by decide +kernel
theorem dX9_doPlay_48 : decode cX9_doPlay 48 = .ok (.iconst (-1), 1) := by decide +kernel
theorem dX9_doPlay_49 : decode cX9_doPlay 49 = .ok (.ireturn, 1) := by decide +kernel
theorem dX9_doPlay_50 : decode cX9_doPlay 50 = .ok (.aload_n 0, 1) := by decide +kernel
theorem dX9_doPlay_51 : decode cX9_doPlay 51 = .ok (.iload_n 1, 1) := by decide +kernel
theorem dX9_doPlay_52 : decode cX9_doPlay 52 = .ok (.iconst 0, 1) := by decide +kernel
theorem dX9_doPlay_53 : decode cX9_doPlay 53 = .ok (.invokevirtual 58, 3) := by decide +kernel
theorem dX9_doPlay_56 : decode cX9_doPlay 56 = .ok (.istore 5, 2) := by decide +kernel
theorem dX9_doPlay_58 : decode cX9_doPlay 58 = .ok (.aload_n 0, 1) := by decide +kernel
theorem dX9_doPlay_59 : decode cX9_doPlay 59 = .ok (.iload_n 1, 1) := by decide +kernel
theorem dX9_doPlay_60 : decode cX9_doPlay 60 = .ok (.iconst 3, 1) := by decide +kernel
theorem dX9_doPlay_61 : decode cX9_doPlay 61 = .ok (.invokevirtual 58, 3) := by decide +kernel
theorem dX9_doPlay_64 : decode cX9_doPlay 64 = .ok (.ifCond .ne 14, 3) := by decide +kernel
theorem dX9_doPlay_67 : decode cX9_doPlay 67 = .ok (.aload_n 0, 1) := by decide +kernel
theorem dX9_doPlay_68 : decode cX9_doPlay 68 = .ok (.iload 5, 2) := by decide +kernel
theorem dX9_doPlay_70 : decode cX9_doPlay 70 = .ok (.iconst (-1), 1) := by decide +kernel
theorem dX9_doPlay_71 : decode cX9_doPlay 71 = .ok (.invokevirtual 83, 3) := by decide +kernel
theorem dX9_doPlay_74 : decode cX9_doPlay 74 = .ok (.iload_n 1, 1) := by decide +kernel
theorem dX9_doPlay_75 : decode cX9_doPlay 75 = .ok (.if_icmp .eq 6, 3) := by decide +kernel
theorem dX9_doPlay_78 : decode cX9_doPlay 78 = .ok (.bipush (-2), 2) := by decide +kernel
theorem dX9_doPlay_80 : decode cX9_doPlay 80 = .ok (.ireturn, 1) := by decide +kernel
theorem dX9_doPlay_81 : decode cX9_doPlay 81 = .ok (.aload_n 0, 1) := by decide +kernel
theorem dX9_doPlay_82 : decode cX9_doPlay 82 = .ok (.iload 5, 2) := by decide +kernel
theorem dX9_doPlay_84 : decode cX9_doPlay 84 = .ok (.iconst 0, 1) := by decide +kernel
theorem dX9_doPlay_85 : decode cX9_doPlay 85 = .ok (.invokevirtual 48, 3) := by decide +kernel
theorem dX9_doPlay_88 : decode cX9_doPlay 88 = .ok (.istore 6, 2) := by decide +kernel
theorem dX9_doPlay_90 : decode cX9_doPlay 90 = .ok (.iload 6, 2) := by decide +kernel
theorem dX9_doPlay_92 : decode cX9_doPlay 92 = .ok (.aload_n 0, 1) := by decide +kernel
theorem dX9_doPlay_93 : decode cX9_doPlay 93 = .ok (.getfield 7, 3) := by decide +kernel
theorem dX9_doPlay_96 : decode cX9_doPlay 96 = .ok (.iconst 5, 1) := by decide +kernel
theorem dX9_doPlay_97 : decode cX9_doPlay 97 = .ok (.iaload, 1) := by decide +kernel
theorem dX9_doPlay_98 : decode cX9_doPlay 98 = .ok (.iadd, 1) := by decide +kernel
theorem dX9_doPlay_99 : decode cX9_doPlay 99 = .ok (.istore 7, 2) := by decide +kernel
theorem dX9_doPlay_101 : decode cX9_doPlay 101 = .ok (.iload_n 2, 1) := by decide +kernel
theorem dX9_doPlay_102 : decode cX9_doPlay 102 = .ok (.iload_n 3, 1) := by decide +kernel
theorem dX9_doPlay_103 : decode cX9_doPlay 103 = .ok (.aload_n 0, 1) := by decide +kernel
theorem dX9_doPlay_104 : decode cX9_doPlay 104 = .ok (.getfield 7, 3) := by decide +kernel
theorem dX9_doPlay_107 : decode cX9_doPlay 107 = .ok (.iconst 4, 1) := by decide +kernel
theorem dX9_doPlay_108 : decode cX9_doPlay 108 = .ok (.iaload, 1) := by decide +kernel
theorem dX9_doPlay_109 : decode cX9_doPlay 109 = .ok (.imul, 1) := by decide +kernel
theorem dX9_doPlay_110 : decode cX9_doPlay 110 = .ok (.iadd, 1) := by decide +kernel
theorem dX9_doPlay_111 : decode cX9_doPlay 111 = .ok (.istore 8, 2) := by decide +kernel
theorem dX9_doPlay_113 : decode cX9_doPlay 113 = .ok (.iload_n 2, 1) := by decide +kernel
theorem dX9_doPlay_114 : decode cX9_doPlay 114 = .ok (.ifCond .ne 8, 3) := by decide +kernel
theorem dX9_doPlay_117 : decode cX9_doPlay 117 = .ok (.iload 6, 2) := by decide +kernel
theorem dX9_doPlay_119 : decode cX9_doPlay 119 = .ok (.goto 10, 3) := by decide +kernel
theorem dX9_doPlay_122 : decode cX9_doPlay 122 = .ok (.iload 8, 2) := by decide +kernel
theorem dX9_doPlay_124 : decode cX9_doPlay 124 = .ok (.iload 7, 2) := by decide +kernel
theorem dX9_doPlay_126 : decode cX9_doPlay 126 = .ok (.invokestatic 67, 3) := by decide +kernel
theorem dX9_doPlay_129 : decode cX9_doPlay 129 = .ok (.istore 9, 2) := by decide +kernel
theorem dX9_doPlay_131 : decode cX9_doPlay 131 = .ok (.aload_n 0, 1) := by decide +kernel
theorem dX9_doPlay_132 : decode cX9_doPlay 132 = .ok (.iload_n 1, 1) := by decide +kernel
theorem dX9_doPlay_133 : decode cX9_doPlay 133 = .ok (.iconst 1, 1) := by decide +kernel
theorem dX9_doPlay_134 : decode cX9_doPlay 134 = .ok (.invokevirtual 58, 3) := by decide +kernel
theorem dX9_doPlay_137 : decode cX9_doPlay 137 = .ok (.aload_n 0, 1) := by decide +kernel
theorem dX9_doPlay_138 : decode cX9_doPlay 138 = .ok (.iload 5, 2) := by decide +kernel
theorem dX9_doPlay_140 : decode cX9_doPlay 140 = .ok (.iconst 4, 1) := by decide +kernel
theorem dX9_doPlay_141 : decode cX9_doPlay 141 = .ok (.invokevirtual 48, 3) := by decide +kernel
theorem dX9_doPlay_144 : decode cX9_doPlay 144 = .ok (.invokestatic 86, 3) := by decide +kernel
theorem dX9_doPlay_147 : decode cX9_doPlay 147 = .ok (.istore 10, 2) := by decide +kernel
theorem dX9_doPlay_149 : decode cX9_doPlay 149 = .ok (.iload 10, 2) := by decide +kernel
theorem dX9_doPlay_151 : decode cX9_doPlay 151 = .ok (.aload_n 0, 1) := by decide +kernel
theorem dX9_doPlay_152 : decode cX9_doPlay 152 = .ok (.iload_n 1, 1) := by decide +kernel
theorem dX9_doPlay_153 : decode cX9_doPlay 153 = .ok (.iconst 1, 1) := by decide +kernel
theorem dX9_doPlay_154 : decode cX9_doPlay 154 = .ok (.invokevirtual 58, 3) := by decide +kernel
theorem dX9_doPlay_157 : decode cX9_doPlay 157 = .ok (.isub, 1) := by decide +kernel
theorem dX9_doPlay_158 : decode cX9_doPlay 158 = .ok (.istore 11, 2) := by decide +kernel
theorem dX9_doPlay_160 : decode cX9_doPlay 160 = .ok (.aload_n 0, 1) := by decide +kernel
theorem dX9_doPlay_161 : decode cX9_doPlay 161 = .ok (.getfield 7, 3) := by decide +kernel
theorem dX9_doPlay_164 : decode cX9_doPlay 164 = .ok (.bipush 9, 2) := by decide +kernel
theorem dX9_doPlay_166 : decode cX9_doPlay 166 = .ok (.bipush 11, 2) := by decide +kernel
theorem dX9_doPlay_168 : decode cX9_doPlay 168 = .ok (.iload 5, 2) := by decide +kernel
theorem dX9_doPlay_170 : decode cX9_doPlay 170 = .ok (.imul, 1) := by decide +kernel
theorem dX9_doPlay_171 : decode cX9_doPlay 171 = .ok (.iadd, 1) := by decide +kernel
theorem dX9_doPlay_172 : decode cX9_doPlay 172 = .ok (.iconst 4, 1) := by decide +kernel
theorem dX9_doPlay_173 : decode cX9_doPlay 173 = .ok (.iadd, 1) := by decide +kernel
theorem dX9_doPlay_174 : decode cX9_doPlay 174 = .ok (.iload 10, 2) := by decide +kernel
theorem dX9_doPlay_176 : decode cX9_doPlay 176 = .ok (.iload 9, 2) := by decide +kernel
theorem dX9_doPlay_178 : decode cX9_doPlay 178 = .ok (.iadd, 1) := by decide +kernel
theorem dX9_doPlay_179 : decode cX9_doPlay 179 = .ok (.aload_n 0, 1) := by decide +kernel
theorem dX9_doPlay_180 : decode cX9_doPlay 180 = .ok (.iload 5, 2) := by decide +kernel
theorem dX9_doPlay_182 : decode cX9_doPlay 182 = .ok (.iconst 1, 1) := by decide +kernel
theorem dX9_doPlay_183 : decode cX9_doPlay 183 = .ok (.invokevirtual 48, 3) := by decide +kernel
theorem dX9_doPlay_186 : decode cX9_doPlay 186 = .ok (.iadd, 1) := by decide +kernel
theorem dX9_doPlay_187 : decode cX9_doPlay 187 = .ok (.iload 4, 2) := by decide +kernel
theorem dX9_doPlay_189 : decode cX9_doPlay 189 = .ok (.aload_n 0, 1) := by decide +kernel
theorem dX9_doPlay_190 : decode cX9_doPlay 190 = .ok (.getfield 7, 3) := by decide +kernel
theorem dX9_doPlay_193 : decode cX9_doPlay 193 = .ok (.bipush 6, 2) := by decide +kernel
theorem dX9_doPlay_195 : decode cX9_doPlay 195 = .ok (.iaload, 1) := by decide +kernel
theorem dX9_doPlay_196 : decode cX9_doPlay 196 = .ok (.imul, 1) := by decide +kernel
theorem dX9_doPlay_197 : decode cX9_doPlay 197 = .ok (.iadd, 1) := by decide +kernel
theorem dX9_doPlay_198 : decode cX9_doPlay 198 = .ok (.iastore, 1) := by decide +kernel
theorem dX9_doPlay_199 : decode cX9_doPlay 199 = .ok (.aload_n 0, 1) := by decide +kernel
theorem dX9_doPlay_200 : decode cX9_doPlay 200 = .ok (.iload 5, 2) := by decide +kernel
theorem dX9_doPlay_202 : decode cX9_doPlay 202 = .ok (.iconst 5, 1) := by decide +kernel
theorem dX9_doPlay_203 : decode cX9_doPlay 203 = .ok (.iconst 1, 1) := by decide +kernel
theorem dX9_doPlay_204 : decode cX9_doPlay 204 = .ok (.invokevirtual 105, 3) := by decide +kernel
theorem dX9_doPlay_207 : decode cX9_doPlay 207 = .ok (.aload_n 0, 1) := by decide +kernel
theorem dX9_doPlay_208 : decode cX9_doPlay 208 = .ok (.iload 5, 2) := by decide +kernel
theorem dX9_doPlay_210 : decode cX9_doPlay 210 = .ok (.bipush 6, 2) := by decide +kernel
theorem dX9_doPlay_212 : decode cX9_doPlay 212 = .ok (.iload_n 2, 1) := by decide +kernel
theorem dX9_doPlay_213 : decode cX9_doPlay 213 = .ok (.ifCond .le 14, 3) := by decide +kernel
theorem dX9_doPlay_216 : decode cX9_doPlay 216 = .ok (.iload 8, 2) := by decide +kernel
theorem dX9_doPlay_218 : decode cX9_doPlay 218 = .ok (.iload 7, 2) := by decide +kernel
theorem dX9_doPlay_220 : decode cX9_doPlay 220 = .ok (.if_icmp .gt 7, 3) := by decide +kernel
theorem dX9_doPlay_223 : decode cX9_doPlay 223 = .ok (.iconst 1, 1) := by decide +kernel
theorem dX9_doPlay_224 : decode cX9_doPlay 224 = .ok (.goto 4, 3) := by decide +kernel
theorem dX9_doPlay_227 : decode cX9_doPlay 227 = .ok (.iconst 0, 1) := by decide +kernel
theorem dX9_doPlay_228 : decode cX9_doPlay 228 = .ok (.invokevirtual 105, 3) := by decide +kernel
theorem dX9_doPlay_231 : decode cX9_doPlay 231 = .ok (.aload_n 0, 1) := by decide +kernel
theorem dX9_doPlay_232 : decode cX9_doPlay 232 = .ok (.iload 5, 2) := by decide +kernel
theorem dX9_doPlay_234 : decode cX9_doPlay 234 = .ok (.bipush 7, 2) := by decide +kernel
theorem dX9_doPlay_236 : decode cX9_doPlay 236 = .ok (.iload_n 3, 1) := by decide +kernel
theorem dX9_doPlay_237 : decode cX9_doPlay 237 = .ok (.invokevirtual 105, 3) := by decide +kernel
theorem dX9_doPlay_240 : decode cX9_doPlay 240 = .ok (.aload_n 0, 1) := by decide +kernel
theorem dX9_doPlay_241 : decode cX9_doPlay 241 = .ok (.iload 5, 2) := by decide +kernel
theorem dX9_doPlay_243 : decode cX9_doPlay 243 = .ok (.bipush 8, 2) := by decide +kernel
theorem dX9_doPlay_245 : decode cX9_doPlay 245 = .ok (.iload 9, 2) := by decide +kernel
theorem dX9_doPlay_247 : decode cX9_doPlay 247 = .ok (.invokevirtual 105, 3) := by decide +kernel
theorem dX9_doPlay_250 : decode cX9_doPlay 250 = .ok (.aload_n 0, 1) := by decide +kernel
theorem dX9_doPlay_251 : decode cX9_doPlay 251 = .ok (.iload 5, 2) := by decide +kernel
theorem dX9_doPlay_253 : decode cX9_doPlay 253 = .ok (.bipush 10, 2) := by decide +kernel
theorem dX9_doPlay_255 : decode cX9_doPlay 255 = .ok (.iload_n 2, 1) := by decide +kernel
theorem dX9_doPlay_256 : decode cX9_doPlay 256 = .ok (.ifCond .le 14, 3) := by decide +kernel
theorem dX9_doPlay_259 : decode cX9_doPlay 259 = .ok (.iload 8, 2) := by decide +kernel
theorem dX9_doPlay_261 : decode cX9_doPlay 261 = .ok (.iload 6, 2) := by decide +kernel
theorem dX9_doPlay_263 : decode cX9_doPlay 263 = .ok (.if_icmp .le 7, 3) := by decide +kernel
theorem dX9_doPlay_266 : decode cX9_doPlay 266 = .ok (.iconst 1, 1) := by decide +kernel
theorem dX9_doPlay_267 : decode cX9_doPlay 267 = .ok (.goto 4, 3) := by decide +kernel
theorem dX9_doPlay_270 : decode cX9_doPlay 270 = .ok (.iconst 0, 1) := by decide +kernel
theorem dX9_doPlay_271 : decode cX9_doPlay 271 = .ok (.invokevirtual 105, 3) := by decide +kernel
theorem dX9_doPlay_274 : decode cX9_doPlay 274 = .ok (.aload_n 0, 1) := by decide +kernel
theorem dX9_doPlay_275 : decode cX9_doPlay 275 = .ok (.getfield 7, 3) := by decide +kernel
theorem dX9_doPlay_278 : decode cX9_doPlay 278 = .ok (.bipush 9, 2) := by decide +kernel
theorem dX9_doPlay_280 : decode cX9_doPlay 280 = .ok (.bipush 11, 2) := by decide +kernel
theorem dX9_doPlay_282 : decode cX9_doPlay 282 = .ok (.iload 5, 2) := by decide +kernel
theorem dX9_doPlay_284 : decode cX9_doPlay 284 = .ok (.imul, 1) := by decide +kernel
theorem dX9_doPlay_285 : decode cX9_doPlay 285 = .ok (.iadd, 1) := by decide +kernel
theorem dX9_doPlay_286 : decode cX9_doPlay 286 = .ok (.bipush 9, 2) := by decide +kernel
theorem dX9_doPlay_288 : decode cX9_doPlay 288 = .ok (.iadd, 1) := by decide +kernel
theorem dX9_doPlay_289 : decode cX9_doPlay 289 = .ok (.aload_n 0, 1) := by decide +kernel
theorem dX9_doPlay_290 : decode cX9_doPlay 290 = .ok (.iload 5, 2) := by decide +kernel
theorem dX9_doPlay_292 : decode cX9_doPlay 292 = .ok (.bipush 9, 2) := by decide +kernel
theorem dX9_doPlay_294 : decode cX9_doPlay 294 = .ok (.invokevirtual 48, 3) := by decide +kernel
theorem dX9_doPlay_297 : decode cX9_doPlay 297 = .ok (.iload 11, 2) := by decide +kernel
theorem dX9_doPlay_299 : decode cX9_doPlay 299 = .ok (.invokestatic 86, 3) := by decide +kernel
theorem dX9_doPlay_302 : decode cX9_doPlay 302 = .ok (.iastore, 1) := by decide +kernel
theorem dX9_doPlay_303 : decode cX9_doPlay 303 = .ok (.aload_n 0, 1) := by decide +kernel
theorem dX9_doPlay_304 : decode cX9_doPlay 304 = .ok (.iload_n 1, 1) := by decide +kernel
theorem dX9_doPlay_305 : decode cX9_doPlay 305 = .ok (.iconst 3, 1) := by decide +kernel
theorem dX9_doPlay_306 : decode cX9_doPlay 306 = .ok (.iconst 1, 1) := by decide +kernel
theorem dX9_doPlay_307 : decode cX9_doPlay 307 = .ok (.invokevirtual 70, 3) := by decide +kernel
theorem dX9_doPlay_310 : decode cX9_doPlay 310 = .ok (.aload_n 0, 1) := by decide +kernel
theorem dX9_doPlay_311 : decode cX9_doPlay 311 = .ok (.iload_n 1, 1) := by decide +kernel
theorem dX9_doPlay_312 : decode cX9_doPlay 312 = .ok (.bipush 7, 2) := by decide +kernel
theorem dX9_doPlay_314 : decode cX9_doPlay 314 = .ok (.iload 10, 2) := by decide +kernel
theorem dX9_doPlay_316 : decode cX9_doPlay 316 = .ok (.invokevirtual 70, 3) := by decide +kernel
theorem dX9_doPlay_319 : decode cX9_doPlay 319 = .ok (.aload_n 0, 1) := by decide +kernel
theorem dX9_doPlay_320 : decode cX9_doPlay 320 = .ok (.iload_n 1, 1) := by decide +kernel
theorem dX9_doPlay_321 : decode cX9_doPlay 321 = .ok (.bipush 8, 2) := by decide +kernel
theorem dX9_doPlay_323 : decode cX9_doPlay 323 = .ok (.iload 9, 2) := by decide +kernel
theorem dX9_doPlay_325 : decode cX9_doPlay 325 = .ok (.invokevirtual 70, 3) := by decide +kernel
theorem dX9_doPlay_328 : decode cX9_doPlay 328 = .ok (.aload_n 0, 1) := by decide +kernel
theorem dX9_doPlay_329 : decode cX9_doPlay 329 = .ok (.iload_n 1, 1) := by decide +kernel
theorem dX9_doPlay_330 : decode cX9_doPlay 330 = .ok (.aload_n 0, 1) := by decide +kernel
theorem dX9_doPlay_331 : decode cX9_doPlay 331 = .ok (.aload_n 0, 1) := by decide +kernel
theorem dX9_doPlay_332 : decode cX9_doPlay 332 = .ok (.iload_n 1, 1) := by decide +kernel
theorem dX9_doPlay_333 : decode cX9_doPlay 333 = .ok (.iconst 4, 1) := by decide +kernel
theorem dX9_doPlay_334 : decode cX9_doPlay 334 = .ok (.invokevirtual 58, 3) := by decide +kernel
theorem dX9_doPlay_337 : decode cX9_doPlay 337 = .ok (.iload 11, 2) := by decide +kernel
theorem dX9_doPlay_339 : decode cX9_doPlay 339 = .ok (.invokevirtual 108, 3) := by decide +kernel
theorem dX9_doPlay_342 : decode cX9_doPlay 342 = .ok (.invokevirtual 95, 3) := by decide +kernel
theorem dX9_doPlay_345 : decode cX9_doPlay 345 = .ok (.iload 9, 2) := by decide +kernel
theorem dX9_doPlay_347 : decode cX9_doPlay 347 = .ok (.ireturn, 1) := by decide +kernel
theorem dX9_play_0 : decode cX9_play 0 = .ok (.aload_n 0, 1) := by decide +kernel
theorem dX9_play_1 : decode cX9_play 1 = .ok (.invokevirtual 33, 3) := by decide +kernel
theorem dX9_play_4 : decode cX9_play 4 = .ok (.aload_n 0, 1) := by decide +kernel
theorem dX9_play_5 : decode cX9_play 5 = .ok (.aload_n 0, 1) := by decide +kernel
theorem dX9_play_6 : decode cX9_play 6 = .ok (.iload_n 1, 1) := by decide +kernel
theorem dX9_play_7 : decode cX9_play 7 = .ok (.iload_n 2, 1) := by decide +kernel
theorem dX9_play_8 : decode cX9_play 8 = .ok (.iload_n 3, 1) := by decide +kernel
theorem dX9_play_9 : decode cX9_play 9 = .ok (.iload 4, 2) := by decide +kernel
theorem dX9_play_11 : decode cX9_play 11 = .ok (.invokevirtual 111, 3) := by decide +kernel
theorem dX9_play_14 : decode cX9_play 14 = .ok (.invokevirtual 40, 3) := by decide +kernel
theorem dX9_play_17 : decode cX9_play 17 = .ok (.ireturn, 1) := by decide +kernel
theorem dX9_take_0 : decode cX9_take 0 = .ok (.iload_n 1, 1) := by decide +kernel
theorem dX9_take_1 : decode cX9_take 1 = .ok (.iconst 0, 1) := by decide +kernel
theorem dX9_take_2 : decode cX9_take 2 = .ok (.iconst 1, 1) := by decide +kernel
theorem dX9_take_3 : decode cX9_take 3 = .ok (.invokestatic 29, 3) := by decide +kernel
theorem dX9_take_6 : decode cX9_take 6 = .ok (.ifCond .ne 5, 3) := by decide +kernel
theorem dX9_take_9 : decode cX9_take 9 = .ok (.iconst (-1), 1) := by decide +kernel
theorem dX9_take_10 : decode cX9_take 10 = .ok (.ireturn, 1) := by decide +kernel
theorem dX9_take_11 : decode cX9_take 11 = .ok (.aload_n 0, 1) := by decide +kernel
theorem dX9_take_12 : decode cX9_take 12 = .ok (.invokevirtual 33, 3) := by decide +kernel
theorem dX9_take_15 : decode cX9_take 15 = .ok (.sipush 517, 3) := by decide +kernel
theorem dX9_take_18 : decode cX9_take 18 = .ok (.sipush 518, 3) := by decide +kernel
theorem dX9_take_21 : decode cX9_take 21 = .ok (.iload_n 1, 1) := by decide +kernel
theorem dX9_take_22 : decode cX9_take 22 = .ok (.imul, 1) := by decide +kernel
theorem dX9_take_23 : decode cX9_take 23 = .ok (.iadd, 1) := by decide +kernel
theorem dX9_take_24 : decode cX9_take 24 = .ok (.istore_n 2, 1) := by decide +kernel
theorem dX9_take_25 : decode cX9_take 25 = .ok (.aload_n 0, 1) := by decide +kernel
theorem dX9_take_26 : decode cX9_take 26 = .ok (.getfield 7, 3) := by decide +kernel
theorem dX9_take_29 : decode cX9_take 29 = .ok (.iload_n 2, 1) := by decide +kernel
theorem dX9_take_30 : decode cX9_take 30 = .ok (.iconst 1, 1) := by decide +kernel
theorem dX9_take_31 : decode cX9_take 31 = .ok (.iastore, 1) := by decide +kernel
theorem dX9_take_32 : decode cX9_take 32 = .ok (.iconst 0, 1) := by decide +kernel
theorem dX9_take_33 : decode cX9_take 33 = .ok (.istore_n 3, 1) := by decide +kernel
theorem dX9_take_34 : decode cX9_take 34 = .ok (.iload_n 3, 1) := by decide +kernel
theorem dX9_take_35 : decode cX9_take 35 = .ok (.sipush 517, 3) := by decide +kernel
theorem dX9_take_38 : decode cX9_take 38 = .ok (.if_icmp .ge 25, 3) := by decide +kernel
theorem dX9_take_41 : decode cX9_take 41 = .ok (.aload_n 0, 1) := by decide +kernel
theorem dX9_take_42 : decode cX9_take 42 = .ok (.getfield 7, 3) := by decide +kernel
theorem dX9_take_45 : decode cX9_take 45 = .ok (.iload_n 2, 1) := by decide +kernel
theorem dX9_take_46 : decode cX9_take 46 = .ok (.iconst 1, 1) := by decide +kernel
theorem dX9_take_47 : decode cX9_take 47 = .ok (.iadd, 1) := by decide +kernel
theorem dX9_take_48 : decode cX9_take 48 = .ok (.iload_n 3, 1) := by decide +kernel
theorem dX9_take_49 : decode cX9_take 49 = .ok (.iadd, 1) := by decide +kernel
theorem dX9_take_50 : decode cX9_take 50 = .ok (.aload_n 0, 1) := by decide +kernel
theorem dX9_take_51 : decode cX9_take 51 = .ok (.getfield 7, 3) := by decide +kernel
theorem dX9_take_54 : decode cX9_take 54 = .ok (.iload_n 3, 1) := by decide +kernel
theorem dX9_take_55 : decode cX9_take 55 = .ok (.iaload, 1) := by decide +kernel
theorem dX9_take_56 : decode cX9_take 56 = .ok (.iastore, 1) := by decide +kernel
theorem dX9_take_57 : decode cX9_take 57 = .ok (.iinc 3 1, 3) := by decide +kernel
theorem dX9_take_60 : decode cX9_take 60 = .ok (.goto (-26), 3) := by decide +kernel
theorem dX9_take_63 : decode cX9_take 63 = .ok (.aload_n 0, 1) := by decide +kernel
theorem dX9_take_64 : decode cX9_take 64 = .ok (.aload_n 0, 1) := by decide +kernel
theorem dX9_take_65 : decode cX9_take 65 = .ok (.getfield 7, 3) := by decide +kernel
theorem dX9_take_68 : decode cX9_take 68 = .ok (.iconst 3, 1) := by decide +kernel
theorem dX9_take_69 : decode cX9_take 69 = .ok (.iaload, 1) := by decide +kernel
theorem dX9_take_70 : decode cX9_take 70 = .ok (.invokevirtual 40, 3) := by decide +kernel
theorem dX9_take_73 : decode cX9_take 73 = .ok (.ireturn, 1) := by decide +kernel
theorem dX9_restore_0 : decode cX9_restore 0 = .ok (.iload_n 1, 1) := by decide +kernel
theorem dX9_restore_1 : decode cX9_restore 1 = .ok (.iconst 0, 1) := by decide +kernel
theorem dX9_restore_2 : decode cX9_restore 2 = .ok (.iconst 1, 1) := by decide +kernel
theorem dX9_restore_3 : decode cX9_restore 3 = .ok (.invokestatic 29, 3) := by decide +kernel
theorem dX9_restore_6 : decode cX9_restore 6 = .ok (.ifCond .ne 5, 3) := by decide +kernel
theorem dX9_restore_9 : decode cX9_restore 9 = .ok (.iconst (-1), 1) := by decide +kernel
theorem dX9_restore_10 : decode cX9_restore 10 = .ok (.ireturn, 1) := by decide +kernel
theorem dX9_restore_11 : decode cX9_restore 11 = .ok (.sipush 517, 3) := by decide +kernel
theorem dX9_restore_14 : decode cX9_restore 14 = .ok (.sipush 518, 3) := by decide +kernel
theorem dX9_restore_17 : decode cX9_restore 17 = .ok (.iload_n 1, 1) := by decide +kernel
theorem dX9_restore_18 : decode cX9_restore 18 = .ok (.imul, 1) := by decide +kernel
theorem dX9_restore_19 : decode cX9_restore 19 = .ok (.iadd, 1) := by decide +kernel
theorem dX9_restore_20 : decode cX9_restore 20 = .ok (.istore_n 2, 1) := by decide +kernel
theorem dX9_restore_21 : decode cX9_restore 21 = .ok (.aload_n 0, 1) := by decide +kernel
theorem dX9_restore_22 : decode cX9_restore 22 = .ok (.getfield 7, 3) := by decide +kernel
theorem dX9_restore_25 : decode cX9_restore 25 = .ok (.iload_n 2, 1) := by decide +kernel
theorem dX9_restore_26 : decode cX9_restore 26 = .ok (.iaload, 1) := by decide +kernel
theorem dX9_restore_27 : decode cX9_restore 27 = .ok (.ifCond .ne 6, 3) := by decide +kernel
theorem dX9_restore_30 : decode cX9_restore 30 = .ok (.bipush (-2), 2) := by decide +kernel
theorem dX9_restore_32 : decode cX9_restore 32 = .ok (.ireturn, 1) := by decide +kernel
theorem dX9_restore_33 : decode cX9_restore 33 = .ok (.aload_n 0, 1) := by decide +kernel
theorem dX9_restore_34 : decode cX9_restore 34 = .ok (.invokevirtual 33, 3) := by decide +kernel
theorem dX9_restore_37 : decode cX9_restore 37 = .ok (.iconst 0, 1) := by decide +kernel
theorem dX9_restore_38 : decode cX9_restore 38 = .ok (.istore_n 3, 1) := by decide +kernel
theorem dX9_restore_39 : decode cX9_restore 39 = .ok (.iload_n 3, 1) := by decide +kernel
theorem dX9_restore_40 : decode cX9_restore 40 = .ok (.sipush 517, 3) := by decide +kernel
theorem dX9_restore_43 : decode cX9_restore 43 = .ok (.if_icmp .ge 25, 3) := by decide +kernel
theorem dX9_restore_46 : decode cX9_restore 46 = .ok (.aload_n 0, 1) := by decide +kernel
theorem dX9_restore_47 : decode cX9_restore 47 = .ok (.getfield 7, 3) := by decide +kernel
theorem dX9_restore_50 : decode cX9_restore 50 = .ok (.iload_n 3, 1) := by decide +kernel
theorem dX9_restore_51 : decode cX9_restore 51 = .ok (.aload_n 0, 1) := by decide +kernel
theorem dX9_restore_52 : decode cX9_restore 52 = .ok (.getfield 7, 3) := by decide +kernel
theorem dX9_restore_55 : decode cX9_restore 55 = .ok (.iload_n 2, 1) := by decide +kernel
theorem dX9_restore_56 : decode cX9_restore 56 = .ok (.iconst 1, 1) := by decide +kernel
theorem dX9_restore_57 : decode cX9_restore 57 = .ok (.iadd, 1) := by decide +kernel
theorem dX9_restore_58 : decode cX9_restore 58 = .ok (.iload_n 3, 1) := by decide +kernel
theorem dX9_restore_59 : decode cX9_restore 59 = .ok (.iadd, 1) := by decide +kernel
theorem dX9_restore_60 : decode cX9_restore 60 = .ok (.iaload, 1) := by decide +kernel
theorem dX9_restore_61 : decode cX9_restore 61 = .ok (.iastore, 1) := by decide +kernel
theorem dX9_restore_62 : decode cX9_restore 62 = .ok (.iinc 3 1, 3) := by decide +kernel
theorem dX9_restore_65 : decode cX9_restore 65 = .ok (.goto (-26), 3) := by decide +kernel
theorem dX9_restore_68 : decode cX9_restore 68 = .ok (.aload_n 0, 1) := by decide +kernel
theorem dX9_restore_69 : decode cX9_restore 69 = .ok (.aload_n 0, 1) := by decide +kernel
theorem dX9_restore_70 : decode cX9_restore 70 = .ok (.getfield 7, 3) := by decide +kernel
theorem dX9_restore_73 : decode cX9_restore 73 = .ok (.iconst 3, 1) := by decide +kernel
theorem dX9_restore_74 : decode cX9_restore 74 = .ok (.iaload, 1) := by decide +kernel
theorem dX9_restore_75 : decode cX9_restore 75 = .ok (.invokevirtual 40, 3) := by decide +kernel
theorem dX9_restore_78 : decode cX9_restore 78 = .ok (.ireturn, 1) := by decide +kernel
theorem dX9_undo_0 : decode cX9_undo 0 = .ok (.aload_n 0, 1) := by decide +kernel
theorem dX9_undo_1 : decode cX9_undo 1 = .ok (.getfield 25, 3) := by decide +kernel
theorem dX9_undo_4 : decode cX9_undo 4 = .ok (.ifCond .ne 6, 3) := by decide +kernel
theorem dX9_undo_7 : decode cX9_undo 7 = .ok (.bipush (-2), 2) := by decide +kernel
theorem dX9_undo_9 : decode cX9_undo 9 = .ok (.ireturn, 1) := by decide +kernel
theorem dX9_undo_10 : decode cX9_undo 10 = .ok (.aload_n 0, 1) := by decide +kernel
theorem dX9_undo_11 : decode cX9_undo 11 = .ok (.dup, 1) := by decide +kernel
theorem dX9_undo_12 : decode cX9_undo 12 = .ok (.getfield 25, 3) := by decide +kernel
theorem dX9_undo_15 : decode cX9_undo 15 = .ok (.iconst 1, 1) := by decide +kernel
theorem dX9_undo_16 : decode cX9_undo 16 = .ok (.isub, 1) := by decide +kernel
theorem dX9_undo_17 : decode cX9_undo 17 = .ok (.putfield 25, 3) := by decide +kernel
theorem dX9_undo_20 : decode cX9_undo 20 = .ok (.iconst 0, 1) := by decide +kernel
theorem dX9_undo_21 : decode cX9_undo 21 = .ok (.istore_n 1, 1) := by decide +kernel
theorem dX9_undo_22 : decode cX9_undo 22 = .ok (.iload_n 1, 1) := by decide +kernel
theorem dX9_undo_23 : decode cX9_undo 23 = .ok (.sipush 1553, 3) := by decide +kernel
theorem dX9_undo_26 : decode cX9_undo 26 = .ok (.if_icmp .ge 30, 3) := by decide +kernel
theorem dX9_undo_29 : decode cX9_undo 29 = .ok (.aload_n 0, 1) := by decide +kernel
theorem dX9_undo_30 : decode cX9_undo 30 = .ok (.getfield 7, 3) := by decide +kernel
theorem dX9_undo_33 : decode cX9_undo 33 = .ok (.iload_n 1, 1) := by decide +kernel
theorem dX9_undo_34 : decode cX9_undo 34 = .ok (.aload_n 0, 1) := by decide +kernel
theorem dX9_undo_35 : decode cX9_undo 35 = .ok (.getfield 13, 3) := by decide +kernel
theorem dX9_undo_38 : decode cX9_undo 38 = .ok (.sipush 1553, 3) := by decide +kernel
theorem dX9_undo_41 : decode cX9_undo 41 = .ok (.aload_n 0, 1) := by decide +kernel
theorem dX9_undo_42 : decode cX9_undo 42 = .ok (.getfield 25, 3) := by decide +kernel
theorem dX9_undo_45 : decode cX9_undo 45 = .ok (.imul, 1) := by decide +kernel
theorem dX9_undo_46 : decode cX9_undo 46 = .ok (.iload_n 1, 1) := by decide +kernel
theorem dX9_undo_47 : decode cX9_undo 47 = .ok (.iadd, 1) := by decide +kernel
theorem dX9_undo_48 : decode cX9_undo 48 = .ok (.iaload, 1) := by decide +kernel
theorem dX9_undo_49 : decode cX9_undo 49 = .ok (.iastore, 1) := by decide +kernel
theorem dX9_undo_50 : decode cX9_undo 50 = .ok (.iinc 1 1, 3) := by decide +kernel
theorem dX9_undo_53 : decode cX9_undo 53 = .ok (.goto (-31), 3) := by decide +kernel
theorem dX9_undo_56 : decode cX9_undo 56 = .ok (.aload_n 0, 1) := by decide +kernel
theorem dX9_undo_57 : decode cX9_undo 57 = .ok (.getfield 25, 3) := by decide +kernel
theorem dX9_undo_60 : decode cX9_undo 60 = .ok (.ireturn, 1) := by decide +kernel
theorem dX9_append_0 : decode cX9_append 0 = .ok (.iload_n 1, 1) := by decide +kernel
theorem dX9_append_1 : decode cX9_append 1 = .ok (.iconst 1, 1) := by decide +kernel
theorem dX9_append_2 : decode cX9_append 2 = .ok (.sipush 255, 3) := by decide +kernel
theorem dX9_append_5 : decode cX9_append 5 = .ok (.invokestatic 29, 3) := by decide +kernel
theorem dX9_append_8 : decode cX9_append 8 = .ok (.ifCond .ne 5, 3) := by decide +kernel
theorem dX9_append_11 : decode cX9_append 11 = .ok (.iconst (-1), 1) := by decide +kernel
theorem dX9_append_12 : decode cX9_append 12 = .ok (.ireturn, 1) := by decide +kernel
theorem dX9_append_13 : decode cX9_append 13 = .ok (.aload_n 0, 1) := by decide +kernel
theorem dX9_append_14 : decode cX9_append 14 = .ok (.getfield 114, 3) := by decide +kernel
theorem dX9_append_17 : decode cX9_append 17 = .ok (.sipush 140, 3) := by decide +kernel
theorem dX9_append_20 : decode cX9_append 20 = .ok (.if_icmp .ne 6, 3) := by decide +kernel
theorem dX9_append_23 : decode cX9_append 23 = .ok (.bipush (-3), 2) := by decide +kernel
theorem dX9_append_25 : decode cX9_append 25 = .ok (.ireturn, 1) := by decide +kernel
theorem dX9_append_26 : decode cX9_append 26 = .ok (.aload_n 0, 1) := by decide +kernel
theorem dX9_append_27 : decode cX9_append 27 = .ok (.getfield 19, 3) := by decide +kernel
theorem dX9_append_30 : decode cX9_append 30 = .ok (.aload_n 0, 1) := by decide +kernel
theorem dX9_append_31 : decode cX9_append 31 = .ok (.getfield 114, 3) := by decide +kernel
theorem dX9_append_34 : decode cX9_append 34 = .ok (.iload_n 1, 1) := by decide +kernel
theorem dX9_append_35 : decode cX9_append 35 = .ok (.iastore, 1) := by decide +kernel
theorem dX9_append_36 : decode cX9_append 36 = .ok (.aload_n 0, 1) := by decide +kernel
theorem dX9_append_37 : decode cX9_append 37 = .ok (.dup, 1) := by decide +kernel
theorem dX9_append_38 : decode cX9_append 38 = .ok (.getfield 114, 3) := by decide +kernel
theorem dX9_append_41 : decode cX9_append 41 = .ok (.iconst 1, 1) := by decide +kernel
theorem dX9_append_42 : decode cX9_append 42 = .ok (.iadd, 1) := by decide +kernel
theorem dX9_append_43 : decode cX9_append 43 = .ok (.putfield 114, 3) := by decide +kernel
theorem dX9_append_46 : decode cX9_append 46 = .ok (.aload_n 0, 1) := by decide +kernel
theorem dX9_append_47 : decode cX9_append 47 = .ok (.getfield 114, 3) := by decide +kernel
theorem dX9_append_50 : decode cX9_append 50 = .ok (.ireturn, 1) := by decide +kernel
theorem dX9_clearText_0 : decode cX9_clearText 0 = .ok (.aload_n 0, 1) := by decide +kernel
theorem dX9_clearText_1 : decode cX9_clearText 1 = .ok (.getfield 114, 3) := by decide +kernel
theorem dX9_clearText_4 : decode cX9_clearText 4 = .ok (.istore_n 1, 1) := by decide +kernel
theorem dX9_clearText_5 : decode cX9_clearText 5 = .ok (.aload_n 0, 1) := by decide +kernel
theorem dX9_clearText_6 : decode cX9_clearText 6 = .ok (.iconst 0, 1) := by decide +kernel
theorem dX9_clearText_7 : decode cX9_clearText 7 = .ok (.putfield 114, 3) := by decide +kernel
theorem dX9_clearText_10 : decode cX9_clearText 10 = .ok (.iload_n 1, 1) := by decide +kernel
theorem dX9_clearText_11 : decode cX9_clearText 11 = .ok (.ireturn, 1) := by decide +kernel
theorem dX9_isAt_0 : decode cX9_isAt 0 = .ok (.aload_n 0, 1) := by decide +kernel
theorem dX9_isAt_1 : decode cX9_isAt 1 = .ok (.getfield 117, 3) := by decide +kernel
theorem dX9_isAt_4 : decode cX9_isAt 4 = .ok (.aload_n 0, 1) := by decide +kernel
theorem dX9_isAt_5 : decode cX9_isAt 5 = .ok (.getfield 114, 3) := by decide +kernel
theorem dX9_isAt_8 : decode cX9_isAt 8 = .ok (.if_icmp .ge 24, 3) := by decide +kernel
theorem dX9_isAt_11 : decode cX9_isAt 11 = .ok (.aload_n 0, 1) := by decide +kernel
theorem dX9_isAt_12 : decode cX9_isAt 12 = .ok (.getfield 19, 3) := by decide +kernel
theorem dX9_isAt_15 : decode cX9_isAt 15 = .ok (.aload_n 0, 1) := by decide +kernel
theorem dX9_isAt_16 : decode cX9_isAt 16 = .ok (.getfield 117, 3) := by decide +kernel
theorem dX9_isAt_19 : decode cX9_isAt 19 = .ok (.iaload, 1) := by decide +kernel
theorem dX9_isAt_20 : decode cX9_isAt 20 = .ok (.iload_n 1, 1) := by decide +kernel
theorem dX9_isAt_21 : decode cX9_isAt 21 = .ok (.iload_n 2, 1) := by decide +kernel
theorem dX9_isAt_22 : decode cX9_isAt 22 = .ok (.invokestatic 29, 3) := by decide +kernel
theorem dX9_isAt_25 : decode cX9_isAt 25 = .ok (.ifCond .eq 7, 3) := by decide +kernel
theorem dX9_isAt_28 : decode cX9_isAt 28 = .ok (.iconst 1, 1) := by decide +kernel
theorem dX9_isAt_29 : decode cX9_isAt 29 = .ok (.goto 4, 3) := by decide +kernel
theorem dX9_isAt_32 : decode cX9_isAt 32 = .ok (.iconst 0, 1) := by decide +kernel
theorem dX9_isAt_33 : decode cX9_isAt 33 = .ok (.ireturn, 1) := by decide +kernel
theorem dX9_skips_0 : decode cX9_skips 0 = .ok (.aload_n 0, 1) := by decide +kernel
theorem dX9_skips_1 : decode cX9_skips 1 = .ok (.bipush 32, 2) := by decide +kernel
theorem dX9_skips_3 : decode cX9_skips 3 = .ok (.bipush 32, 2) := by decide +kernel
theorem dX9_skips_5 : decode cX9_skips 5 = .ok (.invokevirtual 120, 3) := by decide +kernel
theorem dX9_skips_8 : decode cX9_skips 8 = .ok (.ifCond .eq 16, 3) := by decide +kernel
theorem dX9_skips_11 : decode cX9_skips 11 = .ok (.aload_n 0, 1) := by decide +kernel
theorem dX9_skips_12 : decode cX9_skips 12 = .ok (.dup, 1) := by decide +kernel
theorem dX9_skips_13 : decode cX9_skips 13 = .ok (.getfield 117, 3) := by decide +kernel
theorem dX9_skips_16 : decode cX9_skips 16 = .ok (.iconst 1, 1) := by decide +kernel
theorem dX9_skips_17 : decode cX9_skips 17 = .ok (.iadd, 1) := by decide +kernel
theorem dX9_skips_18 : decode cX9_skips 18 = .ok (.putfield 117, 3) := by decide +kernel
theorem dX9_skips_21 : decode cX9_skips 21 = .ok (.goto (-21), 3) := by decide +kernel
theorem dX9_skips_24 : decode cX9_skips 24 = .ok (.aload_n 0, 1) := by decide +kernel
theorem dX9_skips_25 : decode cX9_skips 25 = .ok (.aload_n 0, 1) := by decide +kernel
theorem dX9_skips_26 : decode cX9_skips 26 = .ok (.getfield 117, 3) := by decide +kernel
theorem dX9_skips_29 : decode cX9_skips 29 = .ok (.putfield 124, 3) := by decide +kernel
theorem dX9_skips_32 : decode cX9_skips 32 = .ok (.return_, 1) := by decide +kernel
theorem dX9_manyOf_0 : decode cX9_manyOf 0 = .ok (.lload_n 0, 1) := by decide +kernel
theorem dX9_manyOf_1 : decode cX9_manyOf 1 = .ok (.ldc2_w 127, 3) := by decide +kernel
theorem dX9_manyOf_4 : decode cX9_manyOf 4 = .ok (.lcmp, 1) := by decide +kernel
theorem dX9_manyOf_5 : decode cX9_manyOf 5 = .ok (.ifCond .eq 19, 3) := by decide +kernel
theorem dX9_manyOf_8 : decode cX9_manyOf 8 = .ok (.lload_n 0, 1) := by decide +kernel
theorem dX9_manyOf_9 : decode cX9_manyOf 9 = .ok (.ldc2_w 129, 3) := by decide +kernel
theorem dX9_manyOf_12 : decode cX9_manyOf 12 = .ok (.lcmp, 1) := by decide +kernel
theorem dX9_manyOf_13 : decode cX9_manyOf 13 = .ok (.ifCond .eq 11, 3) := by decide +kernel
theorem dX9_manyOf_16 : decode cX9_manyOf 16 = .ok (.lload_n 0, 1) := by decide +kernel
theorem dX9_manyOf_17 : decode cX9_manyOf 17 = .ok (.ldc2_w 131, 3) := by decide +kernel
theorem dX9_manyOf_20 : decode cX9_manyOf 20 = .ok (.lcmp, 1) := by decide +kernel
theorem dX9_manyOf_21 : decode cX9_manyOf 21 = .ok (.ifCond .ne 5, 3) := by decide +kernel
theorem dX9_manyOf_24 : decode cX9_manyOf 24 = .ok (.iconst 4, 1) := by decide +kernel
theorem dX9_manyOf_25 : decode cX9_manyOf 25 = .ok (.ireturn, 1) := by decide +kernel
theorem dX9_manyOf_26 : decode cX9_manyOf 26 = .ok (.lload_n 0, 1) := by decide +kernel
theorem dX9_manyOf_27 : decode cX9_manyOf 27 = .ok (.ldc2_w 133, 3) := by decide +kernel
theorem dX9_manyOf_30 : decode cX9_manyOf 30 = .ok (.lcmp, 1) := by decide +kernel
theorem dX9_manyOf_31 : decode cX9_manyOf 31 = .ok (.ifCond .ne 7, 3) := by decide +kernel
theorem dX9_manyOf_34 : decode cX9_manyOf 34 = .ok (.iconst 3, 1) := by decide +kernel
theorem dX9_manyOf_35 : decode cX9_manyOf 35 = .ok (.goto 36, 3) := by decide +kernel
theorem dX9_manyOf_38 : decode cX9_manyOf 38 = .ok (.lload_n 0, 1) := by decide +kernel
theorem dX9_manyOf_39 : decode cX9_manyOf 39 = .ok (.ldc2_w 135, 3) := by decide +kernel
theorem dX9_manyOf_42 : decode cX9_manyOf 42 = .ok (.lcmp, 1) := by decide +kernel
theorem dX9_manyOf_43 : decode cX9_manyOf 43 = .ok (.ifCond .ne 7, 3) := by decide +kernel
theorem dX9_manyOf_46 : decode cX9_manyOf 46 = .ok (.iconst 2, 1) := by decide +kernel
theorem dX9_manyOf_47 : decode cX9_manyOf 47 = .ok (.goto 24, 3) := by decide +kernel
theorem dX9_manyOf_50 : decode cX9_manyOf 50 = .ok (.lload_n 0, 1) := by decide +kernel
theorem dX9_manyOf_51 : decode cX9_manyOf 51 = .ok (.ldc2_w 137, 3) := by decide +kernel
theorem dX9_manyOf_54 : decode cX9_manyOf 54 = .ok (.lcmp, 1) := by decide +kernel
theorem dX9_manyOf_55 : decode cX9_manyOf 55 = .ok (.ifCond .eq 11, 3) := by decide +kernel
theorem dX9_manyOf_58 : decode cX9_manyOf 58 = .ok (.lload_n 0, 1) := by decide +kernel
theorem dX9_manyOf_59 : decode cX9_manyOf 59 = .ok (.ldc2_w 139, 3) := by decide +kernel
theorem dX9_manyOf_62 : decode cX9_manyOf 62 = .ok (.lcmp, 1) := by decide +kernel
theorem dX9_manyOf_63 : decode cX9_manyOf 63 = .ok (.ifCond .ne 7, 3) := by decide +kernel
theorem dX9_manyOf_66 : decode cX9_manyOf 66 = .ok (.iconst 1, 1) := by decide +kernel
theorem dX9_manyOf_67 : decode cX9_manyOf 67 = .ok (.goto 4, 3) := by decide +kernel
theorem dX9_manyOf_70 : decode cX9_manyOf 70 = .ok (.iconst 0, 1) := by decide +kernel
theorem dX9_manyOf_71 : decode cX9_manyOf 71 = .ok (.ireturn, 1) := by decide +kernel
theorem dX9_isWord_0 : decode cX9_isWord 0 = .ok (.aload_n 0, 1) := by decide +kernel
theorem dX9_isWord_1 : decode cX9_isWord 1 = .ok (.invokevirtual 141, 3) := by decide +kernel
theorem dX9_isWord_4 : decode cX9_isWord 4 = .ok (.aload_n 0, 1) := by decide +kernel
theorem dX9_isWord_5 : decode cX9_isWord 5 = .ok (.lconst 0, 1) := by decide +kernel
theorem dX9_isWord_6 : decode cX9_isWord 6 = .ok (.putfield 144, 3) := by decide +kernel
theorem dX9_isWord_9 : decode cX9_isWord 9 = .ok (.aload_n 0, 1) := by decide +kernel
theorem dX9_isWord_10 : decode cX9_isWord 10 = .ok (.bipush 97, 2) := by decide +kernel
theorem dX9_isWord_12 : decode cX9_isWord 12 = .ok (.bipush 122, 2) := by decide +kernel
theorem dX9_isWord_14 : decode cX9_isWord 14 = .ok (.invokevirtual 120, 3) := by decide +kernel
theorem dX9_isWord_17 : decode cX9_isWord 17 = .ok (.ifCond .eq 55, 3) := by decide +kernel
theorem dX9_isWord_20 : decode cX9_isWord 20 = .ok (.aload_n 0, 1) := by decide +kernel
theorem dX9_isWord_21 : decode cX9_isWord 21 = .ok (.aload_n 0, 1) := by decide +kernel
theorem dX9_isWord_22 : decode cX9_isWord 22 = .ok (.getfield 117, 3) := by decide +kernel
theorem dX9_isWord_25 : decode cX9_isWord 25 = .ok (.aload_n 0, 1) := by decide +kernel
theorem dX9_isWord_26 : decode cX9_isWord 26 = .ok (.getfield 124, 3) := by decide +kernel
theorem dX9_isWord_29 : decode cX9_isWord 29 = .ok (.isub, 1) := by decide +kernel
theorem dX9_isWord_30 : decode cX9_isWord 30 = .ok (.iconst 4, 1) := by decide +kernel
theorem dX9_isWord_31 : decode cX9_isWord 31 = .ok (.if_icmp .ge 24, 3) := by decide +kernel
theorem dX9_isWord_34 : decode cX9_isWord 34 = .ok (.aload_n 0, 1) := by decide +kernel
theorem dX9_isWord_35 : decode cX9_isWord 35 = .ok (.getfield 144, 3) := by decide +kernel
theorem dX9_isWord_38 : decode cX9_isWord 38 = .ok (.bipush 8, 2) := by decide +kernel
theorem dX9_isWord_40 : decode cX9_isWord 40 = .ok (.lshl, 1) := by decide +kernel
theorem dX9_isWord_41 : decode cX9_isWord 41 = .ok (.aload_n 0, 1) := by decide +kernel
theorem dX9_isWord_42 : decode cX9_isWord 42 = .ok (.getfield 19, 3) := by decide +kernel
theorem dX9_isWord_45 : decode cX9_isWord 45 = .ok (.aload_n 0, 1) := by decide +kernel
theorem dX9_isWord_46 : decode cX9_isWord 46 = .ok (.getfield 117, 3) := by decide +kernel
theorem dX9_isWord_49 : decode cX9_isWord 49 = .ok (.iaload, 1) := by decide +kernel
theorem dX9_isWord_50 : decode cX9_isWord 50 = .ok (.i2l, 1) := by decide +kernel
theorem dX9_isWord_51 : decode cX9_isWord 51 = .ok (.lor, 1) := by decide +kernel
theorem dX9_isWord_52 : decode cX9_isWord 52 = .ok (.goto 4, 3) := by decide +kernel
theorem dX9_isWord_55 : decode cX9_isWord 55 = .ok (.lconst 0, 1) := by decide +kernel
theorem dX9_isWord_56 : decode cX9_isWord 56 = .ok (.putfield 144, 3) := by decide +kernel
theorem dX9_isWord_59 : decode cX9_isWord 59 = .ok (.aload_n 0, 1) := by decide +kernel
theorem dX9_isWord_60 : decode cX9_isWord 60 = .ok (.dup, 1) := by decide +kernel
theorem dX9_isWord_61 : decode cX9_isWord 61 = .ok (.getfield 117, 3) := by decide +kernel
theorem dX9_isWord_64 : decode cX9_isWord 64 = .ok (.iconst 1, 1) := by decide +kernel
theorem dX9_isWord_65 : decode cX9_isWord 65 = .ok (.iadd, 1) := by decide +kernel
theorem dX9_isWord_66 : decode cX9_isWord 66 = .ok (.putfield 117, 3) := by decide +kernel
theorem dX9_isWord_69 : decode cX9_isWord 69 = .ok (.goto (-60), 3) := by decide +kernel
theorem dX9_isWord_72 : decode cX9_isWord 72 = .ok (.aload_n 0, 1) := by decide +kernel
theorem dX9_isWord_73 : decode cX9_isWord 73 = .ok (.getfield 117, 3) := by decide +kernel
theorem dX9_isWord_76 : decode cX9_isWord 76 = .ok (.aload_n 0, 1) := by decide +kernel
theorem dX9_isWord_77 : decode cX9_isWord 77 = .ok (.getfield 124, 3) := by decide +kernel
theorem dX9_isWord_80 : decode cX9_isWord 80 = .ok (.isub, 1) := by decide +kernel
theorem dX9_isWord_81 : decode cX9_isWord 81 = .ok (.iconst 4, 1) := by decide +kernel
theorem dX9_isWord_82 : decode cX9_isWord 82 = .ok (.if_icmp .gt 17, 3) := by decide +kernel
theorem dX9_isWord_85 : decode cX9_isWord 85 = .ok (.aload_n 0, 1) := by decide +kernel
theorem dX9_isWord_86 : decode cX9_isWord 86 = .ok (.getfield 144, 3) := by decide +kernel
theorem dX9_isWord_89 : decode cX9_isWord 89 = .ok (.invokestatic 148, 3) := by decide +kernel
theorem dX9_isWord_92 : decode cX9_isWord 92 = .ok (.ifCond .le 7, 3) := by decide +kernel
theorem dX9_isWord_95 : decode cX9_isWord 95 = .ok (.iconst 1, 1) := by decide +kernel
theorem dX9_isWord_96 : decode cX9_isWord 96 = .ok (.goto 4, 3) := by decide +kernel
theorem dX9_isWord_99 : decode cX9_isWord 99 = .ok (.iconst 0, 1) := by decide +kernel
theorem dX9_isWord_100 : decode cX9_isWord 100 = .ok (.ireturn, 1) := by decide +kernel
theorem dX9_isNumber_0 : decode cX9_isNumber 0 = .ok (.aload_n 0, 1) := by decide +kernel
theorem dX9_isNumber_1 : decode cX9_isNumber 1 = .ok (.invokevirtual 141, 3) := by decide +kernel
theorem dX9_isNumber_4 : decode cX9_isNumber 4 = .ok (.iconst 0, 1) := by decide +kernel
theorem dX9_isNumber_5 : decode cX9_isNumber 5 = .ok (.istore_n 2, 1) := by decide +kernel
theorem dX9_isNumber_6 : decode cX9_isNumber 6 = .ok (.aload_n 0, 1) := by decide +kernel
theorem dX9_isNumber_7 : decode cX9_isNumber 7 = .ok (.bipush 48, 2) := by decide +kernel
theorem dX9_isNumber_9 : decode cX9_isNumber 9 = .ok (.bipush 57, 2) := by decide +kernel
theorem dX9_isNumber_11 : decode cX9_isNumber 11 = .ok (.invokevirtual 120, 3) := by decide +kernel
theorem dX9_isNumber_14 : decode cX9_isNumber 14 = .ok (.ifCond .eq 51, 3) := by decide +kernel
theorem dX9_isNumber_17 : decode cX9_isNumber 17 = .ok (.aload_n 0, 1) := by decide +kernel
theorem dX9_isNumber_18 : decode cX9_isNumber 18 = .ok (.getfield 117, 3) := by decide +kernel
theorem dX9_isNumber_21 : decode cX9_isNumber 21 = .ok (.aload_n 0, 1) := by decide +kernel
theorem dX9_isNumber_22 : decode cX9_isNumber 22 = .ok (.getfield 124, 3) := by decide +kernel
theorem dX9_isNumber_25 : decode cX9_isNumber 25 = .ok (.isub, 1) := by decide +kernel
theorem dX9_isNumber_26 : decode cX9_isNumber 26 = .ok (.iconst 4, 1) := by decide +kernel
theorem dX9_isNumber_27 : decode cX9_isNumber 27 = .ok (.if_icmp .ge 23, 3) := by decide +kernel
theorem dX9_isNumber_30 : decode cX9_isNumber 30 = .ok (.bipush 10, 2) := by decide +kernel
theorem dX9_isNumber_32 : decode cX9_isNumber 32 = .ok (.iload_n 2, 1) := by decide +kernel
theorem dX9_isNumber_33 : decode cX9_isNumber 33 = .ok (.imul, 1) := by decide +kernel
theorem dX9_isNumber_34 : decode cX9_isNumber 34 = .ok (.aload_n 0, 1) := by decide +kernel
theorem dX9_isNumber_35 : decode cX9_isNumber 35 = .ok (.getfield 19, 3) := by decide +kernel
theorem dX9_isNumber_38 : decode cX9_isNumber 38 = .ok (.aload_n 0, 1) := by decide +kernel
theorem dX9_isNumber_39 : decode cX9_isNumber 39 = .ok (.getfield 117, 3) := by decide +kernel
theorem dX9_isNumber_42 : decode cX9_isNumber 42 = .ok (.iaload, 1) := by decide +kernel
theorem dX9_isNumber_43 : decode cX9_isNumber 43 = .ok (.iadd, 1) := by decide +kernel
theorem dX9_isNumber_44 : decode cX9_isNumber 44 = .ok (.bipush 48, 2) := by decide +kernel
theorem dX9_isNumber_46 : decode cX9_isNumber 46 = .ok (.isub, 1) := by decide +kernel
theorem dX9_isNumber_47 : decode cX9_isNumber 47 = .ok (.goto 4, 3) := by decide +kernel
theorem dX9_isNumber_50 : decode cX9_isNumber 50 = .ok (.iload_n 2, 1) := by decide +kernel
theorem dX9_isNumber_51 : decode cX9_isNumber 51 = .ok (.istore_n 2, 1) := by decide +kernel
theorem dX9_isNumber_52 : decode cX9_isNumber 52 = .ok (.aload_n 0, 1) := by decide +kernel
theorem dX9_isNumber_53 : decode cX9_isNumber 53 = .ok (.dup, 1) := by decide +kernel
theorem dX9_isNumber_54 : decode cX9_isNumber 54 = .ok (.getfield 117, 3) := by decide +kernel
theorem dX9_isNumber_57 : decode cX9_isNumber 57 = .ok (.iconst 1, 1) := by decide +kernel
theorem dX9_isNumber_58 : decode cX9_isNumber 58 = .ok (.iadd, 1) := by decide +kernel
theorem dX9_isNumber_59 : decode cX9_isNumber 59 = .ok (.putfield 117, 3) := by decide +kernel
theorem dX9_isNumber_62 : decode cX9_isNumber 62 = .ok (.goto (-56), 3) := by decide +kernel
theorem dX9_isNumber_65 : decode cX9_isNumber 65 = .ok (.aload_n 0, 1) := by decide +kernel
theorem dX9_isNumber_66 : decode cX9_isNumber 66 = .ok (.getfield 22, 3) := by decide +kernel
theorem dX9_isNumber_69 : decode cX9_isNumber 69 = .ok (.iload_n 1, 1) := by decide +kernel
theorem dX9_isNumber_70 : decode cX9_isNumber 70 = .ok (.iload_n 2, 1) := by decide +kernel
theorem dX9_isNumber_71 : decode cX9_isNumber 71 = .ok (.iastore, 1) := by decide +kernel
theorem dX9_isNumber_72 : decode cX9_isNumber 72 = .ok (.aload_n 0, 1) := by decide +kernel
theorem dX9_isNumber_73 : decode cX9_isNumber 73 = .ok (.getfield 117, 3) := by decide +kernel
theorem dX9_isNumber_76 : decode cX9_isNumber 76 = .ok (.aload_n 0, 1) := by decide +kernel
theorem dX9_isNumber_77 : decode cX9_isNumber 77 = .ok (.getfield 124, 3) := by decide +kernel
theorem dX9_isNumber_80 : decode cX9_isNumber 80 = .ok (.isub, 1) := by decide +kernel
theorem dX9_isNumber_81 : decode cX9_isNumber 81 = .ok (.iconst 1, 1) := by decide +kernel
theorem dX9_isNumber_82 : decode cX9_isNumber 82 = .ok (.iconst 4, 1) := by decide +kernel
theorem dX9_isNumber_83 : decode cX9_isNumber 83 = .ok (.invokestatic 29, 3) := by decide +kernel
theorem dX9_isNumber_86 : decode cX9_isNumber 86 = .ok (.ifCond .eq 34, 3) := by decide +kernel
theorem dX9_isNumber_89 : decode cX9_isNumber 89 = .ok (.aload_n 0, 1) := by decide +kernel
theorem dX9_isNumber_90 : decode cX9_isNumber 90 = .ok (.getfield 117, 3) := by decide +kernel
theorem dX9_isNumber_93 : decode cX9_isNumber 93 = .ok (.aload_n 0, 1) := by decide +kernel
theorem dX9_isNumber_94 : decode cX9_isNumber 94 = .ok (.getfield 124, 3) := by decide +kernel
