theorem dX0_init_0 : decode cX0_init 0 = .ok (.aload_n 0, 1) := by decide +kernel
theorem dX0_init_1 : decode cX0_init 1 = .ok (.invokespecial 3, 3) := by decide +kernel
theorem dX0_init_4 : decode cX0_init 4 = .ok (.aload_n 0, 1) := by decide +kernel
theorem dX0_init_5 : decode cX0_init 5 = .ok (.aload_n 1, 1) := by decide +kernel
theorem dX0_init_6 : decode cX0_init 6 = .ok (.putfield 9, 3) := by decide +kernel
theorem dX0_init_9 : decode cX0_init 9 = .ok (.aload_n 0, 1) := by decide +kernel
theorem dX0_init_10 : decode cX0_init 10 = .ok (.aload_n 1, 1) := by decide +kernel
theorem dX0_init_11 : decode cX0_init 11 = .ok (.getfield 15, 3) := by decide +kernel
theorem dX0_init_14 : decode cX0_init 14 = .ok (.putfield 21, 3) := by decide +kernel
theorem dX0_init_17 : decode cX0_init 17 = .ok (.aload_n 0, 1) := by decide +kernel
theorem dX0_init_18 : decode cX0_init 18 = .ok (.aload_n 1, 1) := by decide +kernel
theorem dX0_init_19 : decode cX0_init 19 = .ok (.getfield 22, 3) := by decide +kernel
theorem dX0_init_22 : decode cX0_init 22 = .ok (.putfield 25, 3) := by decide +kernel
theorem dX0_init_25 : decode cX0_init 25 = .ok (.aload_n 0, 1) := by decide +kernel
theorem dX0_init_26 : decode cX0_init 26 = .ok (.aload_n 1, 1) := by decide +kernel
theorem dX0_init_27 : decode cX0_init 27 = .ok (.getfield 26, 3) := by decide +kernel
theorem dX0_init_30 : decode cX0_init 30 = .ok (.putfield 29, 3) := by decide +kernel
theorem dX0_init_33 : decode cX0_init 33 = .ok (.aload_n 0, 1) := by decide +kernel
theorem dX0_init_34 : decode cX0_init 34 = .ok (.aload_n 1, 1) := by decide +kernel
theorem dX0_init_35 : decode cX0_init 35 = .ok (.getfield 30, 3) := by decide +kernel
theorem dX0_init_38 : decode cX0_init 38 = .ok (.putfield 33, 3) := by decide +kernel
theorem dX0_init_41 : decode cX0_init 41 = .ok (.return_, 1) := by decide +kernel
theorem dX0_newRoom_0 : decode cX0_newRoom 0 = .ok (.iload_n 1, 1) := by decide +kernel
theorem dX0_newRoom_1 : decode cX0_newRoom 1 = .ok (.bipush 20, 2) := by decide +kernel
theorem dX0_newRoom_3 : decode cX0_newRoom 3 = .ok (.bipush 120, 2) := by decide +kernel
theorem dX0_newRoom_5 : decode cX0_newRoom 5 = .ok (.invokestatic 34, 3) := by decide +kernel
theorem dX0_newRoom_8 : decode cX0_newRoom 8 = .ok (.ifCond .eq 35, 3) := by decide +kernel
theorem dX0_newRoom_11 : decode cX0_newRoom 11 = .ok (.iload_n 2, 1) := by decide +kernel
theorem dX0_newRoom_12 : decode cX0_newRoom 12 = .ok (.iconst 0, 1) := by decide +kernel
theorem dX0_newRoom_13 : decode cX0_newRoom 13 = .ok (.bipush 60, 2) := by decide +kernel
theorem dX0_newRoom_15 : decode cX0_newRoom 15 = .ok (.invokestatic 34, 3) := by decide +kernel
theorem dX0_newRoom_18 : decode cX0_newRoom 18 = .ok (.ifCond .eq 25, 3) := by decide +kernel
theorem dX0_newRoom_21 : decode cX0_newRoom 21 = .ok (.iload_n 3, 1) := by decide +kernel
theorem dX0_newRoom_22 : decode cX0_newRoom 22 = .ok (.iconst 1, 1) := by decide +kernel
theorem dX0_newRoom_23 : decode cX0_newRoom 23 = .ok (.sipush 200, 3) := by decide +kernel
theorem dX0_newRoom_26 : decode cX0_newRoom 26 = .ok (.invokestatic 34, 3) := by decide +kernel
theorem dX0_newRoom_29 : decode cX0_newRoom 29 = .ok (.ifCond .eq 14, 3) := by decide +kernel
theorem dX0_newRoom_32 : decode cX0_newRoom 32 = .ok (.iload 4, 2) := by decide +kernel
theorem dX0_newRoom_34 : decode cX0_newRoom 34 = .ok (.iconst 2, 1) := by decide +kernel
theorem dX0_newRoom_35 : decode cX0_newRoom 35 = .ok (.bipush 8, 2) := by decide +kernel
theorem dX0_newRoom_37 : decode cX0_newRoom 37 = .ok (.invokestatic 34, 3) := by decide +kernel
theorem dX0_newRoom_40 : decode cX0_newRoom 40 = .ok (.ifCond .ne 5, 3) := by decide +kernel
theorem dX0_newRoom_43 : decode cX0_newRoom 43 = .ok (.iconst (-1), 1) := by decide +kernel
theorem dX0_newRoom_44 : decode cX0_newRoom 44 = .ok (.ireturn, 1) := by decide +kernel
theorem dX0_newRoom_45 : decode cX0_newRoom 45 = .ok (.aload_n 0, 1) := by decide +kernel
theorem dX0_newRoom_46 : decode cX0_newRoom 46 = .ok (.getfield 21, 3) := by decide +kernel
theorem dX0_newRoom_49 : decode cX0_newRoom 49 = .ok (.invokevirtual 38, 3) := by decide +kernel
theorem dX0_newRoom_52 : decode cX0_newRoom 52 = .ok (.ifCond .eq 6, 3) := by decide +kernel
theorem dX0_newRoom_55 : decode cX0_newRoom 55 = .ok (.bipush (-3), 2) := by decide +kernel
theorem dX0_newRoom_57 : decode cX0_newRoom 57 = .ok (.ireturn, 1) := by decide +kernel
theorem dX0_newRoom_58 : decode cX0_newRoom 58 = .ok (.aload_n 0, 1) := by decide +kernel
theorem dX0_newRoom_59 : decode cX0_newRoom 59 = .ok (.getfield 21, 3) := by decide +kernel
theorem dX0_newRoom_62 : decode cX0_newRoom 62 = .ok (.invokevirtual 44, 3) := by decide +kernel
theorem dX0_newRoom_65 : decode cX0_newRoom 65 = .ok (.istore 5, 2) := by decide +kernel
theorem dX0_newRoom_67 : decode cX0_newRoom 67 = .ok (.aload_n 0, 1) := by decide +kernel
theorem dX0_newRoom_68 : decode cX0_newRoom 68 = .ok (.getfield 21, 3) := by decide +kernel
theorem dX0_newRoom_71 : decode cX0_newRoom 71 = .ok (.iload 5, 2) := by decide +kernel
theorem dX0_newRoom_73 : decode cX0_newRoom 73 = .ok (.iconst 0, 1) := by decide +kernel
theorem dX0_newRoom_74 : decode cX0_newRoom 74 = .ok (.iload_n 1, 1) := by decide +kernel
theorem dX0_newRoom_75 : decode cX0_newRoom 75 = .ok (.invokevirtual 48, 3) := by decide +kernel
theorem dX0_newRoom_78 : decode cX0_newRoom 78 = .ok (.aload_n 0, 1) := by decide +kernel
theorem dX0_newRoom_79 : decode cX0_newRoom 79 = .ok (.getfield 21, 3) := by decide +kernel
theorem dX0_newRoom_82 : decode cX0_newRoom 82 = .ok (.iload 5, 2) := by decide +kernel
theorem dX0_newRoom_84 : decode cX0_newRoom 84 = .ok (.iconst 1, 1) := by decide +kernel
theorem dX0_newRoom_85 : decode cX0_newRoom 85 = .ok (.iload_n 2, 1) := by decide +kernel
theorem dX0_newRoom_86 : decode cX0_newRoom 86 = .ok (.invokevirtual 48, 3) := by decide +kernel
theorem dX0_newRoom_89 : decode cX0_newRoom 89 = .ok (.aload_n 0, 1) := by decide +kernel
theorem dX0_newRoom_90 : decode cX0_newRoom 90 = .ok (.getfield 21, 3) := by decide +kernel
theorem dX0_newRoom_93 : decode cX0_newRoom 93 = .ok (.iload 5, 2) := by decide +kernel
theorem dX0_newRoom_95 : decode cX0_newRoom 95 = .ok (.iconst 2, 1) := by decide +kernel
theorem dX0_newRoom_96 : decode cX0_newRoom 96 = .ok (.iload_n 3, 1) := by decide +kernel
theorem dX0_newRoom_97 : decode cX0_newRoom 97 = .ok (.invokevirtual 48, 3) := by decide +kernel
theorem dX0_newRoom_100 : decode cX0_newRoom 100 = .ok (.aload_n 0, 1) := by decide +kernel
theorem dX0_newRoom_101 : decode cX0_newRoom 101 = .ok (.getfield 21, 3) := by decide +kernel
theorem dX0_newRoom_104 : decode cX0_newRoom 104 = .ok (.iload 5, 2) := by decide +kernel
theorem dX0_newRoom_106 : decode cX0_newRoom 106 = .ok (.iconst 3, 1) := by decide +kernel
theorem dX0_newRoom_107 : decode cX0_newRoom 107 = .ok (.iload 4, 2) := by decide +kernel
theorem dX0_newRoom_109 : decode cX0_newRoom 109 = .ok (.invokevirtual 48, 3) := by decide +kernel
theorem dX0_newRoom_112 : decode cX0_newRoom 112 = .ok (.iload 5, 2) := by decide +kernel
theorem dX0_newRoom_114 : decode cX0_newRoom 114 = .ok (.ireturn, 1) := by decide +kernel
theorem dX0_changePrice_0 : decode cX0_changePrice 0 = .ok (.aload_n 0, 1) := by decide +kernel
theorem dX0_changePrice_1 : decode cX0_changePrice 1 = .ok (.getfield 21, 3) := by decide +kernel
theorem dX0_changePrice_4 : decode cX0_changePrice 4 = .ok (.iload_n 1, 1) := by decide +kernel
theorem dX0_changePrice_5 : decode cX0_changePrice 5 = .ok (.invokevirtual 52, 3) := by decide +kernel
theorem dX0_changePrice_8 : decode cX0_changePrice 8 = .ok (.ifCond .eq 14, 3) := by decide +kernel
theorem dX0_changePrice_11 : decode cX0_changePrice 11 = .ok (.iload_n 2, 1) := by decide +kernel
theorem dX0_changePrice_12 : decode cX0_changePrice 12 = .ok (.iconst 1, 1) := by decide +kernel
theorem dX0_changePrice_13 : decode cX0_changePrice 13 = .ok (.sipush 200, 3) := by decide +kernel
theorem dX0_changePrice_16 : decode cX0_changePrice 16 = .ok (.invokestatic 34, 3) := by decide +kernel
theorem dX0_changePrice_19 : decode cX0_changePrice 19 = .ok (.ifCond .ne 5, 3) := by decide +kernel
theorem dX0_changePrice_22 : decode cX0_changePrice 22 = .ok (.iconst (-1), 1) := by decide +kernel
theorem dX0_changePrice_23 : decode cX0_changePrice 23 = .ok (.ireturn, 1) := by decide +kernel
theorem dX0_changePrice_24 : decode cX0_changePrice 24 = .ok (.aload_n 0, 1) := by decide +kernel
theorem dX0_changePrice_25 : decode cX0_changePrice 25 = .ok (.getfield 21, 3) := by decide +kernel
theorem dX0_changePrice_28 : decode cX0_changePrice 28 = .ok (.iload_n 1, 1) := by decide +kernel
theorem dX0_changePrice_29 : decode cX0_changePrice 29 = .ok (.iconst 2, 1) := by decide +kernel
theorem dX0_changePrice_30 : decode cX0_changePrice 30 = .ok (.invokevirtual 56, 3) := by decide +kernel
theorem dX0_changePrice_33 : decode cX0_changePrice 33 = .ok (.istore_n 3, 1) := by decide +kernel
theorem dX0_changePrice_34 : decode cX0_changePrice 34 = .ok (.aload_n 0, 1) := by decide +kernel
theorem dX0_changePrice_35 : decode cX0_changePrice 35 = .ok (.getfield 21, 3) := by decide +kernel
theorem dX0_changePrice_38 : decode cX0_changePrice 38 = .ok (.iload_n 1, 1) := by decide +kernel
theorem dX0_changePrice_39 : decode cX0_changePrice 39 = .ok (.iconst 2, 1) := by decide +kernel
theorem dX0_changePrice_40 : decode cX0_changePrice 40 = .ok (.iload_n 2, 1) := by decide +kernel
theorem dX0_changePrice_41 : decode cX0_changePrice 41 = .ok (.invokevirtual 48, 3) := by decide +kernel
theorem dX0_changePrice_44 : decode cX0_changePrice 44 = .ok (.iload_n 3, 1) := by decide +kernel
theorem dX0_changePrice_45 : decode cX0_changePrice 45 = .ok (.ireturn, 1) := by decide +kernel
theorem dX0_changeSetting_0 : decode cX0_changeSetting 0 = .ok (.iload_n 1, 1) := by decide +kernel
theorem dX0_changeSetting_1 : decode cX0_changeSetting 1 = .ok (.ifCond .lt 24, 3) := by decide +kernel
theorem dX0_changeSetting_4 : decode cX0_changeSetting 4 = .ok (.iload_n 1, 1) := by decide +kernel
theorem dX0_changeSetting_5 : decode cX0_changeSetting 5 = .ok (.getstatic 60, 3) := by decide +kernel
theorem dX0_changeSetting_8 : decode cX0_changeSetting 8 = .ok (.arraylength, 1) := by decide +kernel
theorem dX0_changeSetting_9 : decode cX0_changeSetting 9 = .ok (.if_icmp .ge 16, 3) := by decide +kernel
theorem dX0_changeSetting_12 : decode cX0_changeSetting 12 = .ok (.iload_n 2, 1) := by decide +kernel
theorem dX0_changeSetting_13 : decode cX0_changeSetting 13 = .ok (.iconst 0, 1) := by decide +kernel
theorem dX0_changeSetting_14 : decode cX0_changeSetting 14 = .ok (.getstatic 60, 3) := by decide +kernel
theorem dX0_changeSetting_17 : decode cX0_changeSetting 17 = .ok (.iload_n 1, 1) := by decide +kernel
theorem dX0_changeSetting_18 : decode cX0_changeSetting 18 = .ok (.iaload, 1) := by decide +kernel
theorem dX0_changeSetting_19 : decode cX0_changeSetting 19 = .ok (.invokestatic 34, 3) := by decide +kernel
theorem dX0_changeSetting_22 : decode cX0_changeSetting 22 = .ok (.ifCond .ne 5, 3) := by decide +kernel
theorem dX0_changeSetting_25 : decode cX0_changeSetting 25 = .ok (.iconst (-1), 1) := by decide +kernel
theorem dX0_changeSetting_26 : decode cX0_changeSetting 26 = .ok (.ireturn, 1) := by decide +kernel
theorem dX0_changeSetting_27 : decode cX0_changeSetting 27 = .ok (.aload_n 0, 1) := by decide +kernel
theorem dX0_changeSetting_28 : decode cX0_changeSetting 28 = .ok (.getfield 9, 3) := by decide +kernel
theorem dX0_changeSetting_31 : decode cX0_changeSetting 31 = .ok (.iload_n 1, 1) := by decide +kernel
theorem dX0_changeSetting_32 : decode cX0_changeSetting 32 = .ok (.invokevirtual 64, 3) := by decide +kernel
theorem dX0_changeSetting_35 : decode cX0_changeSetting 35 = .ok (.istore_n 3, 1) := by decide +kernel
theorem dX0_changeSetting_36 : decode cX0_changeSetting 36 = .ok (.aload_n 0, 1) := by decide +kernel
theorem dX0_changeSetting_37 : decode cX0_changeSetting 37 = .ok (.getfield 9, 3) := by decide +kernel
theorem dX0_changeSetting_40 : decode cX0_changeSetting 40 = .ok (.getfield 68, 3) := by decide +kernel
theorem dX0_changeSetting_43 : decode cX0_changeSetting 43 = .ok (.iload_n 1, 1) := by decide +kernel
theorem dX0_changeSetting_44 : decode cX0_changeSetting 44 = .ok (.iconst 0, 1) := by decide +kernel
theorem dX0_changeSetting_45 : decode cX0_changeSetting 45 = .ok (.iload_n 2, 1) := by decide +kernel
theorem dX0_changeSetting_46 : decode cX0_changeSetting 46 = .ok (.invokevirtual 48, 3) := by decide +kernel
theorem dX0_changeSetting_49 : decode cX0_changeSetting 49 = .ok (.iload_n 3, 1) := by decide +kernel
theorem dX0_changeSetting_50 : decode cX0_changeSetting 50 = .ok (.ireturn, 1) := by decide +kernel
theorem dX0_newVoucher_0 : decode cX0_newVoucher 0 = .ok (.iload_n 1, 1) := by decide +kernel
theorem dX0_newVoucher_1 : decode cX0_newVoucher 1 = .ok (.iconst 1, 1) := by decide +kernel
theorem dX0_newVoucher_2 : decode cX0_newVoucher 2 = .ok (.sipush 500, 3) := by decide +kernel
theorem dX0_newVoucher_5 : decode cX0_newVoucher 5 = .ok (.invokestatic 34, 3) := by decide +kernel
theorem dX0_newVoucher_8 : decode cX0_newVoucher 8 = .ok (.ifCond .ne 5, 3) := by decide +kernel
theorem dX0_newVoucher_11 : decode cX0_newVoucher 11 = .ok (.iconst (-1), 1) := by decide +kernel
theorem dX0_newVoucher_12 : decode cX0_newVoucher 12 = .ok (.ireturn, 1) := by decide +kernel
theorem dX0_newVoucher_13 : decode cX0_newVoucher 13 = .ok (.aload_n 0, 1) := by decide +kernel
theorem dX0_newVoucher_14 : decode cX0_newVoucher 14 = .ok (.getfield 29, 3) := by decide +kernel
theorem dX0_newVoucher_17 : decode cX0_newVoucher 17 = .ok (.invokevirtual 38, 3) := by decide +kernel
theorem dX0_newVoucher_20 : decode cX0_newVoucher 20 = .ok (.ifCond .eq 6, 3) := by decide +kernel
theorem dX0_newVoucher_23 : decode cX0_newVoucher 23 = .ok (.bipush (-3), 2) := by decide +kernel
theorem dX0_newVoucher_25 : decode cX0_newVoucher 25 = .ok (.ireturn, 1) := by decide +kernel
theorem dX0_newVoucher_26 : decode cX0_newVoucher 26 = .ok (.aload_n 0, 1) := by decide +kernel
theorem dX0_newVoucher_27 : decode cX0_newVoucher 27 = .ok (.getfield 29, 3) := by decide +kernel
theorem dX0_newVoucher_30 : decode cX0_newVoucher 30 = .ok (.invokevirtual 44, 3) := by decide +kernel
theorem dX0_newVoucher_33 : decode cX0_newVoucher 33 = .ok (.istore_n 2, 1) := by decide +kernel
theorem dX0_newVoucher_34 : decode cX0_newVoucher 34 = .ok (.aload_n 0, 1) := by decide +kernel
theorem dX0_newVoucher_35 : decode cX0_newVoucher 35 = .ok (.getfield 29, 3) := by decide +kernel
theorem dX0_newVoucher_38 : decode cX0_newVoucher 38 = .ok (.iload_n 2, 1) := by decide +kernel
theorem dX0_newVoucher_39 : decode cX0_newVoucher 39 = .ok (.iconst 0, 1) := by decide +kernel
theorem dX0_newVoucher_40 : decode cX0_newVoucher 40 = .ok (.iload_n 1, 1) := by decide +kernel
theorem dX0_newVoucher_41 : decode cX0_newVoucher 41 = .ok (.invokevirtual 48, 3) := by decide +kernel
theorem dX0_newVoucher_44 : decode cX0_newVoucher 44 = .ok (.aload_n 0, 1) := by decide +kernel
theorem dX0_newVoucher_45 : decode cX0_newVoucher 45 = .ok (.getfield 29, 3) := by decide +kernel
theorem dX0_newVoucher_48 : decode cX0_newVoucher 48 = .ok (.iload_n 2, 1) := by decide +kernel
theorem dX0_newVoucher_49 : decode cX0_newVoucher 49 = .ok (.iconst 1, 1) := by decide +kernel
theorem dX0_newVoucher_50 : decode cX0_newVoucher 50 = .ok (.iload_n 1, 1) := by decide +kernel
theorem dX0_newVoucher_51 : decode cX0_newVoucher 51 = .ok (.invokevirtual 48, 3) := by decide +kernel
theorem dX0_newVoucher_54 : decode cX0_newVoucher 54 = .ok (.aload_n 0, 1) := by decide +kernel
theorem dX0_newVoucher_55 : decode cX0_newVoucher 55 = .ok (.getfield 9, 3) := by decide +kernel
theorem dX0_newVoucher_58 : decode cX0_newVoucher 58 = .ok (.dup, 1) := by decide +kernel
theorem dX0_newVoucher_59 : decode cX0_newVoucher 59 = .ok (.getfield 71, 3) := by decide +kernel
theorem dX0_newVoucher_62 : decode cX0_newVoucher 62 = .ok (.iload_n 1, 1) := by decide +kernel
theorem dX0_newVoucher_63 : decode cX0_newVoucher 63 = .ok (.iadd, 1) := by decide +kernel
theorem dX0_newVoucher_64 : decode cX0_newVoucher 64 = .ok (.putfield 71, 3) := by decide +kernel
theorem dX0_newVoucher_67 : decode cX0_newVoucher 67 = .ok (.iload_n 2, 1) := by decide +kernel
theorem dX0_newVoucher_68 : decode cX0_newVoucher 68 = .ok (.ireturn, 1) := by decide +kernel
theorem dX0_newBooking_0 : decode cX0_newBooking 0 = .ok (.aload_n 0, 1) := by decide +kernel
theorem dX0_newBooking_1 : decode cX0_newBooking 1 = .ok (.getfield 21, 3) := by decide +kernel
theorem dX0_newBooking_4 : decode cX0_newBooking 4 = .ok (.iload_n 1, 1) := by decide +kernel
theorem dX0_newBooking_5 : decode cX0_newBooking 5 = .ok (.invokevirtual 52, 3) := by decide +kernel
theorem dX0_newBooking_8 : decode cX0_newBooking 8 = .ok (.ifCond .eq 49, 3) := by decide +kernel
theorem dX0_newBooking_11 : decode cX0_newBooking 11 = .ok (.iload_n 2, 1) := by decide +kernel
theorem dX0_newBooking_12 : decode cX0_newBooking 12 = .ok (.iconst 0, 1) := by decide +kernel
theorem dX0_newBooking_13 : decode cX0_newBooking 13 = .ok (.sipush 720, 3) := by decide +kernel
theorem dX0_newBooking_16 : decode cX0_newBooking 16 = .ok (.invokestatic 34, 3) := by decide +kernel
theorem dX0_newBooking_19 : decode cX0_newBooking 19 = .ok (.ifCond .eq 38, 3) := by decide +kernel
theorem dX0_newBooking_22 : decode cX0_newBooking 22 = .ok (.iload_n 3, 1) := by decide +kernel
theorem dX0_newBooking_23 : decode cX0_newBooking 23 = .ok (.iconst 2, 1) := by decide +kernel
theorem dX0_newBooking_24 : decode cX0_newBooking 24 = .ok (.aload_n 0, 1) := by decide +kernel
theorem dX0_newBooking_25 : decode cX0_newBooking 25 = .ok (.getfield 21, 3) := by decide +kernel
theorem dX0_newBooking_28 : decode cX0_newBooking 28 = .ok (.iload_n 1, 1) := by decide +kernel
theorem dX0_newBooking_29 : decode cX0_newBooking 29 = .ok (.iconst 3, 1) := by decide +kernel
theorem dX0_newBooking_30 : decode cX0_newBooking 30 = .ok (.invokevirtual 56, 3) := by decide +kernel
theorem dX0_newBooking_33 : decode cX0_newBooking 33 = .ok (.invokestatic 34, 3) := by decide +kernel
theorem dX0_newBooking_36 : decode cX0_newBooking 36 = .ok (.ifCond .eq 21, 3) := by decide +kernel
theorem dX0_newBooking_39 : decode cX0_newBooking 39 = .ok (.iload 4, 2) := by decide +kernel
theorem dX0_newBooking_41 : decode cX0_newBooking 41 = .ok (.iconst (-1), 1) := by decide +kernel
theorem dX0_newBooking_42 : decode cX0_newBooking 42 = .ok (.if_icmp .eq 17, 3) := by decide +kernel
theorem dX0_newBooking_45 : decode cX0_newBooking 45 = .ok (.aload_n 0, 1) := by decide +kernel
theorem dX0_newBooking_46 : decode cX0_newBooking 46 = .ok (.getfield 29, 3) := by decide +kernel
theorem dX0_newBooking_49 : decode cX0_newBooking 49 = .ok (.iload 4, 2) := by decide +kernel
theorem dX0_newBooking_51 : decode cX0_newBooking 51 = .ok (.invokevirtual 52, 3) := by decide +kernel
theorem dX0_newBooking_54 : decode cX0_newBooking 54 = .ok (.ifCond .ne 5, 3) := by decide +kernel
theorem dX0_newBooking_57 : decode cX0_newBooking 57 = .ok (.iconst (-1), 1) := by decide +kernel
theorem dX0_newBooking_58 : decode cX0_newBooking 58 = .ok (.ireturn, 1) := by decide +kernel
theorem dX0_newBooking_59 : decode cX0_newBooking 59 = .ok (.aload_n 0, 1) := by decide +kernel
theorem dX0_newBooking_60 : decode cX0_newBooking 60 = .ok (.getfield 9, 3) := by decide +kernel
theorem dX0_newBooking_63 : decode cX0_newBooking 63 = .ok (.iload_n 1, 1) := by decide +kernel
theorem dX0_newBooking_64 : decode cX0_newBooking 64 = .ok (.iload_n 2, 1) := by decide +kernel
theorem dX0_newBooking_65 : decode cX0_newBooking 65 = .ok (.bipush (-9), 2) := by decide +kernel
theorem dX0_newBooking_67 : decode cX0_newBooking 67 = .ok (.invokevirtual 75, 3) := by decide +kernel
theorem dX0_newBooking_70 : decode cX0_newBooking 70 = .ok (.ifCond .ne 6, 3) := by decide +kernel
theorem dX0_newBooking_73 : decode cX0_newBooking 73 = .ok (.bipush (-2), 2) := by decide +kernel
theorem dX0_newBooking_75 : decode cX0_newBooking 75 = .ok (.ireturn, 1) := by decide +kernel
theorem dX0_newBooking_76 : decode cX0_newBooking 76 = .ok (.aload_n 0, 1) := by decide +kernel
theorem dX0_newBooking_77 : decode cX0_newBooking 77 = .ok (.getfield 25, 3) := by decide +kernel
theorem dX0_newBooking_80 : decode cX0_newBooking 80 = .ok (.invokevirtual 38, 3) := by decide +kernel
theorem dX0_newBooking_83 : decode cX0_newBooking 83 = .ok (.ifCond .eq 6, 3) := by decide +kernel
theorem dX0_newBooking_86 : decode cX0_newBooking 86 = .ok (.bipush (-3), 2) := by decide +kernel
theorem dX0_newBooking_88 : decode cX0_newBooking 88 = .ok (.ireturn, 1) := by decide +kernel
theorem dX0_newBooking_89 : decode cX0_newBooking 89 = .ok (.aload_n 0, 1) := by decide +kernel
theorem dX0_newBooking_90 : decode cX0_newBooking 90 = .ok (.getfield 25, 3) := by decide +kernel
theorem dX0_newBooking_93 : decode cX0_newBooking 93 = .ok (.invokevirtual 44, 3) := by decide +kernel
theorem dX0_newBooking_96 : decode cX0_newBooking 96 = .ok (.istore 5, 2) := by decide +kernel
theorem dX0_newBooking_98 : decode cX0_newBooking 98 = .ok (.aload_n 0, 1) := by decide +kernel
theorem dX0_newBooking_99 : decode cX0_newBooking 99 = .ok (.getfield 25, 3) := by decide +kernel
theorem dX0_newBooking_102 : decode cX0_newBooking 102 = .ok (.iload 5, 2) := by decide +kernel
theorem dX0_newBooking_104 : decode cX0_newBooking 104 = .ok (.iconst 0, 1) := by decide +kernel
theorem dX0_newBooking_105 : decode cX0_newBooking 105 = .ok (.iload_n 1, 1) := by decide +kernel
theorem dX0_newBooking_106 : decode cX0_newBooking 106 = .ok (.invokevirtual 48, 3) := by decide +kernel
theorem dX0_newBooking_109 : decode cX0_newBooking 109 = .ok (.aload_n 0, 1) := by decide +kernel
theorem dX0_newBooking_110 : decode cX0_newBooking 110 = .ok (.getfield 25, 3) := by decide +kernel
theorem dX0_newBooking_113 : decode cX0_newBooking 113 = .ok (.iload 5, 2) := by decide +kernel
theorem dX0_newBooking_115 : decode cX0_newBooking 115 = .ok (.iconst 1, 1) := by decide +kernel
theorem dX0_newBooking_116 : decode cX0_newBooking 116 = .ok (.iload_n 2, 1) := by decide +kernel
theorem dX0_newBooking_117 : decode cX0_newBooking 117 = .ok (.invokevirtual 48, 3) := by decide +kernel
theorem dX0_newBooking_120 : decode cX0_newBooking 120 = .ok (.aload_n 0, 1) := by decide +kernel
theorem dX0_newBooking_121 : decode cX0_newBooking 121 = .ok (.getfield 25, 3) := by decide +kernel
theorem dX0_newBooking_124 : decode cX0_newBooking 124 = .ok (.iload 5, 2) := by decide +kernel
theorem dX0_newBooking_126 : decode cX0_newBooking 126 = .ok (.iconst 2, 1) := by decide +kernel
theorem dX0_newBooking_127 : decode cX0_newBooking 127 = .ok (.iload_n 3, 1) := by decide +kernel
theorem dX0_newBooking_128 : decode cX0_newBooking 128 = .ok (.invokevirtual 48, 3) := by decide +kernel
theorem dX0_newBooking_131 : decode cX0_newBooking 131 = .ok (.aload_n 0, 1) := by decide +kernel
theorem dX0_newBooking_132 : decode cX0_newBooking 132 = .ok (.getfield 25, 3) := by decide +kernel
theorem dX0_newBooking_135 : decode cX0_newBooking 135 = .ok (.iload 5, 2) := by decide +kernel
theorem dX0_newBooking_137 : decode cX0_newBooking 137 = .ok (.iconst 3, 1) := by decide +kernel
theorem dX0_newBooking_138 : decode cX0_newBooking 138 = .ok (.iconst 0, 1) := by decide +kernel
theorem dX0_newBooking_139 : decode cX0_newBooking 139 = .ok (.invokevirtual 48, 3) := by decide +kernel
theorem dX0_newBooking_142 : decode cX0_newBooking 142 = .ok (.aload_n 0, 1) := by decide +kernel
theorem dX0_newBooking_143 : decode cX0_newBooking 143 = .ok (.getfield 25, 3) := by decide +kernel
theorem dX0_newBooking_146 : decode cX0_newBooking 146 = .ok (.iload 5, 2) := by decide +kernel
theorem dX0_newBooking_148 : decode cX0_newBooking 148 = .ok (.bipush 8, 2) := by decide +kernel
theorem dX0_newBooking_150 : decode cX0_newBooking 150 = .ok (.bipush (-9), 2) := by decide +kernel
theorem dX0_newBooking_152 : decode cX0_newBooking 152 = .ok (.invokevirtual 48, 3) := by decide +kernel
theorem dX0_newBooking_155 : decode cX0_newBooking 155 = .ok (.aload_n 0, 1) := by decide +kernel
theorem dX0_newBooking_156 : decode cX0_newBooking 156 = .ok (.getfield 25, 3) := by decide +kernel
theorem dX0_newBooking_159 : decode cX0_newBooking 159 = .ok (.iload 5, 2) := by decide +kernel
theorem dX0_newBooking_161 : decode cX0_newBooking 161 = .ok (.bipush 9, 2) := by decide +kernel
theorem dX0_newBooking_163 : decode cX0_newBooking 163 = .ok (.bipush (-9), 2) := by decide +kernel
theorem dX0_newBooking_165 : decode cX0_newBooking 165 = .ok (.invokevirtual 48, 3) := by decide +kernel
theorem dX0_newBooking_168 : decode cX0_newBooking 168 = .ok (.aload_n 0, 1) := by decide +kernel
theorem dX0_newBooking_169 : decode cX0_newBooking 169 = .ok (.iload 5, 2) := by decide +kernel
theorem dX0_newBooking_171 : decode cX0_newBooking 171 = .ok (.aload_n 0, 1) := by decide +kernel
theorem dX0_newBooking_172 : decode cX0_newBooking 172 = .ok (.getfield 21, 3) := by decide +kernel
theorem dX0_newBooking_175 : decode cX0_newBooking 175 = .ok (.iload_n 1, 1) := by decide +kernel
theorem dX0_newBooking_176 : decode cX0_newBooking 176 = .ok (.iconst 2, 1) := by decide +kernel
theorem dX0_newBooking_177 : decode cX0_newBooking 177 = .ok (.invokevirtual 56, 3) := by decide +kernel
theorem dX0_newBooking_180 : decode cX0_newBooking 180 = .ok (.iload_n 3, 1) := by decide +kernel
theorem dX0_newBooking_181 : decode cX0_newBooking 181 = .ok (.imul, 1) := by decide +kernel
theorem dX0_newBooking_182 : decode cX0_newBooking 182 = .ok (.iload 4, 2) := by decide +kernel
theorem dX0_newBooking_184 : decode cX0_newBooking 184 = .ok (.invokevirtual 78, 3) := by decide +kernel
theorem dX0_newBooking_187 : decode cX0_newBooking 187 = .ok (.iload 5, 2) := by decide +kernel
theorem dX0_newBooking_189 : decode cX0_newBooking 189 = .ok (.ireturn, 1) := by decide +kernel
theorem dX0_payCharge_0 : decode cX0_payCharge 0 = .ok (.iload_n 2, 1) := by decide +kernel
theorem dX0_payCharge_1 : decode cX0_payCharge 1 = .ok (.aload_n 0, 1) := by decide +kernel
theorem dX0_payCharge_2 : decode cX0_payCharge 2 = .ok (.getfield 29, 3) := by decide +kernel
theorem dX0_payCharge_5 : decode cX0_payCharge 5 = .ok (.iload_n 3, 1) := by decide +kernel
theorem dX0_payCharge_6 : decode cX0_payCharge 6 = .ok (.iconst 1, 1) := by decide +kernel
theorem dX0_payCharge_7 : decode cX0_payCharge 7 = .ok (.invokevirtual 56, 3) := by decide +kernel
theorem dX0_payCharge_10 : decode cX0_payCharge 10 = .ok (.invokestatic 81, 3) := by decide +kernel
theorem dX0_payCharge_13 : decode cX0_payCharge 13 = .ok (.istore 4, 2) := by decide +kernel
theorem dX0_payCharge_15 : decode cX0_payCharge 15 = .ok (.iload 4, 2) := by decide +kernel
theorem dX0_payCharge_17 : decode cX0_payCharge 17 = .ok (.ifCond .le 58, 3) := by decide +kernel
theorem dX0_payCharge_20 : decode cX0_payCharge 20 = .ok (.aload_n 0, 1) := by decide +kernel
theorem dX0_payCharge_21 : decode cX0_payCharge 21 = .ok (.getfield 29, 3) := by decide +kernel
theorem dX0_payCharge_24 : decode cX0_payCharge 24 = .ok (.iload_n 3, 1) := by decide +kernel
theorem dX0_payCharge_25 : decode cX0_payCharge 25 = .ok (.iconst 1, 1) := by decide +kernel
theorem dX0_payCharge_26 : decode cX0_payCharge 26 = .ok (.iload 4, 2) := by decide +kernel
theorem dX0_payCharge_28 : decode cX0_payCharge 28 = .ok (.ineg, 1) := by decide +kernel
theorem dX0_payCharge_29 : decode cX0_payCharge 29 = .ok (.invokevirtual 86, 3) := by decide +kernel
theorem dX0_payCharge_32 : decode cX0_payCharge 32 = .ok (.aload_n 0, 1) := by decide +kernel
theorem dX0_payCharge_33 : decode cX0_payCharge 33 = .ok (.getfield 33, 3) := by decide +kernel
theorem dX0_payCharge_36 : decode cX0_payCharge 36 = .ok (.invokevirtual 44, 3) := by decide +kernel
theorem dX0_payCharge_39 : decode cX0_payCharge 39 = .ok (.istore 5, 2) := by decide +kernel
theorem dX0_payCharge_41 : decode cX0_payCharge 41 = .ok (.aload_n 0, 1) := by decide +kernel
theorem dX0_payCharge_42 : decode cX0_payCharge 42 = .ok (.getfield 33, 3) := by decide +kernel
theorem dX0_payCharge_45 : decode cX0_payCharge 45 = .ok (.iload 5, 2) := by decide +kernel
theorem dX0_payCharge_47 : decode cX0_payCharge 47 = .ok (.iconst 0, 1) := by decide +kernel
theorem dX0_payCharge_48 : decode cX0_payCharge 48 = .ok (.iload_n 1, 1) := by decide +kernel
theorem dX0_payCharge_49 : decode cX0_payCharge 49 = .ok (.invokevirtual 48, 3) := by decide +kernel
theorem dX0_payCharge_52 : decode cX0_payCharge 52 = .ok (.aload_n 0, 1) := by decide +kernel
theorem dX0_payCharge_53 : decode cX0_payCharge 53 = .ok (.getfield 33, 3) := by decide +kernel
theorem dX0_payCharge_56 : decode cX0_payCharge 56 = .ok (.iload 5, 2) := by decide +kernel
theorem dX0_payCharge_58 : decode cX0_payCharge 58 = .ok (.iconst 1, 1) := by decide +kernel
theorem dX0_payCharge_59 : decode cX0_payCharge 59 = .ok (.iload_n 3, 1) := by decide +kernel
theorem dX0_payCharge_60 : decode cX0_payCharge 60 = .ok (.invokevirtual 48, 3) := by decide +kernel
theorem dX0_payCharge_63 : decode cX0_payCharge 63 = .ok (.aload_n 0, 1) := by decide +kernel
theorem dX0_payCharge_64 : decode cX0_payCharge 64 = .ok (.getfield 33, 3) := by decide +kernel
theorem dX0_payCharge_67 : decode cX0_payCharge 67 = .ok (.iload 5, 2) := by decide +kernel
theorem dX0_payCharge_69 : decode cX0_payCharge 69 = .ok (.iconst 2, 1) := by decide +kernel
theorem dX0_payCharge_70 : decode cX0_payCharge 70 = .ok (.iload 4, 2) := by decide +kernel
theorem dX0_payCharge_72 : decode cX0_payCharge 72 = .ok (.invokevirtual 48, 3) := by decide +kernel
theorem dX0_payCharge_75 : decode cX0_payCharge 75 = .ok (.aload_n 0, 1) := by decide +kernel
theorem dX0_payCharge_76 : decode cX0_payCharge 76 = .ok (.getfield 25, 3) := by decide +kernel
theorem dX0_payCharge_79 : decode cX0_payCharge 79 = .ok (.iload_n 1, 1) := by decide +kernel
theorem dX0_payCharge_80 : decode cX0_payCharge 80 = .ok (.iconst 4, 1) := by decide +kernel
theorem dX0_payCharge_81 : decode cX0_payCharge 81 = .ok (.iload_n 2, 1) := by decide +kernel
theorem dX0_payCharge_82 : decode cX0_payCharge 82 = .ok (.invokevirtual 48, 3) := by decide +kernel
theorem dX0_payCharge_85 : decode cX0_payCharge 85 = .ok (.aload_n 0, 1) := by decide +kernel
theorem dX0_payCharge_86 : decode cX0_payCharge 86 = .ok (.getfield 25, 3) := by decide +kernel
theorem dX0_payCharge_89 : decode cX0_payCharge 89 = .ok (.iload_n 1, 1) := by decide +kernel
theorem dX0_payCharge_90 : decode cX0_payCharge 90 = .ok (.iconst 5, 1) := by decide +kernel
theorem dX0_payCharge_91 : decode cX0_payCharge 91 = .ok (.iload_n 2, 1) := by decide +kernel
theorem dX0_payCharge_92 : decode cX0_payCharge 92 = .ok (.iload 4, 2) := by decide +kernel
theorem dX0_payCharge_94 : decode cX0_payCharge 94 = .ok (.isub, 1) := by decide +kernel
theorem dX0_payCharge_95 : decode cX0_payCharge 95 = .ok (.invokevirtual 48, 3) := by decide +kernel
theorem dX0_payCharge_98 : decode cX0_payCharge 98 = .ok (.aload_n 0, 1) := by decide +kernel
theorem dX0_payCharge_99 : decode cX0_payCharge 99 = .ok (.getfield 9, 3) := by decide +kernel
theorem dX0_payCharge_102 : decode cX0_payCharge 102 = .ok (.dup, 1) := by decide +kernel
theorem dX0_payCharge_103 : decode cX0_payCharge 103 = .ok (.getfield 71, 3) := by decide +kernel
theorem dX0_payCharge_106 : decode cX0_payCharge 106 = .ok (.iload_n 2, 1) := by decide +kernel
theorem dX0_payCharge_107 : decode cX0_payCharge 107 = .ok (.iload 4, 2) := by decide +kernel
theorem dX0_payCharge_109 : decode cX0_payCharge 109 = .ok (.isub, 1) := by decide +kernel
theorem dX0_payCharge_110 : decode cX0_payCharge 110 = .ok (.iadd, 1) := by decide +kernel
theorem dX0_payCharge_111 : decode cX0_payCharge 111 = .ok (.putfield 71, 3) := by decide +kernel
theorem dX0_payCharge_114 : decode cX0_payCharge 114 = .ok (.return_, 1) := by decide +kernel
theorem dX0_changeTime_0 : decode cX0_changeTime 0 = .ok (.aload_n 0, 1) := by decide +kernel
theorem dX0_changeTime_1 : decode cX0_changeTime 1 = .ok (.getfield 25, 3) := by decide +kernel
theorem dX0_changeTime_4 : decode cX0_changeTime 4 = .ok (.iload_n 1, 1) := by decide +kernel
theorem dX0_changeTime_5 : decode cX0_changeTime 5 = .ok (.invokevirtual 52, 3) := by decide +kernel
theorem dX0_changeTime_8 : decode cX0_changeTime 8 = .ok (.ifCond .eq 14, 3) := by decide +kernel
theorem dX0_changeTime_11 : decode cX0_changeTime 11 = .ok (.iload_n 2, 1) := by decide +kernel
theorem dX0_changeTime_12 : decode cX0_changeTime 12 = .ok (.iconst 0, 1) := by decide +kernel
theorem dX0_changeTime_13 : decode cX0_changeTime 13 = .ok (.sipush 720, 3) := by decide +kernel
theorem dX0_changeTime_16 : decode cX0_changeTime 16 = .ok (.invokestatic 34, 3) := by decide +kernel
theorem dX0_changeTime_19 : decode cX0_changeTime 19 = .ok (.ifCond .ne 5, 3) := by decide +kernel
theorem dX0_changeTime_22 : decode cX0_changeTime 22 = .ok (.iconst (-1), 1) := by decide +kernel
theorem dX0_changeTime_23 : decode cX0_changeTime 23 = .ok (.ireturn, 1) := by decide +kernel
theorem dX0_changeTime_24 : decode cX0_changeTime 24 = .ok (.aload_n 0, 1) := by decide +kernel
theorem dX0_changeTime_25 : decode cX0_changeTime 25 = .ok (.getfield 25, 3) := by decide +kernel
theorem dX0_changeTime_28 : decode cX0_changeTime 28 = .ok (.iload_n 1, 1) := by decide +kernel
theorem dX0_changeTime_29 : decode cX0_changeTime 29 = .ok (.iconst 0, 1) := by decide +kernel
theorem dX0_changeTime_30 : decode cX0_changeTime 30 = .ok (.invokevirtual 56, 3) := by decide +kernel
theorem dX0_changeTime_33 : decode cX0_changeTime 33 = .ok (.istore_n 3, 1) := by decide +kernel
theorem dX0_changeTime_34 : decode cX0_changeTime 34 = .ok (.aload_n 0, 1) := by decide +kernel
theorem dX0_changeTime_35 : decode cX0_changeTime 35 = .ok (.getfield 9, 3) := by decide +kernel
theorem dX0_changeTime_38 : decode cX0_changeTime 38 = .ok (.iload_n 1, 1) := by decide +kernel
theorem dX0_changeTime_39 : decode cX0_changeTime 39 = .ok (.invokevirtual 89, 3) := by decide +kernel
theorem dX0_changeTime_42 : decode cX0_changeTime 42 = .ok (.ifCond .eq 16, 3) := by decide +kernel
theorem dX0_changeTime_45 : decode cX0_changeTime 45 = .ok (.aload_n 0, 1) := by decide +kernel
theorem dX0_changeTime_46 : decode cX0_changeTime 46 = .ok (.getfield 9, 3) := by decide +kernel
theorem dX0_changeTime_49 : decode cX0_changeTime 49 = .ok (.iload_n 3, 1) := by decide +kernel
theorem dX0_changeTime_50 : decode cX0_changeTime 50 = .ok (.iload_n 2, 1) := by decide +kernel
theorem dX0_changeTime_51 : decode cX0_changeTime 51 = .ok (.iload_n 1, 1) := by decide +kernel
theorem dX0_changeTime_52 : decode cX0_changeTime 52 = .ok (.invokevirtual 75, 3) := by decide +kernel
theorem dX0_changeTime_55 : decode cX0_changeTime 55 = .ok (.ifCond .ne 6, 3) := by decide +kernel
theorem dX0_changeTime_58 : decode cX0_changeTime 58 = .ok (.bipush (-2), 2) := by decide +kernel
theorem dX0_changeTime_60 : decode cX0_changeTime 60 = .ok (.ireturn, 1) := by decide +kernel
theorem dX0_changeTime_61 : decode cX0_changeTime 61 = .ok (.aload_n 0, 1) := by decide +kernel
theorem dX0_changeTime_62 : decode cX0_changeTime 62 = .ok (.getfield 25, 3) := by decide +kernel
theorem dX0_changeTime_65 : decode cX0_changeTime 65 = .ok (.iload_n 1, 1) := by decide +kernel
theorem dX0_changeTime_66 : decode cX0_changeTime 66 = .ok (.iconst 1, 1) := by decide +kernel
theorem dX0_changeTime_67 : decode cX0_changeTime 67 = .ok (.invokevirtual 56, 3) := by decide +kernel
theorem dX0_changeTime_70 : decode cX0_changeTime 70 = .ok (.istore 4, 2) := by decide +kernel
theorem dX0_changeTime_72 : decode cX0_changeTime 72 = .ok (.aload_n 0, 1) := by decide +kernel
theorem dX0_changeTime_73 : decode cX0_changeTime 73 = .ok (.getfield 25, 3) := by decide +kernel
theorem dX0_changeTime_76 : decode cX0_changeTime 76 = .ok (.iload_n 1, 1) := by decide +kernel
theorem dX0_changeTime_77 : decode cX0_changeTime 77 = .ok (.iconst 1, 1) := by decide +kernel
theorem dX0_changeTime_78 : decode cX0_changeTime 78 = .ok (.iload_n 2, 1) := by decide +kernel
theorem dX0_changeTime_79 : decode cX0_changeTime 79 = .ok (.invokevirtual 48, 3) := by decide +kernel
theorem dX0_changeTime_82 : decode cX0_changeTime 82 = .ok (.iload 4, 2) := by decide +kernel
theorem dX0_changeTime_84 : decode cX0_changeTime 84 = .ok (.ireturn, 1) := by decide +kernel
theorem dX0_callOff_0 : decode cX0_callOff 0 = .ok (.aload_n 0, 1) := by decide +kernel
theorem dX0_callOff_1 : decode cX0_callOff 1 = .ok (.getfield 25, 3) := by decide +kernel
theorem dX0_callOff_4 : decode cX0_callOff 4 = .ok (.iload_n 1, 1) := by decide +kernel
theorem dX0_callOff_5 : decode cX0_callOff 5 = .ok (.invokevirtual 52, 3) := by decide +kernel
theorem dX0_callOff_8 : decode cX0_callOff 8 = .ok (.ifCond .ne 5, 3) := by decide +kernel
theorem dX0_callOff_11 : decode cX0_callOff 11 = .ok (.iconst (-1), 1) := by decide +kernel
theorem dX0_callOff_12 : decode cX0_callOff 12 = .ok (.ireturn, 1) := by decide +kernel
theorem dX0_callOff_13 : decode cX0_callOff 13 = .ok (.aload_n 0, 1) := by decide +kernel
theorem dX0_callOff_14 : decode cX0_callOff 14 = .ok (.getfield 9, 3) := by decide +kernel
theorem dX0_callOff_17 : decode cX0_callOff 17 = .ok (.iload_n 1, 1) := by decide +kernel
theorem dX0_callOff_18 : decode cX0_callOff 18 = .ok (.invokevirtual 89, 3) := by decide +kernel
theorem dX0_callOff_21 : decode cX0_callOff 21 = .ok (.ifCond .ne 6, 3) := by decide +kernel
theorem dX0_callOff_24 : decode cX0_callOff 24 = .ok (.bipush (-2), 2) := by decide +kernel
theorem dX0_callOff_26 : decode cX0_callOff 26 = .ok (.ireturn, 1) := by decide +kernel
theorem dX0_callOff_27 : decode cX0_callOff 27 = .ok (.aload_n 0, 1) := by decide +kernel
theorem dX0_callOff_28 : decode cX0_callOff 28 = .ok (.getfield 9, 3) := by decide +kernel
theorem dX0_callOff_31 : decode cX0_callOff 31 = .ok (.iload_n 1, 1) := by decide +kernel
theorem dX0_callOff_32 : decode cX0_callOff 32 = .ok (.invokevirtual 92, 3) := by decide +kernel
theorem dX0_callOff_35 : decode cX0_callOff 35 = .ok (.aload_n 0, 1) := by decide +kernel
theorem dX0_callOff_36 : decode cX0_callOff 36 = .ok (.getfield 25, 3) := by decide +kernel
theorem dX0_callOff_39 : decode cX0_callOff 39 = .ok (.iload_n 1, 1) := by decide +kernel
theorem dX0_callOff_40 : decode cX0_callOff 40 = .ok (.iconst 1, 1) := by decide +kernel
theorem dX0_callOff_41 : decode cX0_callOff 41 = .ok (.invokevirtual 56, 3) := by decide +kernel
theorem dX0_callOff_44 : decode cX0_callOff 44 = .ok (.isub, 1) := by decide +kernel
theorem dX0_callOff_45 : decode cX0_callOff 45 = .ok (.istore_n 2, 1) := by decide +kernel
theorem dX0_callOff_46 : decode cX0_callOff 46 = .ok (.aload_n 0, 1) := by decide +kernel
theorem dX0_callOff_47 : decode cX0_callOff 47 = .ok (.getfield 25, 3) := by decide +kernel
theorem dX0_callOff_50 : decode cX0_callOff 50 = .ok (.iload_n 1, 1) := by decide +kernel
theorem dX0_callOff_51 : decode cX0_callOff 51 = .ok (.iconst 5, 1) := by decide +kernel
theorem dX0_callOff_52 : decode cX0_callOff 52 = .ok (.invokevirtual 56, 3) := by decide +kernel
theorem dX0_callOff_55 : decode cX0_callOff 55 = .ok (.aload_n 0, 1) := by decide +kernel
theorem dX0_callOff_56 : decode cX0_callOff 56 = .ok (.getfield 9, 3) := by decide +kernel
theorem dX0_callOff_59 : decode cX0_callOff 59 = .ok (.iload_n 1, 1) := by decide +kernel
theorem dX0_callOff_60 : decode cX0_callOff 60 = .ok (.invokevirtual 95, 3) := by decide +kernel
theorem dX0_callOff_63 : decode cX0_callOff 63 = .ok (.iadd, 1) := by decide +kernel
theorem dX0_callOff_64 : decode cX0_callOff 64 = .ok (.istore_n 3, 1) := by decide +kernel
theorem dX0_callOff_65 : decode cX0_callOff 65 = .ok (.iload_n 2, 1) := by decide +kernel
theorem dX0_callOff_66 : decode cX0_callOff 66 = .ok (.aload_n 0, 1) := by decide +kernel
theorem dX0_callOff_67 : decode cX0_callOff 67 = .ok (.getfield 9, 3) := by decide +kernel
theorem dX0_callOff_70 : decode cX0_callOff 70 = .ok (.iconst 3, 1) := by decide +kernel
theorem dX0_callOff_71 : decode cX0_callOff 71 = .ok (.invokevirtual 64, 3) := by decide +kernel
theorem dX0_callOff_74 : decode cX0_callOff 74 = .ok (.if_icmp .le 7, 3) := by decide +kernel
theorem dX0_callOff_77 : decode cX0_callOff 77 = .ok (.iload_n 3, 1) := by decide +kernel
theorem dX0_callOff_78 : decode cX0_callOff 78 = .ok (.goto 6, 3) := by decide +kernel
theorem dX0_callOff_81 : decode cX0_callOff 81 = .ok (.iload_n 3, 1) := by decide +kernel
theorem dX0_callOff_82 : decode cX0_callOff 82 = .ok (.iconst 2, 1) := by decide +kernel
theorem dX0_callOff_83 : decode cX0_callOff 83 = .ok (.idiv, 1) := by decide +kernel
theorem dX0_callOff_84 : decode cX0_callOff 84 = .ok (.istore 4, 2) := by decide +kernel
theorem dX0_callOff_86 : decode cX0_callOff 86 = .ok (.aload_n 0, 1) := by decide +kernel
theorem dX0_callOff_87 : decode cX0_callOff 87 = .ok (.getfield 25, 3) := by decide +kernel
theorem dX0_callOff_90 : decode cX0_callOff 90 = .ok (.iload_n 1, 1) := by decide +kernel
theorem dX0_callOff_91 : decode cX0_callOff 91 = .ok (.iconst 3, 1) := by decide +kernel
theorem dX0_callOff_92 : decode cX0_callOff 92 = .ok (.iconst 2, 1) := by decide +kernel
theorem dX0_callOff_93 : decode cX0_callOff 93 = .ok (.invokevirtual 48, 3) := by decide +kernel
theorem dX0_callOff_96 : decode cX0_callOff 96 = .ok (.aload_n 0, 1) := by decide +kernel
theorem dX0_callOff_97 : decode cX0_callOff 97 = .ok (.iload_n 1, 1) := by decide +kernel
theorem dX0_callOff_98 : decode cX0_callOff 98 = .ok (.iload 4, 2) := by decide +kernel
theorem dX0_callOff_100 : decode cX0_callOff 100 = .ok (.invokevirtual 98, 3) := by decide +kernel
theorem dX0_callOff_103 : decode cX0_callOff 103 = .ok (.iload 4, 2) := by decide +kernel
theorem dX0_callOff_105 : decode cX0_callOff 105 = .ok (.ireturn, 1) := by decide +kernel
theorem dX0_refund_0 : decode cX0_refund 0 = .ok (.iload_n 2, 1) := by decide +kernel
theorem dX0_refund_1 : decode cX0_refund 1 = .ok (.aload_n 0, 1) := by decide +kernel
theorem dX0_refund_2 : decode cX0_refund 2 = .ok (.getfield 25, 3) := by decide +kernel
theorem dX0_refund_5 : decode cX0_refund 5 = .ok (.iload_n 1, 1) := by decide +kernel
theorem dX0_refund_6 : decode cX0_refund 6 = .ok (.iconst 5, 1) := by decide +kernel
theorem dX0_refund_7 : decode cX0_refund 7 = .ok (.invokevirtual 56, 3) := by decide +kernel
theorem dX0_refund_10 : decode cX0_refund 10 = .ok (.invokestatic 81, 3) := by decide +kernel
theorem dX0_refund_13 : decode cX0_refund 13 = .ok (.istore_n 3, 1) := by decide +kernel
theorem dX0_refund_14 : decode cX0_refund 14 = .ok (.aload_n 0, 1) := by decide +kernel
theorem dX0_refund_15 : decode cX0_refund 15 = .ok (.getfield 25, 3) := by decide +kernel
theorem dX0_refund_18 : decode cX0_refund 18 = .ok (.iload_n 1, 1) := by decide +kernel
theorem dX0_refund_19 : decode cX0_refund 19 = .ok (.iconst 5, 1) := by decide +kernel
theorem dX0_refund_20 : decode cX0_refund 20 = .ok (.iload_n 3, 1) := by decide +kernel
theorem dX0_refund_21 : decode cX0_refund 21 = .ok (.ineg, 1) := by decide +kernel
theorem dX0_refund_22 : decode cX0_refund 22 = .ok (.invokevirtual 86, 3) := by decide +kernel
theorem dX0_refund_25 : decode cX0_refund 25 = .ok (.aload_n 0, 1) := by decide +kernel
theorem dX0_refund_26 : decode cX0_refund 26 = .ok (.getfield 9, 3) := by decide +kernel
theorem dX0_refund_29 : decode cX0_refund 29 = .ok (.dup, 1) := by decide +kernel
theorem dX0_refund_30 : decode cX0_refund 30 = .ok (.getfield 71, 3) := by decide +kernel
theorem dX0_refund_33 : decode cX0_refund 33 = .ok (.iload_n 3, 1) := by decide +kernel
theorem dX0_refund_34 : decode cX0_refund 34 = .ok (.isub, 1) := by decide +kernel
theorem dX0_refund_35 : decode cX0_refund 35 = .ok (.putfield 71, 3) := by decide +kernel
theorem dX0_refund_38 : decode cX0_refund 38 = .ok (.iload_n 2, 1) := by decide +kernel
theorem dX0_refund_39 : decode cX0_refund 39 = .ok (.iload_n 3, 1) := by decide +kernel
theorem dX0_refund_40 : decode cX0_refund 40 = .ok (.isub, 1) := by decide +kernel
theorem dX0_refund_41 : decode cX0_refund 41 = .ok (.istore 4, 2) := by decide +kernel
theorem dX0_refund_43 : decode cX0_refund 43 = .ok (.bipush 15, 2) := by decide +kernel
theorem dX0_refund_45 : decode cX0_refund 45 = .ok (.istore 5, 2) := by decide +kernel
theorem dX0_refund_47 : decode cX0_refund 47 = .ok (.iload 5, 2) := by decide +kernel
theorem dX0_refund_49 : decode cX0_refund 49 = .ok (.ifCond .lt 35, 3) := by decide +kernel
theorem dX0_refund_52 : decode cX0_refund 52 = .ok (.iload 4, 2) := by decide +kernel
theorem dX0_refund_54 : decode cX0_refund 54 = .ok (.ifCond .le 30, 3) := by decide +kernel
theorem dX0_refund_57 : decode cX0_refund 57 = .ok (.iload 4, 2) := by decide +kernel
theorem dX0_refund_59 : decode cX0_refund 59 = .ok (.aload_n 0, 1) := by decide +kernel
theorem dX0_refund_60 : decode cX0_refund 60 = .ok (.aload_n 0, 1) := by decide +kernel
theorem dX0_refund_61 : decode cX0_refund 61 = .ok (.getfield 9, 3) := by decide +kernel
theorem dX0_refund_64 : decode cX0_refund 64 = .ok (.iload_n 1, 1) := by decide +kernel
theorem dX0_refund_65 : decode cX0_refund 65 = .ok (.iload 5, 2) := by decide +kernel
theorem dX0_refund_67 : decode cX0_refund 67 = .ok (.invokevirtual 102, 3) := by decide +kernel
theorem dX0_refund_70 : decode cX0_refund 70 = .ok (.iload 4, 2) := by decide +kernel
theorem dX0_refund_72 : decode cX0_refund 72 = .ok (.invokevirtual 105, 3) := by decide +kernel
theorem dX0_refund_75 : decode cX0_refund 75 = .ok (.isub, 1) := by decide +kernel
theorem dX0_refund_76 : decode cX0_refund 76 = .ok (.istore 4, 2) := by decide +kernel
theorem dX0_refund_78 : decode cX0_refund 78 = .ok (.iinc 5 (-1), 3) := by decide +kernel
theorem dX0_refund_81 : decode cX0_refund 81 = .ok (.goto (-34), 3) := by decide +kernel
theorem dX0_refund_84 : decode cX0_refund 84 = .ok (.aload_n 0, 1) := by decide +kernel
theorem dX0_refund_85 : decode cX0_refund 85 = .ok (.getfield 25, 3) := by decide +kernel
theorem dX0_refund_88 : decode cX0_refund 88 = .ok (.iload_n 1, 1) := by decide +kernel
theorem dX0_refund_89 : decode cX0_refund 89 = .ok (.bipush 7, 2) := by decide +kernel
theorem dX0_refund_91 : decode cX0_refund 91 = .ok (.iload_n 2, 1) := by decide +kernel
theorem dX0_refund_92 : decode cX0_refund 92 = .ok (.iload 4, 2) := by decide +kernel
theorem dX0_refund_94 : decode cX0_refund 94 = .ok (.isub, 1) := by decide +kernel
theorem dX0_refund_95 : decode cX0_refund 95 = .ok (.invokevirtual 86, 3) := by decide +kernel
theorem dX0_refund_98 : decode cX0_refund 98 = .ok (.return_, 1) := by decide +kernel
theorem dX0_refundPayment_0 : decode cX0_refundPayment 0 = .ok (.iload_n 2, 1) := by decide +kernel
theorem dX0_refundPayment_1 : decode cX0_refundPayment 1 = .ok (.aload_n 0, 1) := by decide +kernel
theorem dX0_refundPayment_2 : decode cX0_refundPayment 2 = .ok (.getfield 33, 3) := by decide +kernel
theorem dX0_refundPayment_5 : decode cX0_refundPayment 5 = .ok (.iload_n 1, 1) := by decide +kernel
theorem dX0_refundPayment_6 : decode cX0_refundPayment 6 = .ok (.iconst 2, 1) := by decide +kernel
theorem dX0_refundPayment_7 : decode cX0_refundPayment 7 = .ok (.invokevirtual 56, 3) := by decide +kernel
theorem dX0_refundPayment_10 : decode cX0_refundPayment 10 = .ok (.invokestatic 81, 3) := by decide +kernel
theorem dX0_refundPayment_13 : decode cX0_refundPayment 13 = .ok (.istore_n 3, 1) := by decide +kernel
theorem dX0_refundPayment_14 : decode cX0_refundPayment 14 = .ok (.iload_n 3, 1) := by decide +kernel
theorem dX0_refundPayment_15 : decode cX0_refundPayment 15 = .ok (.ifCond .le 32, 3) := by decide +kernel
theorem dX0_refundPayment_18 : decode cX0_refundPayment 18 = .ok (.aload_n 0, 1) := by decide +kernel
theorem dX0_refundPayment_19 : decode cX0_refundPayment 19 = .ok (.getfield 33, 3) := by decide +kernel
theorem dX0_refundPayment_22 : decode cX0_refundPayment 22 = .ok (.iload_n 1, 1) := by decide +kernel
theorem dX0_refundPayment_23 : decode cX0_refundPayment 23 = .ok (.iconst 2, 1) := by decide +kernel
theorem dX0_refundPayment_24 : decode cX0_refundPayment 24 = .ok (.iload_n 3, 1) := by decide +kernel
theorem dX0_refundPayment_25 : decode cX0_refundPayment 25 = .ok (.ineg, 1) := by decide +kernel
theorem dX0_refundPayment_26 : decode cX0_refundPayment 26 = .ok (.invokevirtual 86, 3) := by decide +kernel
theorem dX0_refundPayment_29 : decode cX0_refundPayment 29 = .ok (.aload_n 0, 1) := by decide +kernel
theorem dX0_refundPayment_30 : decode cX0_refundPayment 30 = .ok (.getfield 29, 3) := by decide +kernel
theorem dX0_refundPayment_33 : decode cX0_refundPayment 33 = .ok (.aload_n 0, 1) := by decide +kernel
theorem dX0_refundPayment_34 : decode cX0_refundPayment 34 = .ok (.getfield 33, 3) := by decide +kernel
theorem dX0_refundPayment_37 : decode cX0_refundPayment 37 = .ok (.iload_n 1, 1) := by decide +kernel
theorem dX0_refundPayment_38 : decode cX0_refundPayment 38 = .ok (.iconst 1, 1) := by decide +kernel
theorem dX0_refundPayment_39 : decode cX0_refundPayment 39 = .ok (.invokevirtual 56, 3) := by decide +kernel
theorem dX0_refundPayment_42 : decode cX0_refundPayment 42 = .ok (.iconst 1, 1) := by decide +kernel
theorem dX0_refundPayment_43 : decode cX0_refundPayment 43 = .ok (.iload_n 3, 1) := by decide +kernel
theorem dX0_refundPayment_44 : decode cX0_refundPayment 44 = .ok (.invokevirtual 86, 3) := by decide +kernel
theorem dX0_refundPayment_47 : decode cX0_refundPayment 47 = .ok (.iload_n 3, 1) := by decide +kernel
theorem dX0_refundPayment_48 : decode cX0_refundPayment 48 = .ok (.ireturn, 1) := by decide +kernel
theorem dX0_joinTeams_0 : decode cX0_joinTeams 0 = .ok (.aload_n 0, 1) := by decide +kernel
theorem dX0_joinTeams_1 : decode cX0_joinTeams 1 = .ok (.getfield 25, 3) := by decide +kernel
theorem dX0_joinTeams_4 : decode cX0_joinTeams 4 = .ok (.iload_n 1, 1) := by decide +kernel
theorem dX0_joinTeams_5 : decode cX0_joinTeams 5 = .ok (.invokevirtual 52, 3) := by decide +kernel
theorem dX0_joinTeams_8 : decode cX0_joinTeams 8 = .ok (.ifCond .eq 19, 3) := by decide +kernel
theorem dX0_joinTeams_11 : decode cX0_joinTeams 11 = .ok (.aload_n 0, 1) := by decide +kernel
theorem dX0_joinTeams_12 : decode cX0_joinTeams 12 = .ok (.getfield 25, 3) := by decide +kernel
theorem dX0_joinTeams_15 : decode cX0_joinTeams 15 = .ok (.iload_n 2, 1) := by decide +kernel
theorem dX0_joinTeams_16 : decode cX0_joinTeams 16 = .ok (.invokevirtual 52, 3) := by decide +kernel
theorem dX0_joinTeams_19 : decode cX0_joinTeams 19 = .ok (.ifCond .eq 8, 3) := by decide +kernel
theorem dX0_joinTeams_22 : decode cX0_joinTeams 22 = .ok (.iload_n 1, 1) := by decide +kernel
theorem dX0_joinTeams_23 : decode cX0_joinTeams 23 = .ok (.iload_n 2, 1) := by decide +kernel
theorem dX0_joinTeams_24 : decode cX0_joinTeams 24 = .ok (.if_icmp .ne 5, 3) := by decide +kernel
theorem dX0_joinTeams_27 : decode cX0_joinTeams 27 = .ok (.iconst (-1), 1) := by decide +kernel
theorem dX0_joinTeams_28 : decode cX0_joinTeams 28 = .ok (.ireturn, 1) := by decide +kernel
theorem dX0_joinTeams_29 : decode cX0_joinTeams 29 = .ok (.aload_n 0, 1) := by decide +kernel
theorem dX0_joinTeams_30 : decode cX0_joinTeams 30 = .ok (.getfield 25, 3) := by decide +kernel
theorem dX0_joinTeams_33 : decode cX0_joinTeams 33 = .ok (.iload_n 2, 1) := by decide +kernel
theorem dX0_joinTeams_34 : decode cX0_joinTeams 34 = .ok (.iconst 0, 1) := by decide +kernel
theorem dX0_joinTeams_35 : decode cX0_joinTeams 35 = .ok (.invokevirtual 56, 3) := by decide +kernel
theorem dX0_joinTeams_38 : decode cX0_joinTeams 38 = .ok (.istore_n 3, 1) := by decide +kernel
theorem dX0_joinTeams_39 : decode cX0_joinTeams 39 = .ok (.aload_n 0, 1) := by decide +kernel
theorem dX0_joinTeams_40 : decode cX0_joinTeams 40 = .ok (.getfield 9, 3) := by decide +kernel
theorem dX0_joinTeams_43 : decode cX0_joinTeams 43 = .ok (.iload_n 1, 1) := by decide +kernel
theorem dX0_joinTeams_44 : decode cX0_joinTeams 44 = .ok (.invokevirtual 89, 3) := by decide +kernel
theorem dX0_joinTeams_47 : decode cX0_joinTeams 47 = .ok (.ifCond .eq 27, 3) := by decide +kernel
theorem dX0_joinTeams_50 : decode cX0_joinTeams 50 = .ok (.aload_n 0, 1) := by decide +kernel
theorem dX0_joinTeams_51 : decode cX0_joinTeams 51 = .ok (.getfield 9, 3) := by decide +kernel
theorem dX0_joinTeams_54 : decode cX0_joinTeams 54 = .ok (.iload_n 2, 1) := by decide +kernel
theorem dX0_joinTeams_55 : decode cX0_joinTeams 55 = .ok (.invokevirtual 89, 3) := by decide +kernel
theorem dX0_joinTeams_58 : decode cX0_joinTeams 58 = .ok (.ifCond .eq 16, 3) := by decide +kernel
theorem dX0_joinTeams_61 : decode cX0_joinTeams 61 = .ok (.aload_n 0, 1) := by decide +kernel
theorem dX0_joinTeams_62 : decode cX0_joinTeams 62 = .ok (.getfield 25, 3) := by decide +kernel
theorem dX0_joinTeams_65 : decode cX0_joinTeams 65 = .ok (.iload_n 1, 1) := by decide +kernel
theorem dX0_joinTeams_66 : decode cX0_joinTeams 66 = .ok (.iconst 0, 1) := by decide +kernel
theorem dX0_joinTeams_67 : decode cX0_joinTeams 67 = .ok (.invokevirtual 56, 3) := by decide +kernel
theorem dX0_joinTeams_70 : decode cX0_joinTeams 70 = .ok (.iload_n 3, 1) := by decide +kernel
theorem dX0_joinTeams_71 : decode cX0_joinTeams 71 = .ok (.if_icmp .eq 6, 3) := by decide +kernel
theorem dX0_joinTeams_74 : decode cX0_joinTeams 74 = .ok (.bipush (-2), 2) := by decide +kernel
theorem dX0_joinTeams_76 : decode cX0_joinTeams 76 = .ok (.ireturn, 1) := by decide +kernel
theorem dX0_joinTeams_77 : decode cX0_joinTeams 77 = .ok (.aload_n 0, 1) := by decide +kernel
theorem dX0_joinTeams_78 : decode cX0_joinTeams 78 = .ok (.getfield 25, 3) := by decide +kernel
theorem dX0_joinTeams_81 : decode cX0_joinTeams 81 = .ok (.iload_n 1, 1) := by decide +kernel
theorem dX0_joinTeams_82 : decode cX0_joinTeams 82 = .ok (.iconst 2, 1) := by decide +kernel
theorem dX0_joinTeams_83 : decode cX0_joinTeams 83 = .ok (.invokevirtual 56, 3) := by decide +kernel
theorem dX0_joinTeams_86 : decode cX0_joinTeams 86 = .ok (.aload_n 0, 1) := by decide +kernel
theorem dX0_joinTeams_87 : decode cX0_joinTeams 87 = .ok (.getfield 25, 3) := by decide +kernel
theorem dX0_joinTeams_90 : decode cX0_joinTeams 90 = .ok (.iload_n 2, 1) := by decide +kernel
theorem dX0_joinTeams_91 : decode cX0_joinTeams 91 = .ok (.iconst 2, 1) := by decide +kernel
theorem dX0_joinTeams_92 : decode cX0_joinTeams 92 = .ok (.invokevirtual 56, 3) := by decide +kernel
theorem dX0_joinTeams_95 : decode cX0_joinTeams 95 = .ok (.iadd, 1) := by decide +kernel
theorem dX0_joinTeams_96 : decode cX0_joinTeams 96 = .ok (.istore 4, 2) := by decide +kernel
theorem dX0_joinTeams_98 : decode cX0_joinTeams 98 = .ok (.iload 4, 2) := by decide +kernel
theorem dX0_joinTeams_100 : decode cX0_joinTeams 100 = .ok (.aload_n 0, 1) := by decide +kernel
theorem dX0_joinTeams_101 : decode cX0_joinTeams 101 = .ok (.getfield 21, 3) := by decide +kernel
theorem dX0_joinTeams_104 : decode cX0_joinTeams 104 = .ok (.iload_n 3, 1) := by decide +kernel
theorem dX0_joinTeams_105 : decode cX0_joinTeams 105 = .ok (.iconst 3, 1) := by decide +kernel
theorem dX0_joinTeams_106 : decode cX0_joinTeams 106 = .ok (.invokevirtual 56, 3) := by decide +kernel
theorem dX0_joinTeams_109 : decode cX0_joinTeams 109 = .ok (.if_icmp .le 6, 3) := by decide +kernel
theorem dX0_joinTeams_112 : decode cX0_joinTeams 112 = .ok (.bipush (-3), 2) := by decide +kernel
theorem dX0_joinTeams_114 : decode cX0_joinTeams 114 = .ok (.ireturn, 1) := by decide +kernel
theorem dX0_joinTeams_115 : decode cX0_joinTeams 115 = .ok (.aload_n 0, 1) := by decide +kernel
theorem dX0_joinTeams_116 : decode cX0_joinTeams 116 = .ok (.iload_n 1, 1) := by decide +kernel
theorem dX0_joinTeams_117 : decode cX0_joinTeams 117 = .ok (.iload_n 2, 1) := by decide +kernel
theorem dX0_joinTeams_118 : decode cX0_joinTeams 118 = .ok (.iconst 2, 1) := by decide +kernel
theorem dX0_joinTeams_119 : decode cX0_joinTeams 119 = .ok (.invokevirtual 108, 3) := by decide +kernel
theorem dX0_joinTeams_122 : decode cX0_joinTeams 122 = .ok (.aload_n 0, 1) := by decide +kernel
theorem dX0_joinTeams_123 : decode cX0_joinTeams 123 = .ok (.iload_n 1, 1) := by decide +kernel
theorem dX0_joinTeams_124 : decode cX0_joinTeams 124 = .ok (.iload_n 2, 1) := by decide +kernel
theorem dX0_joinTeams_125 : decode cX0_joinTeams 125 = .ok (.iconst 4, 1) := by decide +kernel
theorem dX0_joinTeams_126 : decode cX0_joinTeams 126 = .ok (.invokevirtual 108, 3) := by decide +kernel
theorem dX0_joinTeams_129 : decode cX0_joinTeams 129 = .ok (.aload_n 0, 1) := by decide +kernel
theorem dX0_joinTeams_130 : decode cX0_joinTeams 130 = .ok (.iload_n 1, 1) := by decide +kernel
theorem dX0_joinTeams_131 : decode cX0_joinTeams 131 = .ok (.iload_n 2, 1) := by decide +kernel
theorem dX0_joinTeams_132 : decode cX0_joinTeams 132 = .ok (.iconst 5, 1) := by decide +kernel
theorem dX0_joinTeams_133 : decode cX0_joinTeams 133 = .ok (.invokevirtual 108, 3) := by decide +kernel
theorem dX0_joinTeams_136 : decode cX0_joinTeams 136 = .ok (.aload_n 0, 1) := by decide +kernel
theorem dX0_joinTeams_137 : decode cX0_joinTeams 137 = .ok (.iload_n 1, 1) := by decide +kernel
theorem dX0_joinTeams_138 : decode cX0_joinTeams 138 = .ok (.iload_n 2, 1) := by decide +kernel
theorem dX0_joinTeams_139 : decode cX0_joinTeams 139 = .ok (.invokevirtual 111, 3) := by decide +kernel
theorem dX0_joinTeams_142 : decode cX0_joinTeams 142 = .ok (.aload_n 0, 1) := by decide +kernel
theorem dX0_joinTeams_143 : decode cX0_joinTeams 143 = .ok (.getfield 25, 3) := by decide +kernel
theorem dX0_joinTeams_146 : decode cX0_joinTeams 146 = .ok (.iload_n 1, 1) := by decide +kernel
theorem dX0_joinTeams_147 : decode cX0_joinTeams 147 = .ok (.iconst 3, 1) := by decide +kernel
theorem dX0_joinTeams_148 : decode cX0_joinTeams 148 = .ok (.iconst 3, 1) := by decide +kernel
theorem dX0_joinTeams_149 : decode cX0_joinTeams 149 = .ok (.invokevirtual 48, 3) := by decide +kernel
theorem dX0_joinTeams_152 : decode cX0_joinTeams 152 = .ok (.iload 4, 2) := by decide +kernel
theorem dX0_joinTeams_154 : decode cX0_joinTeams 154 = .ok (.ireturn, 1) := by decide +kernel
theorem dX0_handOver_0 : decode cX0_handOver 0 = .ok (.aload_n 0, 1) := by decide +kernel
theorem dX0_handOver_1 : decode cX0_handOver 1 = .ok (.getfield 25, 3) := by decide +kernel
theorem dX0_handOver_4 : decode cX0_handOver 4 = .ok (.iload_n 2, 1) := by decide +kernel
theorem dX0_handOver_5 : decode cX0_handOver 5 = .ok (.iload_n 3, 1) := by decide +kernel
theorem dX0_handOver_6 : decode cX0_handOver 6 = .ok (.aload_n 0, 1) := by decide +kernel
theorem dX0_handOver_7 : decode cX0_handOver 7 = .ok (.getfield 25, 3) := by decide +kernel
theorem dX0_handOver_10 : decode cX0_handOver 10 = .ok (.iload_n 1, 1) := by decide +kernel
theorem dX0_handOver_11 : decode cX0_handOver 11 = .ok (.iload_n 3, 1) := by decide +kernel
theorem dX0_handOver_12 : decode cX0_handOver 12 = .ok (.invokevirtual 56, 3) := by decide +kernel
theorem dX0_handOver_15 : decode cX0_handOver 15 = .ok (.invokevirtual 86, 3) := by decide +kernel
theorem dX0_handOver_18 : decode cX0_handOver 18 = .ok (.aload_n 0, 1) := by decide +kernel
theorem dX0_handOver_19 : decode cX0_handOver 19 = .ok (.getfield 25, 3) := by decide +kernel
theorem dX0_handOver_22 : decode cX0_handOver 22 = .ok (.iload_n 1, 1) := by decide +kernel
theorem dX0_handOver_23 : decode cX0_handOver 23 = .ok (.iload_n 3, 1) := by decide +kernel
theorem dX0_handOver_24 : decode cX0_handOver 24 = .ok (.iconst 0, 1) := by decide +kernel
theorem dX0_handOver_25 : decode cX0_handOver 25 = .ok (.invokevirtual 48, 3) := by decide +kernel
theorem dX0_handOver_28 : decode cX0_handOver 28 = .ok (.return_, 1) := by decide +kernel
theorem dX0_handOverPayments_0 : decode cX0_handOverPayments 0 = .ok (.aload_n 0, 1) := by decide +kernel
theorem dX0_handOverPayments_1 : decode cX0_handOverPayments 1 = .ok (.getfield 9, 3) := by decide +kernel
theorem dX0_handOverPayments_4 : decode cX0_handOverPayments 4 = .ok (.iload_n 2, 1) := by decide +kernel
theorem dX0_handOverPayments_5 : decode cX0_handOverPayments 5 = .ok (.invokevirtual 114, 3) := by decide +kernel
theorem dX0_handOverPayments_8 : decode cX0_handOverPayments 8 = .ok (.istore_n 3, 1) := by decide +kernel
theorem dX0_handOverPayments_9 : decode cX0_handOverPayments 9 = .ok (.iconst 0, 1) := by decide +kernel
theorem dX0_handOverPayments_10 : decode cX0_handOverPayments 10 = .ok (.istore 4, 2) := by decide +kernel
theorem dX0_handOverPayments_12 : decode cX0_handOverPayments 12 = .ok (.iload 4, 2) := by decide +kernel
theorem dX0_handOverPayments_14 : decode cX0_handOverPayments 14 = .ok (.aload_n 0, 1) := by decide +kernel
theorem dX0_handOverPayments_15 : decode cX0_handOverPayments 15 = .ok (.getfield 33, 3) := by decide +kernel
theorem dX0_handOverPayments_18 : decode cX0_handOverPayments 18 = .ok (.invokevirtual 117, 3) := by decide +kernel
theorem dX0_handOverPayments_21 : decode cX0_handOverPayments 21 = .ok (.if_icmp .ge 45, 3) := by decide +kernel
theorem dX0_handOverPayments_24 : decode cX0_handOverPayments 24 = .ok (.aload_n 0, 1) := by decide +kernel
theorem dX0_handOverPayments_25 : decode cX0_handOverPayments 25 = .ok (.getfield 33, 3) := by decide +kernel
theorem dX0_handOverPayments_28 : decode cX0_handOverPayments 28 = .ok (.iload 4, 2) := by decide +kernel
theorem dX0_handOverPayments_30 : decode cX0_handOverPayments 30 = .ok (.iconst 0, 1) := by decide +kernel
theorem dX0_handOverPayments_31 : decode cX0_handOverPayments 31 = .ok (.invokevirtual 56, 3) := by decide +kernel
theorem dX0_handOverPayments_34 : decode cX0_handOverPayments 34 = .ok (.iload_n 1, 1) := by decide +kernel
theorem dX0_handOverPayments_35 : decode cX0_handOverPayments 35 = .ok (.if_icmp .ne 25, 3) := by decide +kernel
theorem dX0_handOverPayments_38 : decode cX0_handOverPayments 38 = .ok (.aload_n 0, 1) := by decide +kernel
theorem dX0_handOverPayments_39 : decode cX0_handOverPayments 39 = .ok (.getfield 33, 3) := by decide +kernel
theorem dX0_handOverPayments_42 : decode cX0_handOverPayments 42 = .ok (.iload 4, 2) := by decide +kernel
theorem dX0_handOverPayments_44 : decode cX0_handOverPayments 44 = .ok (.iconst 0, 1) := by decide +kernel
theorem dX0_handOverPayments_45 : decode cX0_handOverPayments 45 = .ok (.iload_n 2, 1) := by decide +kernel
theorem dX0_handOverPayments_46 : decode cX0_handOverPayments 46 = .ok (.invokevirtual 48, 3) := by decide +kernel
theorem dX0_handOverPayments_49 : decode cX0_handOverPayments 49 = .ok (.aload_n 0, 1) := by decide +kernel
theorem dX0_handOverPayments_50 : decode cX0_handOverPayments 50 = .ok (.getfield 33, 3) := by decide +kernel
theorem dX0_handOverPayments_53 : decode cX0_handOverPayments 53 = .ok (.iload 4, 2) := by decide +kernel
theorem dX0_handOverPayments_55 : decode cX0_handOverPayments 55 = .ok (.iconst 3, 1) := by decide +kernel
theorem dX0_handOverPayments_56 : decode cX0_handOverPayments 56 = .ok (.iload_n 3, 1) := by decide +kernel
theorem dX0_handOverPayments_57 : decode cX0_handOverPayments 57 = .ok (.invokevirtual 86, 3) := by decide +kernel
theorem dX0_handOverPayments_60 : decode cX0_handOverPayments 60 = .ok (.iinc 4 1, 3) := by decide +kernel
theorem dX0_handOverPayments_63 : decode cX0_handOverPayments 63 = .ok (.goto (-51), 3) := by decide +kernel
theorem dX0_handOverPayments_66 : decode cX0_handOverPayments 66 = .ok (.return_, 1) := by decide +kernel
theorem dX0_letPlay_0 : decode cX0_letPlay 0 = .ok (.aload_n 0, 1) := by decide +kernel
theorem dX0_letPlay_1 : decode cX0_letPlay 1 = .ok (.getfield 25, 3) := by decide +kernel
theorem dX0_letPlay_4 : decode cX0_letPlay 4 = .ok (.iload_n 1, 1) := by decide +kernel
theorem dX0_letPlay_5 : decode cX0_letPlay 5 = .ok (.iconst 0, 1) := by decide +kernel
theorem dX0_letPlay_6 : decode cX0_letPlay 6 = .ok (.invokevirtual 56, 3) := by decide +kernel
theorem dX0_letPlay_9 : decode cX0_letPlay 9 = .ok (.istore 5, 2) := by decide +kernel
theorem dX0_letPlay_11 : decode cX0_letPlay 11 = .ok (.aload_n 0, 1) := by decide +kernel
theorem dX0_letPlay_12 : decode cX0_letPlay 12 = .ok (.getfield 25, 3) := by decide +kernel
theorem dX0_letPlay_15 : decode cX0_letPlay 15 = .ok (.iload_n 1, 1) := by decide +kernel
theorem dX0_letPlay_16 : decode cX0_letPlay 16 = .ok (.invokevirtual 52, 3) := by decide +kernel
theorem dX0_letPlay_19 : decode cX0_letPlay 19 = .ok (.ifCond .eq 42, 3) := by decide +kernel
theorem dX0_letPlay_22 : decode cX0_letPlay 22 = .ok (.iload_n 2, 1) := by decide +kernel
theorem dX0_letPlay_23 : decode cX0_letPlay 23 = .ok (.iconst 0, 1) := by decide +kernel
theorem dX0_letPlay_24 : decode cX0_letPlay 24 = .ok (.aload_n 0, 1) := by decide +kernel
theorem dX0_letPlay_25 : decode cX0_letPlay 25 = .ok (.getfield 21, 3) := by decide +kernel
theorem dX0_letPlay_28 : decode cX0_letPlay 28 = .ok (.iload 5, 2) := by decide +kernel
theorem dX0_letPlay_30 : decode cX0_letPlay 30 = .ok (.iconst 0, 1) := by decide +kernel
theorem dX0_letPlay_31 : decode cX0_letPlay 31 = .ok (.invokevirtual 56, 3) := by decide +kernel
theorem dX0_letPlay_34 : decode cX0_letPlay 34 = .ok (.invokestatic 34, 3) := by decide +kernel
theorem dX0_letPlay_37 : decode cX0_letPlay 37 = .ok (.ifCond .eq 24, 3) := by decide +kernel
theorem dX0_letPlay_40 : decode cX0_letPlay 40 = .ok (.iload_n 3, 1) := by decide +kernel
theorem dX0_letPlay_41 : decode cX0_letPlay 41 = .ok (.iconst 0, 1) := by decide +kernel
theorem dX0_letPlay_42 : decode cX0_letPlay 42 = .ok (.bipush 20, 2) := by decide +kernel
theorem dX0_letPlay_44 : decode cX0_letPlay 44 = .ok (.invokestatic 34, 3) := by decide +kernel
theorem dX0_letPlay_47 : decode cX0_letPlay 47 = .ok (.ifCond .eq 14, 3) := by decide +kernel
theorem dX0_letPlay_50 : decode cX0_letPlay 50 = .ok (.iload 4, 2) := by decide +kernel
theorem dX0_letPlay_52 : decode cX0_letPlay 52 = .ok (.iconst 0, 1) := by decide +kernel
theorem dX0_letPlay_53 : decode cX0_letPlay 53 = .ok (.bipush 9, 2) := by decide +kernel
theorem dX0_letPlay_55 : decode cX0_letPlay 55 = .ok (.invokestatic 34, 3) := by decide +kernel
theorem dX0_letPlay_58 : decode cX0_letPlay 58 = .ok (.ifCond .ne 5, 3) := by decide +kernel
theorem dX0_letPlay_61 : decode cX0_letPlay 61 = .ok (.iconst (-1), 1) := by decide +kernel
theorem dX0_letPlay_62 : decode cX0_letPlay 62 = .ok (.ireturn, 1) := by decide +kernel
theorem dX0_letPlay_63 : decode cX0_letPlay 63 = .ok (.aload_n 0, 1) := by decide +kernel
theorem dX0_letPlay_64 : decode cX0_letPlay 64 = .ok (.getfield 9, 3) := by decide +kernel
theorem dX0_letPlay_67 : decode cX0_letPlay 67 = .ok (.iload_n 1, 1) := by decide +kernel
theorem dX0_letPlay_68 : decode cX0_letPlay 68 = .ok (.invokevirtual 89, 3) := by decide +kernel
theorem dX0_letPlay_71 : decode cX0_letPlay 71 = .ok (.ifCond .eq 17, 3) := by decide +kernel
theorem dX0_letPlay_74 : decode cX0_letPlay 74 = .ok (.aload_n 0, 1) := by decide +kernel
theorem dX0_letPlay_75 : decode cX0_letPlay 75 = .ok (.getfield 9, 3) := by decide +kernel
theorem dX0_letPlay_78 : decode cX0_letPlay 78 = .ok (.iload 5, 2) := by decide +kernel
theorem dX0_letPlay_80 : decode cX0_letPlay 80 = .ok (.iconst (-1), 1) := by decide +kernel
theorem dX0_letPlay_81 : decode cX0_letPlay 81 = .ok (.invokevirtual 120, 3) := by decide +kernel
theorem dX0_letPlay_84 : decode cX0_letPlay 84 = .ok (.iload_n 1, 1) := by decide +kernel
theorem dX0_letPlay_85 : decode cX0_letPlay 85 = .ok (.if_icmp .eq 6, 3) := by decide +kernel
theorem dX0_letPlay_88 : decode cX0_letPlay 88 = .ok (.bipush (-2), 2) := by decide +kernel
theorem dX0_letPlay_90 : decode cX0_letPlay 90 = .ok (.ireturn, 1) := by decide +kernel
theorem dX0_letPlay_91 : decode cX0_letPlay 91 = .ok (.aload_n 0, 1) := by decide +kernel
theorem dX0_letPlay_92 : decode cX0_letPlay 92 = .ok (.getfield 21, 3) := by decide +kernel
theorem dX0_letPlay_95 : decode cX0_letPlay 95 = .ok (.iload 5, 2) := by decide +kernel
theorem dX0_letPlay_97 : decode cX0_letPlay 97 = .ok (.iconst 0, 1) := by decide +kernel
theorem dX0_letPlay_98 : decode cX0_letPlay 98 = .ok (.invokevirtual 56, 3) := by decide +kernel
theorem dX0_letPlay_101 : decode cX0_letPlay 101 = .ok (.istore 6, 2) := by decide +kernel
theorem dX0_letPlay_103 : decode cX0_letPlay 103 = .ok (.iload 6, 2) := by decide +kernel
theorem dX0_letPlay_105 : decode cX0_letPlay 105 = .ok (.aload_n 0, 1) := by decide +kernel
theorem dX0_letPlay_106 : decode cX0_letPlay 106 = .ok (.getfield 9, 3) := by decide +kernel
theorem dX0_letPlay_109 : decode cX0_letPlay 109 = .ok (.iconst 1, 1) := by decide +kernel
theorem dX0_letPlay_110 : decode cX0_letPlay 110 = .ok (.invokevirtual 64, 3) := by decide +kernel
theorem dX0_letPlay_113 : decode cX0_letPlay 113 = .ok (.iadd, 1) := by decide +kernel
theorem dX0_letPlay_114 : decode cX0_letPlay 114 = .ok (.istore 7, 2) := by decide +kernel
theorem dX0_letPlay_116 : decode cX0_letPlay 116 = .ok (.iload_n 2, 1) := by decide +kernel
theorem dX0_letPlay_117 : decode cX0_letPlay 117 = .ok (.iload_n 3, 1) := by decide +kernel
theorem dX0_letPlay_118 : decode cX0_letPlay 118 = .ok (.aload_n 0, 1) := by decide +kernel
theorem dX0_letPlay_119 : decode cX0_letPlay 119 = .ok (.getfield 9, 3) := by decide +kernel
theorem dX0_letPlay_122 : decode cX0_letPlay 122 = .ok (.iconst 0, 1) := by decide +kernel
theorem dX0_letPlay_123 : decode cX0_letPlay 123 = .ok (.invokevirtual 64, 3) := by decide +kernel
theorem dX0_letPlay_126 : decode cX0_letPlay 126 = .ok (.imul, 1) := by decide +kernel
theorem dX0_letPlay_127 : decode cX0_letPlay 127 = .ok (.iadd, 1) := by decide +kernel
theorem dX0_letPlay_128 : decode cX0_letPlay 128 = .ok (.istore 8, 2) := by decide +kernel
theorem dX0_letPlay_130 : decode cX0_letPlay 130 = .ok (.iload_n 2, 1) := by decide +kernel
theorem dX0_letPlay_131 : decode cX0_letPlay 131 = .ok (.ifCond .ne 8, 3) := by decide +kernel
theorem dX0_letPlay_134 : decode cX0_letPlay 134 = .ok (.iload 6, 2) := by decide +kernel
theorem dX0_letPlay_136 : decode cX0_letPlay 136 = .ok (.goto 10, 3) := by decide +kernel
theorem dX0_letPlay_139 : decode cX0_letPlay 139 = .ok (.iload 8, 2) := by decide +kernel
theorem dX0_letPlay_141 : decode cX0_letPlay 141 = .ok (.iload 7, 2) := by decide +kernel
theorem dX0_letPlay_143 : decode cX0_letPlay 143 = .ok (.invokestatic 81, 3) := by decide +kernel
theorem dX0_letPlay_146 : decode cX0_letPlay 146 = .ok (.istore 9, 2) := by decide +kernel
theorem dX0_letPlay_148 : decode cX0_letPlay 148 = .ok (.aload_n 0, 1) := by decide +kernel
theorem dX0_letPlay_149 : decode cX0_letPlay 149 = .ok (.getfield 21, 3) := by decide +kernel
theorem dX0_letPlay_152 : decode cX0_letPlay 152 = .ok (.iload 5, 2) := by decide +kernel
theorem dX0_letPlay_154 : decode cX0_letPlay 154 = .ok (.iconst 5, 1) := by decide +kernel
theorem dX0_letPlay_155 : decode cX0_letPlay 155 = .ok (.iconst 1, 1) := by decide +kernel
theorem dX0_letPlay_156 : decode cX0_letPlay 156 = .ok (.invokevirtual 86, 3) := by decide +kernel
theorem dX0_letPlay_159 : decode cX0_letPlay 159 = .ok (.aload_n 0, 1) := by decide +kernel
theorem dX0_letPlay_160 : decode cX0_letPlay 160 = .ok (.getfield 21, 3) := by decide +kernel
theorem dX0_letPlay_163 : decode cX0_letPlay 163 = .ok (.iload 5, 2) := by decide +kernel
theorem dX0_letPlay_165 : decode cX0_letPlay 165 = .ok (.bipush 6, 2) := by decide +kernel
theorem dX0_letPlay_167 : decode cX0_letPlay 167 = .ok (.iload_n 2, 1) := by decide +kernel
theorem dX0_letPlay_168 : decode cX0_letPlay 168 = .ok (.ifCond .le 14, 3) := by decide +kernel
theorem dX0_letPlay_171 : decode cX0_letPlay 171 = .ok (.iload 8, 2) := by decide +kernel
theorem dX0_letPlay_173 : decode cX0_letPlay 173 = .ok (.iload 7, 2) := by decide +kernel
theorem dX0_letPlay_175 : decode cX0_letPlay 175 = .ok (.if_icmp .gt 7, 3) := by decide +kernel
theorem dX0_letPlay_178 : decode cX0_letPlay 178 = .ok (.iconst 1, 1) := by decide +kernel
theorem dX0_letPlay_179 : decode cX0_letPlay 179 = .ok (.goto 4, 3) := by decide +kernel
theorem dX0_letPlay_182 : decode cX0_letPlay 182 = .ok (.iconst 0, 1) := by decide +kernel
theorem dX0_letPlay_183 : decode cX0_letPlay 183 = .ok (.invokevirtual 86, 3) := by decide +kernel
theorem dX0_letPlay_186 : decode cX0_letPlay 186 = .ok (.aload_n 0, 1) := by decide +kernel
theorem dX0_letPlay_187 : decode cX0_letPlay 187 = .ok (.getfield 21, 3) := by decide +kernel
theorem dX0_letPlay_190 : decode cX0_letPlay 190 = .ok (.iload 5, 2) := by decide +kernel
theorem dX0_letPlay_192 : decode cX0_letPlay 192 = .ok (.bipush 7, 2) := by decide +kernel
theorem dX0_letPlay_194 : decode cX0_letPlay 194 = .ok (.iload_n 3, 1) := by decide +kernel
theorem dX0_letPlay_195 : decode cX0_letPlay 195 = .ok (.invokevirtual 86, 3) := by decide +kernel
theorem dX0_letPlay_198 : decode cX0_letPlay 198 = .ok (.aload_n 0, 1) := by decide +kernel
theorem dX0_letPlay_199 : decode cX0_letPlay 199 = .ok (.getfield 21, 3) := by decide +kernel
theorem dX0_letPlay_202 : decode cX0_letPlay 202 = .ok (.iload 5, 2) := by decide +kernel
theorem dX0_letPlay_204 : decode cX0_letPlay 204 = .ok (.bipush 8, 2) := by decide +kernel
theorem dX0_letPlay_206 : decode cX0_letPlay 206 = .ok (.iload 9, 2) := by decide +kernel
theorem dX0_letPlay_208 : decode cX0_letPlay 208 = .ok (.invokevirtual 86, 3) := by decide +kernel
theorem dX0_letPlay_211 : decode cX0_letPlay 211 = .ok (.aload_n 0, 1) := by decide +kernel
theorem dX0_letPlay_212 : decode cX0_letPlay 212 = .ok (.getfield 21, 3) := by decide +kernel
theorem dX0_letPlay_215 : decode cX0_letPlay 215 = .ok (.iload 5, 2) := by decide +kernel
theorem dX0_letPlay_217 : decode cX0_letPlay 217 = .ok (.bipush 10, 2) := by decide +kernel
theorem dX0_letPlay_219 : decode cX0_letPlay 219 = .ok (.iload_n 2, 1) := by decide +kernel
theorem dX0_letPlay_220 : decode cX0_letPlay 220 = .ok (.ifCond .le 14, 3) := by decide +kernel
theorem dX0_letPlay_223 : decode cX0_letPlay 223 = .ok (.iload 8, 2) := by decide +kernel
theorem dX0_letPlay_225 : decode cX0_letPlay 225 = .ok (.iload 6, 2) := by decide +kernel
theorem dX0_letPlay_227 : decode cX0_letPlay 227 = .ok (.if_icmp .le 7, 3) := by decide +kernel
theorem dX0_letPlay_230 : decode cX0_letPlay 230 = .ok (.iconst 1, 1) := by decide +kernel
theorem dX0_letPlay_231 : decode cX0_letPlay 231 = .ok (.goto 4, 3) := by decide +kernel
theorem dX0_letPlay_234 : decode cX0_letPlay 234 = .ok (.iconst 0, 1) := by decide +kernel
theorem dX0_letPlay_235 : decode cX0_letPlay 235 = .ok (.invokevirtual 86, 3) := by decide +kernel
theorem dX0_letPlay_238 : decode cX0_letPlay 238 = .ok (.aload_n 0, 1) := by decide +kernel
theorem dX0_letPlay_239 : decode cX0_letPlay 239 = .ok (.iload_n 1, 1) := by decide +kernel
theorem dX0_letPlay_240 : decode cX0_letPlay 240 = .ok (.iload 9, 2) := by decide +kernel
theorem dX0_letPlay_242 : decode cX0_letPlay 242 = .ok (.iload 4, 2) := by decide +kernel
theorem dX0_letPlay_244 : decode cX0_letPlay 244 = .ok (.invokevirtual 123, 3) := by decide +kernel
theorem dX0_letPlay_247 : decode cX0_letPlay 247 = .ok (.istore 10, 2) := by decide +kernel
theorem dX0_letPlay_249 : decode cX0_letPlay 249 = .ok (.aload_n 0, 1) := by decide +kernel
theorem dX0_letPlay_250 : decode cX0_letPlay 250 = .ok (.iload_n 1, 1) := by decide +kernel
theorem dX0_letPlay_251 : decode cX0_letPlay 251 = .ok (.aload_n 0, 1) := by decide +kernel
theorem dX0_letPlay_252 : decode cX0_letPlay 252 = .ok (.getfield 9, 3) := by decide +kernel
theorem dX0_letPlay_255 : decode cX0_letPlay 255 = .ok (.iload_n 1, 1) := by decide +kernel
theorem dX0_letPlay_256 : decode cX0_letPlay 256 = .ok (.iload 10, 2) := by decide +kernel
theorem dX0_letPlay_258 : decode cX0_letPlay 258 = .ok (.invokevirtual 127, 3) := by decide +kernel
theorem dX0_letPlay_261 : decode cX0_letPlay 261 = .ok (.invokevirtual 98, 3) := by decide +kernel
theorem dX0_letPlay_264 : decode cX0_letPlay 264 = .ok (.iload 9, 2) := by decide +kernel
theorem dX0_letPlay_266 : decode cX0_letPlay 266 = .ok (.ireturn, 1) := by decide +kernel
theorem dX0_occupy_0 : decode cX0_occupy 0 = .ok (.aload_n 0, 1) := by decide +kernel
theorem dX0_occupy_1 : decode cX0_occupy 1 = .ok (.getfield 25, 3) := by decide +kernel
theorem dX0_occupy_4 : decode cX0_occupy 4 = .ok (.iload_n 1, 1) := by decide +kernel
theorem dX0_occupy_5 : decode cX0_occupy 5 = .ok (.iconst 0, 1) := by decide +kernel
theorem dX0_occupy_6 : decode cX0_occupy 6 = .ok (.invokevirtual 56, 3) := by decide +kernel
theorem dX0_occupy_9 : decode cX0_occupy 9 = .ok (.istore 4, 2) := by decide +kernel
theorem dX0_occupy_11 : decode cX0_occupy 11 = .ok (.aload_n 0, 1) := by decide +kernel
theorem dX0_occupy_12 : decode cX0_occupy 12 = .ok (.getfield 25, 3) := by decide +kernel
theorem dX0_occupy_15 : decode cX0_occupy 15 = .ok (.iload_n 1, 1) := by decide +kernel
theorem dX0_occupy_16 : decode cX0_occupy 16 = .ok (.iconst 1, 1) := by decide +kernel
theorem dX0_occupy_17 : decode cX0_occupy 17 = .ok (.invokevirtual 56, 3) := by decide +kernel
theorem dX0_occupy_20 : decode cX0_occupy 20 = .ok (.istore 5, 2) := by decide +kernel
theorem dX0_occupy_22 : decode cX0_occupy 22 = .ok (.iload 5, 2) := by decide +kernel
theorem dX0_occupy_24 : decode cX0_occupy 24 = .ok (.aload_n 0, 1) := by decide +kernel
theorem dX0_occupy_25 : decode cX0_occupy 25 = .ok (.getfield 21, 3) := by decide +kernel
theorem dX0_occupy_28 : decode cX0_occupy 28 = .ok (.iload 4, 2) := by decide +kernel
theorem dX0_occupy_30 : decode cX0_occupy 30 = .ok (.iconst 4, 1) := by decide +kernel
theorem dX0_occupy_31 : decode cX0_occupy 31 = .ok (.invokevirtual 56, 3) := by decide +kernel
theorem dX0_occupy_34 : decode cX0_occupy 34 = .ok (.invokestatic 130, 3) := by decide +kernel
theorem dX0_occupy_37 : decode cX0_occupy 37 = .ok (.istore 6, 2) := by decide +kernel
theorem dX0_occupy_39 : decode cX0_occupy 39 = .ok (.iload 6, 2) := by decide +kernel
theorem dX0_occupy_41 : decode cX0_occupy 41 = .ok (.iload 5, 2) := by decide +kernel
theorem dX0_occupy_43 : decode cX0_occupy 43 = .ok (.isub, 1) := by decide +kernel
theorem dX0_occupy_44 : decode cX0_occupy 44 = .ok (.istore 7, 2) := by decide +kernel
theorem dX0_occupy_46 : decode cX0_occupy 46 = .ok (.aload_n 0, 1) := by decide +kernel
theorem dX0_occupy_47 : decode cX0_occupy 47 = .ok (.getfield 21, 3) := by decide +kernel
theorem dX0_occupy_50 : decode cX0_occupy 50 = .ok (.iload 4, 2) := by decide +kernel
theorem dX0_occupy_52 : decode cX0_occupy 52 = .ok (.iconst 1, 1) := by decide +kernel
theorem dX0_occupy_53 : decode cX0_occupy 53 = .ok (.invokevirtual 56, 3) := by decide +kernel
theorem dX0_occupy_56 : decode cX0_occupy 56 = .ok (.iload_n 3, 1) := by decide +kernel
theorem dX0_occupy_57 : decode cX0_occupy 57 = .ok (.aload_n 0, 1) := by decide +kernel
theorem dX0_occupy_58 : decode cX0_occupy 58 = .ok (.getfield 9, 3) := by decide +kernel
theorem dX0_occupy_61 : decode cX0_occupy 61 = .ok (.iconst 2, 1) := by decide +kernel
theorem dX0_occupy_62 : decode cX0_occupy 62 = .ok (.invokevirtual 64, 3) := by decide +kernel
theorem dX0_occupy_65 : decode cX0_occupy 65 = .ok (.imul, 1) := by decide +kernel
theorem dX0_occupy_66 : decode cX0_occupy 66 = .ok (.iadd, 1) := by decide +kernel
theorem dX0_occupy_67 : decode cX0_occupy 67 = .ok (.istore 8, 2) := by decide +kernel
theorem dX0_occupy_69 : decode cX0_occupy 69 = .ok (.aload_n 0, 1) := by decide +kernel
theorem dX0_occupy_70 : decode cX0_occupy 70 = .ok (.getfield 21, 3) := by decide +kernel
theorem dX0_occupy_73 : decode cX0_occupy 73 = .ok (.iload 4, 2) := by decide +kernel
theorem dX0_occupy_75 : decode cX0_occupy 75 = .ok (.iconst 4, 1) := by decide +kernel
theorem dX0_occupy_76 : decode cX0_occupy 76 = .ok (.iload 6, 2) := by decide +kernel
theorem dX0_occupy_78 : decode cX0_occupy 78 = .ok (.iload_n 2, 1) := by decide +kernel
theorem dX0_occupy_79 : decode cX0_occupy 79 = .ok (.iadd, 1) := by decide +kernel
theorem dX0_occupy_80 : decode cX0_occupy 80 = .ok (.iload 8, 2) := by decide +kernel
theorem dX0_occupy_82 : decode cX0_occupy 82 = .ok (.iadd, 1) := by decide +kernel
theorem dX0_occupy_83 : decode cX0_occupy 83 = .ok (.invokevirtual 48, 3) := by decide +kernel
theorem dX0_occupy_86 : decode cX0_occupy 86 = .ok (.aload_n 0, 1) := by decide +kernel
theorem dX0_occupy_87 : decode cX0_occupy 87 = .ok (.getfield 21, 3) := by decide +kernel
theorem dX0_occupy_90 : decode cX0_occupy 90 = .ok (.iload 4, 2) := by decide +kernel
theorem dX0_occupy_92 : decode cX0_occupy 92 = .ok (.bipush 9, 2) := by decide +kernel
theorem dX0_occupy_94 : decode cX0_occupy 94 = .ok (.iload 7, 2) := by decide +kernel
theorem dX0_occupy_96 : decode cX0_occupy 96 = .ok (.aload_n 0, 1) := by decide +kernel
theorem dX0_occupy_97 : decode cX0_occupy 97 = .ok (.getfield 21, 3) := by decide +kernel
theorem dX0_occupy_100 : decode cX0_occupy 100 = .ok (.iload 4, 2) := by decide +kernel
theorem dX0_occupy_102 : decode cX0_occupy 102 = .ok (.bipush 9, 2) := by decide +kernel
theorem dX0_occupy_104 : decode cX0_occupy 104 = .ok (.invokevirtual 56, 3) := by decide +kernel
theorem dX0_occupy_107 : decode cX0_occupy 107 = .ok (.invokestatic 130, 3) := by decide +kernel
theorem dX0_occupy_110 : decode cX0_occupy 110 = .ok (.invokevirtual 48, 3) := by decide +kernel
theorem dX0_occupy_113 : decode cX0_occupy 113 = .ok (.aload_n 0, 1) := by decide +kernel
theorem dX0_occupy_114 : decode cX0_occupy 114 = .ok (.getfield 25, 3) := by decide +kernel
theorem dX0_occupy_117 : decode cX0_occupy 117 = .ok (.iload_n 1, 1) := by decide +kernel
theorem dX0_occupy_118 : decode cX0_occupy 118 = .ok (.iconst 3, 1) := by decide +kernel
theorem dX0_occupy_119 : decode cX0_occupy 119 = .ok (.iconst 1, 1) := by decide +kernel
theorem dX0_occupy_120 : decode cX0_occupy 120 = .ok (.invokevirtual 48, 3) := by decide +kernel
theorem dX0_occupy_123 : decode cX0_occupy 123 = .ok (.aload_n 0, 1) := by decide +kernel
theorem dX0_occupy_124 : decode cX0_occupy 124 = .ok (.getfield 25, 3) := by decide +kernel
theorem dX0_occupy_127 : decode cX0_occupy 127 = .ok (.iload_n 1, 1) := by decide +kernel
theorem dX0_occupy_128 : decode cX0_occupy 128 = .ok (.bipush 8, 2) := by decide +kernel
theorem dX0_occupy_130 : decode cX0_occupy 130 = .ok (.iload 6, 2) := by decide +kernel
theorem dX0_occupy_132 : decode cX0_occupy 132 = .ok (.invokevirtual 48, 3) := by decide +kernel
theorem dX0_occupy_135 : decode cX0_occupy 135 = .ok (.aload_n 0, 1) := by decide +kernel
theorem dX0_occupy_136 : decode cX0_occupy 136 = .ok (.getfield 25, 3) := by decide +kernel
theorem dX0_occupy_139 : decode cX0_occupy 139 = .ok (.iload_n 1, 1) := by decide +kernel
theorem dX0_occupy_140 : decode cX0_occupy 140 = .ok (.bipush 9, 2) := by decide +kernel
theorem dX0_occupy_142 : decode cX0_occupy 142 = .ok (.iload_n 2, 1) := by decide +kernel
theorem dX0_occupy_143 : decode cX0_occupy 143 = .ok (.invokevirtual 48, 3) := by decide +kernel
theorem dX0_occupy_146 : decode cX0_occupy 146 = .ok (.iload 7, 2) := by decide +kernel
theorem dX0_occupy_148 : decode cX0_occupy 148 = .ok (.ireturn, 1) := by decide +kernel
theorem dX1_init_0 : decode cX1_init 0 = .ok (.aload_n 0, 1) := by decide +kernel
theorem dX1_init_1 : decode cX1_init 1 = .ok (.invokespecial 3, 3) := by decide +kernel
theorem dX1_init_4 : decode cX1_init 4 = .ok (.aload_n 0, 1) := by decide +kernel
theorem dX1_init_5 : decode cX1_init 5 = .ok (.bipush 6, 2) := by decide +kernel
theorem dX1_init_7 : decode cX1_init 7 = .ok (.anewarray 9, 3) := by decide +kernel
theorem dX1_init_10 : decode cX1_init 10 = .ok (.putfield 11, 3) := by decide +kernel
theorem dX1_init_13 : decode cX1_init 13 = .ok (.iconst 0, 1) := by decide +kernel
theorem dX1_init_14 : decode cX1_init 14 = .ok (.istore_n 1, 1) := by decide +kernel
theorem dX1_init_15 : decode cX1_init 15 = .ok (.iload_n 1, 1) := by decide +kernel
theorem dX1_init_16 : decode cX1_init 16 = .ok (.aload_n 0, 1) := by decide +kernel
theorem dX1_init_17 : decode cX1_init 17 = .ok (.getfield 11, 3) := by decide +kernel
theorem dX1_init_20 : decode cX1_init 20 = .ok (.arraylength, 1) := by decide +kernel
theorem dX1_init_21 : decode cX1_init 21 = .ok (.if_icmp .ge 22, 3) := by decide +kernel
theorem dX1_init_24 : decode cX1_init 24 = .ok (.aload_n 0, 1) := by decide +kernel
theorem dX1_init_25 : decode cX1_init 25 = .ok (.getfield 11, 3) := by decide +kernel
theorem dX1_init_28 : decode cX1_init 28 = .ok (.iload_n 1, 1) := by decide +kernel
theorem dX1_init_29 : decode cX1_init 29 = .ok (.new 9, 3) := by decide +kernel
theorem dX1_init_32 : decode cX1_init 32 = .ok (.dup, 1) := by decide +kernel
theorem dX1_init_33 : decode cX1_init 33 = .ok (.invokespecial 17, 3) := by decide +kernel
theorem dX1_init_36 : decode cX1_init 36 = .ok (.aastore, 1) := by decide +kernel
theorem dX1_init_37 : decode cX1_init 37 = .ok (.iinc 1 1, 3) := by decide +kernel
theorem dX1_init_40 : decode cX1_init 40 = .ok (.goto (-25), 3) := by decide +kernel
theorem dX1_init_43 : decode cX1_init 43 = .ok (.return_, 1) := by decide +kernel
theorem dX1_size_0 : decode cX1_size 0 = .ok (.aload_n 0, 1) := by decide +kernel
theorem dX1_size_1 : decode cX1_size 1 = .ok (.getfield 18, 3) := by decide +kernel
theorem dX1_size_4 : decode cX1_size 4 = .ok (.ireturn, 1) := by decide +kernel
theorem dX1_prepare_0 : decode cX1_prepare 0 = .ok (.aload_n 0, 1) := by decide +kernel
theorem dX1_prepare_1 : decode cX1_prepare 1 = .ok (.aload_n 0, 1) := by decide +kernel
theorem dX1_prepare_2 : decode cX1_prepare 2 = .ok (.getfield 18, 3) := by decide +kernel
theorem dX1_prepare_5 : decode cX1_prepare 5 = .ok (.invokevirtual 22, 3) := by decide +kernel
theorem dX1_prepare_8 : decode cX1_prepare 8 = .ok (.astore_n 2, 1) := by decide +kernel
theorem dX1_prepare_9 : decode cX1_prepare 9 = .ok (.aload_n 2, 1) := by decide +kernel
theorem dX1_prepare_10 : decode cX1_prepare 10 = .ok (.ifnull 8, 3) := by decide +kernel
theorem dX1_prepare_13 : decode cX1_prepare 13 = .ok (.aload_n 2, 1) := by decide +kernel
theorem dX1_prepare_14 : decode cX1_prepare 14 = .ok (.aload_n 1, 1) := by decide +kernel
theorem dX1_prepare_15 : decode cX1_prepare 15 = .ok (.invokevirtual 26, 3) := by decide +kernel
theorem dX1_prepare_18 : decode cX1_prepare 18 = .ok (.return_, 1) := by decide +kernel
theorem dX1_settle_0 : decode cX1_settle 0 = .ok (.iload_n 1, 1) := by decide +kernel
theorem dX1_settle_1 : decode cX1_settle 1 = .ok (.ifCond .lt 7, 3) := by decide +kernel
theorem dX1_settle_4 : decode cX1_settle 4 = .ok (.aload_n 0, 1) := by decide +kernel
theorem dX1_settle_5 : decode cX1_settle 5 = .ok (.invokevirtual 30, 3) := by decide +kernel
theorem dX1_settle_8 : decode cX1_settle 8 = .ok (.iload_n 1, 1) := by decide +kernel
theorem dX1_settle_9 : decode cX1_settle 9 = .ok (.ireturn, 1) := by decide +kernel
theorem dX1_record_0 : decode cX1_record 0 = .ok (.aload_n 0, 1) := by decide +kernel
theorem dX1_record_1 : decode cX1_record 1 = .ok (.getfield 18, 3) := by decide +kernel
theorem dX1_record_4 : decode cX1_record 4 = .ok (.iconst 5, 1) := by decide +kernel
theorem dX1_record_5 : decode cX1_record 5 = .ok (.if_icmp .ge 14, 3) := by decide +kernel
theorem dX1_record_8 : decode cX1_record 8 = .ok (.aload_n 0, 1) := by decide +kernel
theorem dX1_record_9 : decode cX1_record 9 = .ok (.dup, 1) := by decide +kernel
theorem dX1_record_10 : decode cX1_record 10 = .ok (.getfield 18, 3) := by decide +kernel
theorem dX1_record_13 : decode cX1_record 13 = .ok (.iconst 1, 1) := by decide +kernel
theorem dX1_record_14 : decode cX1_record 14 = .ok (.iadd, 1) := by decide +kernel
theorem dX1_record_15 : decode cX1_record 15 = .ok (.putfield 18, 3) := by decide +kernel
theorem dX1_record_18 : decode cX1_record 18 = .ok (.return_, 1) := by decide +kernel
theorem dX1_record_19 : decode cX1_record 19 = .ok (.aload_n 0, 1) := by decide +kernel
theorem dX1_record_20 : decode cX1_record 20 = .ok (.iconst 0, 1) := by decide +kernel
theorem dX1_record_21 : decode cX1_record 21 = .ok (.invokevirtual 22, 3) := by decide +kernel
theorem dX1_record_24 : decode cX1_record 24 = .ok (.astore_n 1, 1) := by decide +kernel
theorem dX1_record_25 : decode cX1_record 25 = .ok (.iconst 1, 1) := by decide +kernel
theorem dX1_record_26 : decode cX1_record 26 = .ok (.istore_n 2, 1) := by decide +kernel
theorem dX1_record_27 : decode cX1_record 27 = .ok (.iload_n 2, 1) := by decide +kernel
theorem dX1_record_28 : decode cX1_record 28 = .ok (.aload_n 0, 1) := by decide +kernel
theorem dX1_record_29 : decode cX1_record 29 = .ok (.getfield 11, 3) := by decide +kernel
theorem dX1_record_32 : decode cX1_record 32 = .ok (.arraylength, 1) := by decide +kernel
theorem dX1_record_33 : decode cX1_record 33 = .ok (.if_icmp .ge 23, 3) := by decide +kernel
theorem dX1_record_36 : decode cX1_record 36 = .ok (.aload_n 0, 1) := by decide +kernel
theorem dX1_record_37 : decode cX1_record 37 = .ok (.getfield 11, 3) := by decide +kernel
theorem dX1_record_40 : decode cX1_record 40 = .ok (.iload_n 2, 1) := by decide +kernel
theorem dX1_record_41 : decode cX1_record 41 = .ok (.iconst 1, 1) := by decide +kernel
theorem dX1_record_42 : decode cX1_record 42 = .ok (.isub, 1) := by decide +kernel
theorem dX1_record_43 : decode cX1_record 43 = .ok (.aload_n 0, 1) := by decide +kernel
theorem dX1_record_44 : decode cX1_record 44 = .ok (.getfield 11, 3) := by decide +kernel
theorem dX1_record_47 : decode cX1_record 47 = .ok (.iload_n 2, 1) := by decide +kernel
theorem dX1_record_48 : decode cX1_record 48 = .ok (.aaload, 1) := by decide +kernel
theorem dX1_record_49 : decode cX1_record 49 = .ok (.aastore, 1) := by decide +kernel
theorem dX1_record_50 : decode cX1_record 50 = .ok (.iinc 2 1, 3) := by decide +kernel
theorem dX1_record_53 : decode cX1_record 53 = .ok (.goto (-26), 3) := by decide +kernel
theorem dX1_record_56 : decode cX1_record 56 = .ok (.aload_n 0, 1) := by decide +kernel
theorem dX1_record_57 : decode cX1_record 57 = .ok (.getfield 11, 3) := by decide +kernel
theorem dX1_record_60 : decode cX1_record 60 = .ok (.arraylength, 1) := by decide +kernel
theorem dX1_record_61 : decode cX1_record 61 = .ok (.ifCond .le 16, 3) := by decide +kernel
theorem dX1_record_64 : decode cX1_record 64 = .ok (.aload_n 0, 1) := by decide +kernel
theorem dX1_record_65 : decode cX1_record 65 = .ok (.getfield 11, 3) := by decide +kernel
theorem dX1_record_68 : decode cX1_record 68 = .ok (.aload_n 0, 1) := by decide +kernel
theorem dX1_record_69 : decode cX1_record 69 = .ok (.getfield 11, 3) := by decide +kernel
theorem dX1_record_72 : decode cX1_record 72 = .ok (.arraylength, 1) := by decide +kernel
theorem dX1_record_73 : decode cX1_record 73 = .ok (.iconst 1, 1) := by decide +kernel
theorem dX1_record_74 : decode cX1_record 74 = .ok (.isub, 1) := by decide +kernel
theorem dX1_record_75 : decode cX1_record 75 = .ok (.aload_n 1, 1) := by decide +kernel
theorem dX1_record_76 : decode cX1_record 76 = .ok (.aastore, 1) := by decide +kernel
theorem dX1_record_77 : decode cX1_record 77 = .ok (.return_, 1) := by decide +kernel
theorem dX1_stateAt_0 : decode cX1_stateAt 0 = .ok (.iload_n 1, 1) := by decide +kernel
theorem dX1_stateAt_1 : decode cX1_stateAt 1 = .ok (.ifCond .lt 21, 3) := by decide +kernel
theorem dX1_stateAt_4 : decode cX1_stateAt 4 = .ok (.iload_n 1, 1) := by decide +kernel
theorem dX1_stateAt_5 : decode cX1_stateAt 5 = .ok (.aload_n 0, 1) := by decide +kernel
theorem dX1_stateAt_6 : decode cX1_stateAt 6 = .ok (.getfield 11, 3) := by decide +kernel
theorem dX1_stateAt_9 : decode cX1_stateAt 9 = .ok (.arraylength, 1) := by decide +kernel
theorem dX1_stateAt_10 : decode cX1_stateAt 10 = .ok (.if_icmp .ge 12, 3) := by decide +kernel
theorem dX1_stateAt_13 : decode cX1_stateAt 13 = .ok (.aload_n 0, 1) := by decide +kernel
theorem dX1_stateAt_14 : decode cX1_stateAt 14 = .ok (.getfield 11, 3) := by decide +kernel
theorem dX1_stateAt_17 : decode cX1_stateAt 17 = .ok (.iload_n 1, 1) := by decide +kernel
theorem dX1_stateAt_18 : decode cX1_stateAt 18 = .ok (.aaload, 1) := by decide +kernel
theorem dX1_stateAt_19 : decode cX1_stateAt 19 = .ok (.goto 4, 3) := by decide +kernel
theorem dX1_stateAt_22 : decode cX1_stateAt 22 = .ok (.aconst_null, 1) := by decide +kernel
theorem dX1_stateAt_23 : decode cX1_stateAt 23 = .ok (.areturn, 1) := by decide +kernel
theorem dX2_init_0 : decode cX2_init 0 = .ok (.aload_n 0, 1) := by decide +kernel
theorem dX2_init_1 : decode cX2_init 1 = .ok (.invokespecial 3, 3) := by decide +kernel
theorem dX2_init_4 : decode cX2_init 4 = .ok (.aload_n 0, 1) := by decide +kernel
theorem dX2_init_5 : decode cX2_init 5 = .ok (.aload_n 1, 1) := by decide +kernel
theorem dX2_init_6 : decode cX2_init 6 = .ok (.putfield 9, 3) := by decide +kernel
theorem dX2_init_9 : decode cX2_init 9 = .ok (.aload_n 0, 1) := by decide +kernel
theorem dX2_init_10 : decode cX2_init 10 = .ok (.aload_n 1, 1) := by decide +kernel
theorem dX2_init_11 : decode cX2_init 11 = .ok (.getfield 15, 3) := by decide +kernel
theorem dX2_init_14 : decode cX2_init 14 = .ok (.putfield 21, 3) := by decide +kernel
theorem dX2_init_17 : decode cX2_init 17 = .ok (.aload_n 0, 1) := by decide +kernel
theorem dX2_init_18 : decode cX2_init 18 = .ok (.aload_n 1, 1) := by decide +kernel
theorem dX2_init_19 : decode cX2_init 19 = .ok (.getfield 22, 3) := by decide +kernel
theorem dX2_init_22 : decode cX2_init 22 = .ok (.putfield 25, 3) := by decide +kernel
theorem dX2_init_25 : decode cX2_init 25 = .ok (.return_, 1) := by decide +kernel
theorem dX3_init_0 : decode cX3_init 0 = .ok (.aload_n 0, 1) := by decide +kernel
theorem dX3_init_1 : decode cX3_init 1 = .ok (.invokespecial 3, 3) := by decide +kernel
theorem dX3_init_4 : decode cX3_init 4 = .ok (.aload_n 0, 1) := by decide +kernel
theorem dX3_init_5 : decode cX3_init 5 = .ok (.sipush 140, 3) := by decide +kernel
theorem dX3_init_8 : decode cX3_init 8 = .ok (.newarray .int, 2) := by decide +kernel
theorem dX3_init_10 : decode cX3_init 10 = .ok (.putfield 9, 3) := by decide +kernel
theorem dX3_init_13 : decode cX3_init 13 = .ok (.aload_n 0, 1) := by decide +kernel
theorem dX3_init_14 : decode cX3_init 14 = .ok (.iconst 4, 1) := by decide +kernel
theorem dX3_init_15 : decode cX3_init 15 = .ok (.newarray .int, 2) := by decide +kernel
theorem dX3_init_17 : decode cX3_init 17 = .ok (.putfield 15, 3) := by decide +kernel
theorem dX3_init_20 : decode cX3_init 20 = .ok (.return_, 1) := by decide +kernel
theorem dX3_size_0 : decode cX3_size 0 = .ok (.aload_n 0, 1) := by decide +kernel
theorem dX3_size_1 : decode cX3_size 1 = .ok (.getfield 18, 3) := by decide +kernel
theorem dX3_size_4 : decode cX3_size 4 = .ok (.ireturn, 1) := by decide +kernel
theorem dX4_init_0 : decode cX4_init 0 = .ok (.aload_n 0, 1) := by decide +kernel
theorem dX4_init_1 : decode cX4_init 1 = .ok (.invokespecial 1, 3) := by decide +kernel
theorem dX4_init_4 : decode cX4_init 4 = .ok (.aload_n 0, 1) := by decide +kernel
theorem dX4_init_5 : decode cX4_init 5 = .ok (.new 7, 3) := by decide +kernel
theorem dX4_init_8 : decode cX4_init 8 = .ok (.dup, 1) := by decide +kernel
theorem dX4_init_9 : decode cX4_init 9 = .ok (.invokespecial 9, 3) := by decide +kernel
theorem dX4_init_12 : decode cX4_init 12 = .ok (.putfield 10, 3) := by decide +kernel
theorem dX4_init_15 : decode cX4_init 15 = .ok (.return_, 1) := by decide +kernel
theorem dX4_copyFrom_0 : decode cX4_copyFrom 0 = .ok (.aload_n 1, 1) := by decide +kernel
theorem dX4_copyFrom_1 : decode cX4_copyFrom 1 = .ok (.getfield 20, 3) := by decide +kernel
theorem dX4_copyFrom_4 : decode cX4_copyFrom 4 = .ok (.ifCond .eq 14, 3) := by decide +kernel
theorem dX4_copyFrom_7 : decode cX4_copyFrom 7 = .ok (.aload_n 0, 1) := by decide +kernel
theorem dX4_copyFrom_8 : decode cX4_copyFrom 8 = .ok (.getfield 10, 3) := by decide +kernel
theorem dX4_copyFrom_11 : decode cX4_copyFrom 11 = .ok (.aload_n 1, 1) := by decide +kernel
theorem dX4_copyFrom_12 : decode cX4_copyFrom 12 = .ok (.getfield 10, 3) := by decide +kernel
theorem dX4_copyFrom_15 : decode cX4_copyFrom 15 = .ok (.invokevirtual 16, 3) := by decide +kernel
theorem dX4_copyFrom_18 : decode cX4_copyFrom 18 = .ok (.aload_n 0, 1) := by decide +kernel
theorem dX4_copyFrom_19 : decode cX4_copyFrom 19 = .ok (.aload_n 1, 1) := by decide +kernel
theorem dX4_copyFrom_20 : decode cX4_copyFrom 20 = .ok (.getfield 20, 3) := by decide +kernel
theorem dX4_copyFrom_23 : decode cX4_copyFrom 23 = .ok (.putfield 20, 3) := by decide +kernel
theorem dX4_copyFrom_26 : decode cX4_copyFrom 26 = .ok (.return_, 1) := by decide +kernel
theorem dX5_init_0 : decode cX5_init 0 = .ok (.aload_n 0, 1) := by decide +kernel
theorem dX5_init_1 : decode cX5_init 1 = .ok (.invokespecial 1, 3) := by decide +kernel
theorem dX5_init_4 : decode cX5_init 4 = .ok (.aload_n 0, 1) := by decide +kernel
theorem dX5_init_5 : decode cX5_init 5 = .ok (.new 7, 3) := by decide +kernel
theorem dX5_init_8 : decode cX5_init 8 = .ok (.dup, 1) := by decide +kernel
theorem dX5_init_9 : decode cX5_init 9 = .ok (.invokespecial 9, 3) := by decide +kernel
theorem dX5_init_12 : decode cX5_init 12 = .ok (.putfield 10, 3) := by decide +kernel
theorem dX5_init_15 : decode cX5_init 15 = .ok (.aload_n 0, 1) := by decide +kernel
theorem dX5_init_16 : decode cX5_init 16 = .ok (.new 16, 3) := by decide +kernel
theorem dX5_init_19 : decode cX5_init 19 = .ok (.dup, 1) := by decide +kernel
theorem dX5_init_20 : decode cX5_init 20 = .ok (.invokespecial 18, 3) := by decide +kernel
theorem dX5_init_23 : decode cX5_init 23 = .ok (.putfield 19, 3) := by decide +kernel
theorem dX5_init_26 : decode cX5_init 26 = .ok (.aload_n 0, 1) := by decide +kernel
theorem dX5_init_27 : decode cX5_init 27 = .ok (.new 16, 3) := by decide +kernel
theorem dX5_init_30 : decode cX5_init 30 = .ok (.dup, 1) := by decide +kernel
theorem dX5_init_31 : decode cX5_init 31 = .ok (.invokespecial 18, 3) := by decide +kernel
theorem dX5_init_34 : decode cX5_init 34 = .ok (.putfield 23, 3) := by decide +kernel
theorem dX5_init_37 : decode cX5_init 37 = .ok (.return_, 1) := by decide +kernel
theorem dX5_snapshots_0 : decode cX5_snapshots 0 = .ok (.aload_n 0, 1) := by decide +kernel
theorem dX5_snapshots_1 : decode cX5_snapshots 1 = .ok (.getfield 19, 3) := by decide +kernel
theorem dX5_snapshots_4 : decode cX5_snapshots 4 = .ok (.getfield 26, 3) := by decide +kernel
theorem dX5_snapshots_7 : decode cX5_snapshots 7 = .ok (.ifCond .eq 7, 3) := by decide +kernel
theorem dX5_snapshots_10 : decode cX5_snapshots 10 = .ok (.iconst 1, 1) := by decide +kernel
theorem dX5_snapshots_11 : decode cX5_snapshots 11 = .ok (.goto 4, 3) := by decide +kernel
theorem dX5_snapshots_14 : decode cX5_snapshots 14 = .ok (.iconst 0, 1) := by decide +kernel
theorem dX5_snapshots_15 : decode cX5_snapshots 15 = .ok (.aload_n 0, 1) := by decide +kernel
theorem dX5_snapshots_16 : decode cX5_snapshots 16 = .ok (.getfield 23, 3) := by decide +kernel
theorem dX5_snapshots_19 : decode cX5_snapshots 19 = .ok (.getfield 26, 3) := by decide +kernel
theorem dX5_snapshots_22 : decode cX5_snapshots 22 = .ok (.ifCond .eq 7, 3) := by decide +kernel
theorem dX5_snapshots_25 : decode cX5_snapshots 25 = .ok (.iconst 1, 1) := by decide +kernel
theorem dX5_snapshots_26 : decode cX5_snapshots 26 = .ok (.goto 4, 3) := by decide +kernel
theorem dX5_snapshots_29 : decode cX5_snapshots 29 = .ok (.iconst 0, 1) := by decide +kernel
theorem dX5_snapshots_30 : decode cX5_snapshots 30 = .ok (.iadd, 1) := by decide +kernel
theorem dX5_snapshots_31 : decode cX5_snapshots 31 = .ok (.ireturn, 1) := by decide +kernel
theorem dX5_copyFrom_0 : decode cX5_copyFrom 0 = .ok (.aload_n 0, 1) := by decide +kernel
theorem dX5_copyFrom_1 : decode cX5_copyFrom 1 = .ok (.getfield 10, 3) := by decide +kernel
theorem dX5_copyFrom_4 : decode cX5_copyFrom 4 = .ok (.aload_n 1, 1) := by decide +kernel
theorem dX5_copyFrom_5 : decode cX5_copyFrom 5 = .ok (.getfield 10, 3) := by decide +kernel
theorem dX5_copyFrom_8 : decode cX5_copyFrom 8 = .ok (.invokevirtual 30, 3) := by decide +kernel
theorem dX5_copyFrom_11 : decode cX5_copyFrom 11 = .ok (.aload_n 0, 1) := by decide +kernel
theorem dX5_copyFrom_12 : decode cX5_copyFrom 12 = .ok (.getfield 19, 3) := by decide +kernel
theorem dX5_copyFrom_15 : decode cX5_copyFrom 15 = .ok (.aload_n 1, 1) := by decide +kernel
theorem dX5_copyFrom_16 : decode cX5_copyFrom 16 = .ok (.getfield 19, 3) := by decide +kernel
theorem dX5_copyFrom_19 : decode cX5_copyFrom 19 = .ok (.invokevirtual 34, 3) := by decide +kernel
theorem dX5_copyFrom_22 : decode cX5_copyFrom 22 = .ok (.aload_n 0, 1) := by decide +kernel
theorem dX5_copyFrom_23 : decode cX5_copyFrom 23 = .ok (.getfield 23, 3) := by decide +kernel
theorem dX5_copyFrom_26 : decode cX5_copyFrom 26 = .ok (.aload_n 1, 1) := by decide +kernel
theorem dX5_copyFrom_27 : decode cX5_copyFrom 27 = .ok (.getfield 23, 3) := by decide +kernel
theorem dX5_copyFrom_30 : decode cX5_copyFrom 30 = .ok (.invokevirtual 34, 3) := by decide +kernel
theorem dX5_copyFrom_33 : decode cX5_copyFrom 33 = .ok (.return_, 1) := by decide +kernel
theorem dX6_init_0 : decode cX6_init 0 = .ok (.aload_n 0, 1) := by decide +kernel
theorem dX6_init_1 : decode cX6_init 1 = .ok (.invokespecial 3, 3) := by decide +kernel
theorem dX6_init_4 : decode cX6_init 4 = .ok (.aload_n 0, 1) := by decide +kernel
theorem dX6_init_5 : decode cX6_init 5 = .ok (.iconst 0, 1) := by decide +kernel
theorem dX6_init_6 : decode cX6_init 6 = .ok (.iload_n 1, 1) := by decide +kernel
theorem dX6_init_7 : decode cX6_init 7 = .ok (.invokestatic 9, 3) := by decide +kernel
theorem dX6_init_10 : decode cX6_init 10 = .ok (.putfield 15, 3) := by decide +kernel
theorem dX6_init_13 : decode cX6_init 13 = .ok (.aload_n 0, 1) := by decide +kernel
theorem dX6_init_14 : decode cX6_init 14 = .ok (.iconst 0, 1) := by decide +kernel
theorem dX6_init_15 : decode cX6_init 15 = .ok (.iload_n 2, 1) := by decide +kernel
theorem dX6_init_16 : decode cX6_init 16 = .ok (.invokestatic 9, 3) := by decide +kernel
theorem dX6_init_19 : decode cX6_init 19 = .ok (.putfield 21, 3) := by decide +kernel
theorem dX6_init_22 : decode cX6_init 22 = .ok (.aload_n 0, 1) := by decide +kernel
theorem dX6_init_23 : decode cX6_init 23 = .ok (.getfield 15, 3) := by decide +kernel
theorem dX6_init_26 : decode cX6_init 26 = .ok (.aload_n 0, 1) := by decide +kernel
theorem dX6_init_27 : decode cX6_init 27 = .ok (.getfield 21, 3) := by decide +kernel
theorem dX6_init_30 : decode cX6_init 30 = .ok (.imul, 1) := by decide +kernel
theorem dX6_init_31 : decode cX6_init 31 = .ok (.istore_n 3, 1) := by decide +kernel
theorem dX6_init_32 : decode cX6_init 32 = .ok (.aload_n 0, 1) := by decide +kernel
theorem dX6_init_33 : decode cX6_init 33 = .ok (.iload_n 3, 1) := by decide +kernel
theorem dX6_init_34 : decode cX6_init 34 = .ok (.ifCond .ge 7, 3) := by decide +kernel
theorem dX6_init_37 : decode cX6_init 37 = .ok (.iconst 0, 1) := by decide +kernel
theorem dX6_init_38 : decode cX6_init 38 = .ok (.goto 4, 3) := by decide +kernel
theorem dX6_init_41 : decode cX6_init 41 = .ok (.iload_n 3, 1) := by decide +kernel
theorem dX6_init_42 : decode cX6_init 42 = .ok (.newarray .int, 2) := by decide +kernel
theorem dX6_init_44 : decode cX6_init 44 = .ok (.putfield 24, 3) := by decide +kernel
theorem dX6_init_47 : decode cX6_init 47 = .ok (.return_, 1) := by decide +kernel
theorem dX6_size_0 : decode cX6_size 0 = .ok (.aload_n 0, 1) := by decide +kernel
theorem dX6_size_1 : decode cX6_size 1 = .ok (.getfield 28, 3) := by decide +kernel
theorem dX6_size_4 : decode cX6_size 4 = .ok (.ireturn, 1) := by decide +kernel
theorem dX6_has_0 : decode cX6_has 0 = .ok (.iload_n 1, 1) := by decide +kernel
theorem dX6_has_1 : decode cX6_has 1 = .ok (.ifCond .lt 15, 3) := by decide +kernel
theorem dX6_has_4 : decode cX6_has 4 = .ok (.iload_n 1, 1) := by decide +kernel
theorem dX6_has_5 : decode cX6_has 5 = .ok (.aload_n 0, 1) := by decide +kernel
theorem dX6_has_6 : decode cX6_has 6 = .ok (.getfield 28, 3) := by decide +kernel
theorem dX6_has_9 : decode cX6_has 9 = .ok (.if_icmp .ge 7, 3) := by decide +kernel
theorem dX6_has_12 : decode cX6_has 12 = .ok (.iconst 1, 1) := by decide +kernel
theorem dX6_has_13 : decode cX6_has 13 = .ok (.goto 4, 3) := by decide +kernel
theorem dX6_has_16 : decode cX6_has 16 = .ok (.iconst 0, 1) := by decide +kernel
theorem dX6_has_17 : decode cX6_has 17 = .ok (.ireturn, 1) := by decide +kernel
theorem dX6_isFull_0 : decode cX6_isFull 0 = .ok (.aload_n 0, 1) := by decide +kernel
theorem dX6_isFull_1 : decode cX6_isFull 1 = .ok (.getfield 28, 3) := by decide +kernel
theorem dX6_isFull_4 : decode cX6_isFull 4 = .ok (.aload_n 0, 1) := by decide +kernel
theorem dX6_isFull_5 : decode cX6_isFull 5 = .ok (.getfield 15, 3) := by decide +kernel
theorem dX6_isFull_8 : decode cX6_isFull 8 = .ok (.if_icmp .lt 7, 3) := by decide +kernel
theorem dX6_isFull_11 : decode cX6_isFull 11 = .ok (.iconst 1, 1) := by decide +kernel
theorem dX6_isFull_12 : decode cX6_isFull 12 = .ok (.goto 4, 3) := by decide +kernel
theorem dX6_isFull_15 : decode cX6_isFull 15 = .ok (.iconst 0, 1) := by decide +kernel
theorem dX6_isFull_16 : decode cX6_isFull 16 = .ok (.ireturn, 1) := by decide +kernel
theorem dX6_addRow_0 : decode cX6_addRow 0 = .ok (.aload_n 0, 1) := by decide +kernel
theorem dX6_addRow_1 : decode cX6_addRow 1 = .ok (.invokevirtual 31, 3) := by decide +kernel
theorem dX6_addRow_4 : decode cX6_addRow 4 = .ok (.ifCond .eq 6, 3) := by decide +kernel
theorem dX6_addRow_7 : decode cX6_addRow 7 = .ok (.bipush (-9), 2) := by decide +kernel
theorem dX6_addRow_9 : decode cX6_addRow 9 = .ok (.ireturn, 1) := by decide +kernel
theorem dX6_addRow_10 : decode cX6_addRow 10 = .ok (.aload_n 0, 1) := by decide +kernel
theorem dX6_addRow_11 : decode cX6_addRow 11 = .ok (.getfield 28, 3) := by decide +kernel
theorem dX6_addRow_14 : decode cX6_addRow 14 = .ok (.istore_n 1, 1) := by decide +kernel
theorem dX6_addRow_15 : decode cX6_addRow 15 = .ok (.aload_n 0, 1) := by decide +kernel
theorem dX6_addRow_16 : decode cX6_addRow 16 = .ok (.iload_n 1, 1) := by decide +kernel
theorem dX6_addRow_17 : decode cX6_addRow 17 = .ok (.iconst 1, 1) := by decide +kernel
theorem dX6_addRow_18 : decode cX6_addRow 18 = .ok (.iadd, 1) := by decide +kernel
theorem dX6_addRow_19 : decode cX6_addRow 19 = .ok (.putfield 28, 3) := by decide +kernel
theorem dX6_addRow_22 : decode cX6_addRow 22 = .ok (.iconst 0, 1) := by decide +kernel
theorem dX6_addRow_23 : decode cX6_addRow 23 = .ok (.istore_n 2, 1) := by decide +kernel
theorem dX6_addRow_24 : decode cX6_addRow 24 = .ok (.iload_n 2, 1) := by decide +kernel
theorem dX6_addRow_25 : decode cX6_addRow 25 = .ok (.aload_n 0, 1) := by decide +kernel
theorem dX6_addRow_26 : decode cX6_addRow 26 = .ok (.getfield 21, 3) := by decide +kernel
theorem dX6_addRow_29 : decode cX6_addRow 29 = .ok (.if_icmp .ge 16, 3) := by decide +kernel
theorem dX6_addRow_32 : decode cX6_addRow 32 = .ok (.aload_n 0, 1) := by decide +kernel
theorem dX6_addRow_33 : decode cX6_addRow 33 = .ok (.iload_n 1, 1) := by decide +kernel
theorem dX6_addRow_34 : decode cX6_addRow 34 = .ok (.iload_n 2, 1) := by decide +kernel
theorem dX6_addRow_35 : decode cX6_addRow 35 = .ok (.iconst 0, 1) := by decide +kernel
theorem dX6_addRow_36 : decode cX6_addRow 36 = .ok (.invokevirtual 35, 3) := by decide +kernel
theorem dX6_addRow_39 : decode cX6_addRow 39 = .ok (.iinc 2 1, 3) := by decide +kernel
theorem dX6_addRow_42 : decode cX6_addRow 42 = .ok (.goto (-18), 3) := by decide +kernel
theorem dX6_addRow_45 : decode cX6_addRow 45 = .ok (.iload_n 1, 1) := by decide +kernel
theorem dX6_addRow_46 : decode cX6_addRow 46 = .ok (.ireturn, 1) := by decide +kernel
theorem dX6_cell_0 : decode cX6_cell 0 = .ok (.iload_n 1, 1) := by decide +kernel
theorem dX6_cell_1 : decode cX6_cell 1 = .ok (.aload_n 0, 1) := by decide +kernel
theorem dX6_cell_2 : decode cX6_cell 2 = .ok (.getfield 21, 3) := by decide +kernel
theorem dX6_cell_5 : decode cX6_cell 5 = .ok (.imul, 1) := by decide +kernel
theorem dX6_cell_6 : decode cX6_cell 6 = .ok (.iload_n 2, 1) := by decide +kernel
theorem dX6_cell_7 : decode cX6_cell 7 = .ok (.iadd, 1) := by decide +kernel
theorem dX6_cell_8 : decode cX6_cell 8 = .ok (.istore_n 3, 1) := by decide +kernel
theorem dX6_cell_9 : decode cX6_cell 9 = .ok (.iload_n 1, 1) := by decide +kernel
theorem dX6_cell_10 : decode cX6_cell 10 = .ok (.ifCond .lt 27, 3) := by decide +kernel
theorem dX6_cell_13 : decode cX6_cell 13 = .ok (.iload_n 1, 1) := by decide +kernel
theorem dX6_cell_14 : decode cX6_cell 14 = .ok (.aload_n 0, 1) := by decide +kernel
theorem dX6_cell_15 : decode cX6_cell 15 = .ok (.getfield 28, 3) := by decide +kernel
theorem dX6_cell_18 : decode cX6_cell 18 = .ok (.if_icmp .ge 19, 3) := by decide +kernel
theorem dX6_cell_21 : decode cX6_cell 21 = .ok (.iload_n 2, 1) := by decide +kernel
theorem dX6_cell_22 : decode cX6_cell 22 = .ok (.ifCond .lt 15, 3) := by decide +kernel
theorem dX6_cell_25 : decode cX6_cell 25 = .ok (.iload_n 2, 1) := by decide +kernel
theorem dX6_cell_26 : decode cX6_cell 26 = .ok (.aload_n 0, 1) := by decide +kernel
theorem dX6_cell_27 : decode cX6_cell 27 = .ok (.getfield 21, 3) := by decide +kernel
theorem dX6_cell_30 : decode cX6_cell 30 = .ok (.if_icmp .ge 7, 3) := by decide +kernel
theorem dX6_cell_33 : decode cX6_cell 33 = .ok (.iconst 1, 1) := by decide +kernel
theorem dX6_cell_34 : decode cX6_cell 34 = .ok (.goto 4, 3) := by decide +kernel
theorem dX6_cell_37 : decode cX6_cell 37 = .ok (.iconst 0, 1) := by decide +kernel
theorem dX6_cell_38 : decode cX6_cell 38 = .ok (.istore 4, 2) := by decide +kernel
theorem dX6_cell_40 : decode cX6_cell 40 = .ok (.iload 4, 2) := by decide +kernel
theorem dX6_cell_42 : decode cX6_cell 42 = .ok (.ifCond .eq 25, 3) := by decide +kernel
theorem dX6_cell_45 : decode cX6_cell 45 = .ok (.iload_n 3, 1) := by decide +kernel
theorem dX6_cell_46 : decode cX6_cell 46 = .ok (.ifCond .lt 21, 3) := by decide +kernel
theorem dX6_cell_49 : decode cX6_cell 49 = .ok (.iload_n 3, 1) := by decide +kernel
theorem dX6_cell_50 : decode cX6_cell 50 = .ok (.aload_n 0, 1) := by decide +kernel
theorem dX6_cell_51 : decode cX6_cell 51 = .ok (.getfield 24, 3) := by decide +kernel
theorem dX6_cell_54 : decode cX6_cell 54 = .ok (.arraylength, 1) := by decide +kernel
theorem dX6_cell_55 : decode cX6_cell 55 = .ok (.if_icmp .ge 12, 3) := by decide +kernel
theorem dX6_cell_58 : decode cX6_cell 58 = .ok (.aload_n 0, 1) := by decide +kernel
theorem dX6_cell_59 : decode cX6_cell 59 = .ok (.getfield 24, 3) := by decide +kernel
theorem dX6_cell_62 : decode cX6_cell 62 = .ok (.iload_n 3, 1) := by decide +kernel
theorem dX6_cell_63 : decode cX6_cell 63 = .ok (.iaload, 1) := by decide +kernel
theorem dX6_cell_64 : decode cX6_cell 64 = .ok (.goto 4, 3) := by decide +kernel
theorem dX6_cell_67 : decode cX6_cell 67 = .ok (.iconst 0, 1) := by decide +kernel
theorem dX6_cell_68 : decode cX6_cell 68 = .ok (.ireturn, 1) := by decide +kernel
theorem dX6_put_0 : decode cX6_put 0 = .ok (.iload_n 1, 1) := by decide +kernel
theorem dX6_put_1 : decode cX6_put 1 = .ok (.aload_n 0, 1) := by decide +kernel
theorem dX6_put_2 : decode cX6_put 2 = .ok (.getfield 21, 3) := by decide +kernel
theorem dX6_put_5 : decode cX6_put 5 = .ok (.imul, 1) := by decide +kernel
theorem dX6_put_6 : decode cX6_put 6 = .ok (.iload_n 2, 1) := by decide +kernel
theorem dX6_put_7 : decode cX6_put 7 = .ok (.iadd, 1) := by decide +kernel
theorem dX6_put_8 : decode cX6_put 8 = .ok (.istore 4, 2) := by decide +kernel
theorem dX6_put_10 : decode cX6_put 10 = .ok (.iload_n 1, 1) := by decide +kernel
theorem dX6_put_11 : decode cX6_put 11 = .ok (.ifCond .lt 27, 3) := by decide +kernel
theorem dX6_put_14 : decode cX6_put 14 = .ok (.iload_n 1, 1) := by decide +kernel
theorem dX6_put_15 : decode cX6_put 15 = .ok (.aload_n 0, 1) := by decide +kernel
theorem dX6_put_16 : decode cX6_put 16 = .ok (.getfield 28, 3) := by decide +kernel
theorem dX6_put_19 : decode cX6_put 19 = .ok (.if_icmp .ge 19, 3) := by decide +kernel
theorem dX6_put_22 : decode cX6_put 22 = .ok (.iload_n 2, 1) := by decide +kernel
theorem dX6_put_23 : decode cX6_put 23 = .ok (.ifCond .lt 15, 3) := by decide +kernel
theorem dX6_put_26 : decode cX6_put 26 = .ok (.iload_n 2, 1) := by decide +kernel
theorem dX6_put_27 : decode cX6_put 27 = .ok (.aload_n 0, 1) := by decide +kernel
theorem dX6_put_28 : decode cX6_put 28 = .ok (.getfield 21, 3) := by decide +kernel
theorem dX6_put_31 : decode cX6_put 31 = .ok (.if_icmp .ge 7, 3) := by decide +kernel
theorem dX6_put_34 : decode cX6_put 34 = .ok (.iconst 1, 1) := by decide +kernel
theorem dX6_put_35 : decode cX6_put 35 = .ok (.goto 4, 3) := by decide +kernel
theorem dX6_put_38 : decode cX6_put 38 = .ok (.iconst 0, 1) := by decide +kernel
theorem dX6_put_39 : decode cX6_put 39 = .ok (.istore 5, 2) := by decide +kernel
theorem dX6_put_41 : decode cX6_put 41 = .ok (.iload 5, 2) := by decide +kernel
theorem dX6_put_43 : decode cX6_put 43 = .ok (.ifCond .eq 26, 3) := by decide +kernel
theorem dX6_put_46 : decode cX6_put 46 = .ok (.iload 4, 2) := by decide +kernel
theorem dX6_put_48 : decode cX6_put 48 = .ok (.ifCond .lt 21, 3) := by decide +kernel
theorem dX6_put_51 : decode cX6_put 51 = .ok (.iload 4, 2) := by decide +kernel
theorem dX6_put_53 : decode cX6_put 53 = .ok (.aload_n 0, 1) := by decide +kernel
theorem dX6_put_54 : decode cX6_put 54 = .ok (.getfield 24, 3) := by decide +kernel
theorem dX6_put_57 : decode cX6_put 57 = .ok (.arraylength, 1) := by decide +kernel
theorem dX6_put_58 : decode cX6_put 58 = .ok (.if_icmp .ge 11, 3) := by decide +kernel
theorem dX6_put_61 : decode cX6_put 61 = .ok (.aload_n 0, 1) := by decide +kernel
theorem dX6_put_62 : decode cX6_put 62 = .ok (.getfield 24, 3) := by decide +kernel
theorem dX6_put_65 : decode cX6_put 65 = .ok (.iload 4, 2) := by decide +kernel
theorem dX6_put_67 : decode cX6_put 67 = .ok (.iload_n 3, 1) := by decide +kernel
theorem dX6_put_68 : decode cX6_put 68 = .ok (.iastore, 1) := by decide +kernel
theorem dX6_put_69 : decode cX6_put 69 = .ok (.return_, 1) := by decide +kernel
theorem dX6_raise_0 : decode cX6_raise 0 = .ok (.aload_n 0, 1) := by decide +kernel
theorem dX6_raise_1 : decode cX6_raise 1 = .ok (.iload_n 1, 1) := by decide +kernel
theorem dX6_raise_2 : decode cX6_raise 2 = .ok (.iload_n 2, 1) := by decide +kernel
theorem dX6_raise_3 : decode cX6_raise 3 = .ok (.aload_n 0, 1) := by decide +kernel
theorem dX6_raise_4 : decode cX6_raise 4 = .ok (.iload_n 1, 1) := by decide +kernel
theorem dX6_raise_5 : decode cX6_raise 5 = .ok (.iload_n 2, 1) := by decide +kernel
theorem dX6_raise_6 : decode cX6_raise 6 = .ok (.invokevirtual 39, 3) := by decide +kernel
theorem dX6_raise_9 : decode cX6_raise 9 = .ok (.iload_n 3, 1) := by decide +kernel
theorem dX6_raise_10 : decode cX6_raise 10 = .ok (.iadd, 1) := by decide +kernel
theorem dX6_raise_11 : decode cX6_raise 11 = .ok (.invokevirtual 35, 3) := by decide +kernel
theorem dX6_raise_14 : decode cX6_raise 14 = .ok (.return_, 1) := by decide +kernel
theorem dX6_total_0 : decode cX6_total 0 = .ok (.iconst 0, 1) := by decide +kernel
theorem dX6_total_1 : decode cX6_total 1 = .ok (.istore_n 2, 1) := by decide +kernel
theorem dX6_total_2 : decode cX6_total 2 = .ok (.iconst 0, 1) := by decide +kernel
theorem dX6_total_3 : decode cX6_total 3 = .ok (.istore_n 3, 1) := by decide +kernel
theorem dX6_total_4 : decode cX6_total 4 = .ok (.iload_n 3, 1) := by decide +kernel
theorem dX6_total_5 : decode cX6_total 5 = .ok (.aload_n 0, 1) := by decide +kernel
theorem dX6_total_6 : decode cX6_total 6 = .ok (.getfield 28, 3) := by decide +kernel
theorem dX6_total_9 : decode cX6_total 9 = .ok (.if_icmp .ge 18, 3) := by decide +kernel
theorem dX6_total_12 : decode cX6_total 12 = .ok (.iload_n 2, 1) := by decide +kernel
theorem dX6_total_13 : decode cX6_total 13 = .ok (.aload_n 0, 1) := by decide +kernel
theorem dX6_total_14 : decode cX6_total 14 = .ok (.iload_n 3, 1) := by decide +kernel
theorem dX6_total_15 : decode cX6_total 15 = .ok (.iload_n 1, 1) := by decide +kernel
theorem dX6_total_16 : decode cX6_total 16 = .ok (.invokevirtual 39, 3) := by decide +kernel
theorem dX6_total_19 : decode cX6_total 19 = .ok (.iadd, 1) := by decide +kernel
theorem dX6_total_20 : decode cX6_total 20 = .ok (.istore_n 2, 1) := by decide +kernel
theorem dX6_total_21 : decode cX6_total 21 = .ok (.iinc 3 1, 3) := by decide +kernel
theorem dX6_total_24 : decode cX6_total 24 = .ok (.goto (-20), 3) := by decide +kernel
theorem dX6_total_27 : decode cX6_total 27 = .ok (.iload_n 2, 1) := by decide +kernel
theorem dX6_total_28 : decode cX6_total 28 = .ok (.ireturn, 1) := by decide +kernel
theorem dX6_copyFrom_0 : decode cX6_copyFrom 0 = .ok (.aload_n 1, 1) := by decide +kernel
theorem dX6_copyFrom_1 : decode cX6_copyFrom 1 = .ok (.getfield 28, 3) := by decide +kernel
theorem dX6_copyFrom_4 : decode cX6_copyFrom 4 = .ok (.aload_n 1, 1) := by decide +kernel
theorem dX6_copyFrom_5 : decode cX6_copyFrom 5 = .ok (.getfield 21, 3) := by decide +kernel
theorem dX6_copyFrom_8 : decode cX6_copyFrom 8 = .ok (.imul, 1) := by decide +kernel
theorem dX6_copyFrom_9 : decode cX6_copyFrom 9 = .ok (.aload_n 1, 1) := by decide +kernel
theorem dX6_copyFrom_10 : decode cX6_copyFrom 10 = .ok (.getfield 24, 3) := by decide +kernel
theorem dX6_copyFrom_13 : decode cX6_copyFrom 13 = .ok (.arraylength, 1) := by decide +kernel
theorem dX6_copyFrom_14 : decode cX6_copyFrom 14 = .ok (.aload_n 0, 1) := by decide +kernel
theorem dX6_copyFrom_15 : decode cX6_copyFrom 15 = .ok (.getfield 24, 3) := by decide +kernel
theorem dX6_copyFrom_18 : decode cX6_copyFrom 18 = .ok (.arraylength, 1) := by decide +kernel
theorem dX6_copyFrom_19 : decode cX6_copyFrom 19 = .ok (.invokestatic 42, 3) := by decide +kernel
theorem dX6_copyFrom_22 : decode cX6_copyFrom 22 = .ok (.invokestatic 42, 3) := by decide +kernel
theorem dX6_copyFrom_25 : decode cX6_copyFrom 25 = .ok (.istore_n 2, 1) := by decide +kernel
theorem dX6_copyFrom_26 : decode cX6_copyFrom 26 = .ok (.iload_n 2, 1) := by decide +kernel
theorem dX6_copyFrom_27 : decode cX6_copyFrom 27 = .ok (.ifCond .le 17, 3) := by decide +kernel
theorem dX6_copyFrom_30 : decode cX6_copyFrom 30 = .ok (.aload_n 1, 1) := by decide +kernel
theorem dX6_copyFrom_31 : decode cX6_copyFrom 31 = .ok (.getfield 24, 3) := by decide +kernel
theorem dX6_copyFrom_34 : decode cX6_copyFrom 34 = .ok (.iconst 0, 1) := by decide +kernel
theorem dX6_copyFrom_35 : decode cX6_copyFrom 35 = .ok (.aload_n 0, 1) := by decide +kernel
theorem dX6_copyFrom_36 : decode cX6_copyFrom 36 = .ok (.getfield 24, 3) := by decide +kernel
theorem dX6_copyFrom_39 : decode cX6_copyFrom 39 = .ok (.iconst 0, 1) := by decide +kernel
theorem dX6_copyFrom_40 : decode cX6_copyFrom 40 = .ok (.iload_n 2, 1) := by decide +kernel
theorem dX6_copyFrom_41 : decode cX6_copyFrom 41 = .ok (.invokestatic 45, 3) := by decide +kernel
theorem dX6_copyFrom_44 : decode cX6_copyFrom 44 = .ok (.aload_n 0, 1) := by decide +kernel
theorem dX6_copyFrom_45 : decode cX6_copyFrom 45 = .ok (.aload_n 1, 1) := by decide +kernel
theorem dX6_copyFrom_46 : decode cX6_copyFrom 46 = .ok (.getfield 28, 3) := by decide +kernel
theorem dX6_copyFrom_49 : decode cX6_copyFrom 49 = .ok (.putfield 28, 3) := by decide +kernel
theorem dX6_copyFrom_52 : decode cX6_copyFrom 52 = .ok (.return_, 1) := by decide +kernel
theorem dX7_init_0 : decode cX7_init 0 = .ok (.aload_n 0, 1) := by decide +kernel
theorem dX7_init_1 : decode cX7_init 1 = .ok (.invokespecial 3, 3) := by decide +kernel
theorem dX7_init_4 : decode cX7_init 4 = .ok (.aload_n 0, 1) := by decide +kernel
theorem dX7_init_5 : decode cX7_init 5 = .ok (.new 9, 3) := by decide +kernel
theorem dX7_init_8 : decode cX7_init 8 = .ok (.dup, 1) := by decide +kernel
theorem dX7_init_9 : decode cX7_init 9 = .ok (.iconst 4, 1) := by decide +kernel
theorem dX7_init_10 : decode cX7_init 10 = .ok (.bipush 11, 2) := by decide +kernel
theorem dX7_init_12 : decode cX7_init 12 = .ok (.invokespecial 11, 3) := by decide +kernel
theorem dX7_init_15 : decode cX7_init 15 = .ok (.putfield 14, 3) := by decide +kernel
theorem dX7_init_18 : decode cX7_init 18 = .ok (.aload_n 0, 1) := by decide +kernel
theorem dX7_init_19 : decode cX7_init 19 = .ok (.new 9, 3) := by decide +kernel
theorem dX7_init_22 : decode cX7_init 22 = .ok (.dup, 1) := by decide +kernel
theorem dX7_init_23 : decode cX7_init 23 = .ok (.bipush 16, 2) := by decide +kernel
theorem dX7_init_25 : decode cX7_init 25 = .ok (.bipush 10, 2) := by decide +kernel
theorem dX7_init_27 : decode cX7_init 27 = .ok (.invokespecial 11, 3) := by decide +kernel
theorem dX7_init_30 : decode cX7_init 30 = .ok (.putfield 20, 3) := by decide +kernel
theorem dX7_init_33 : decode cX7_init 33 = .ok (.aload_n 0, 1) := by decide +kernel
theorem dX7_init_34 : decode cX7_init 34 = .ok (.new 9, 3) := by decide +kernel
theorem dX7_init_37 : decode cX7_init 37 = .ok (.dup, 1) := by decide +kernel
theorem dX7_init_38 : decode cX7_init 38 = .ok (.bipush 8, 2) := by decide +kernel
theorem dX7_init_40 : decode cX7_init 40 = .ok (.iconst 2, 1) := by decide +kernel
theorem dX7_init_41 : decode cX7_init 41 = .ok (.invokespecial 11, 3) := by decide +kernel
theorem dX7_init_44 : decode cX7_init 44 = .ok (.putfield 23, 3) := by decide +kernel
theorem dX7_init_47 : decode cX7_init 47 = .ok (.aload_n 0, 1) := by decide +kernel
theorem dX7_init_48 : decode cX7_init 48 = .ok (.new 9, 3) := by decide +kernel
theorem dX7_init_51 : decode cX7_init 51 = .ok (.dup, 1) := by decide +kernel
theorem dX7_init_52 : decode cX7_init 52 = .ok (.bipush 16, 2) := by decide +kernel
theorem dX7_init_54 : decode cX7_init 54 = .ok (.iconst 4, 1) := by decide +kernel
theorem dX7_init_55 : decode cX7_init 55 = .ok (.invokespecial 11, 3) := by decide +kernel
theorem dX7_init_58 : decode cX7_init 58 = .ok (.putfield 26, 3) := by decide +kernel
theorem dX7_init_61 : decode cX7_init 61 = .ok (.aload_n 0, 1) := by decide +kernel
theorem dX7_init_62 : decode cX7_init 62 = .ok (.new 9, 3) := by decide +kernel
theorem dX7_init_65 : decode cX7_init 65 = .ok (.dup, 1) := by decide +kernel
theorem dX7_init_66 : decode cX7_init 66 = .ok (.getstatic 29, 3) := by decide +kernel
theorem dX7_init_69 : decode cX7_init 69 = .ok (.arraylength, 1) := by decide +kernel
theorem dX7_init_70 : decode cX7_init 70 = .ok (.iconst 1, 1) := by decide +kernel
theorem dX7_init_71 : decode cX7_init 71 = .ok (.invokespecial 11, 3) := by decide +kernel
theorem dX7_init_74 : decode cX7_init 74 = .ok (.putfield 33, 3) := by decide +kernel
theorem dX7_init_77 : decode cX7_init 77 = .ok (.iconst 0, 1) := by decide +kernel
theorem dX7_init_78 : decode cX7_init 78 = .ok (.istore_n 1, 1) := by decide +kernel
theorem dX7_init_79 : decode cX7_init 79 = .ok (.iload_n 1, 1) := by decide +kernel
theorem dX7_init_80 : decode cX7_init 80 = .ok (.getstatic 29, 3) := by decide +kernel
theorem dX7_init_83 : decode cX7_init 83 = .ok (.arraylength, 1) := by decide +kernel
theorem dX7_init_84 : decode cX7_init 84 = .ok (.if_icmp .ge 29, 3) := by decide +kernel
theorem dX7_init_87 : decode cX7_init 87 = .ok (.aload_n 0, 1) := by decide +kernel
theorem dX7_init_88 : decode cX7_init 88 = .ok (.getfield 33, 3) := by decide +kernel
theorem dX7_init_91 : decode cX7_init 91 = .ok (.aload_n 0, 1) := by decide +kernel
theorem dX7_init_92 : decode cX7_init 92 = .ok (.getfield 33, 3) := by decide +kernel
theorem dX7_init_95 : decode cX7_init 95 = .ok (.invokevirtual 36, 3) := by decide +kernel
theorem dX7_init_98 : decode cX7_init 98 = .ok (.iconst 0, 1) := by decide +kernel
theorem dX7_init_99 : decode cX7_init 99 = .ok (.getstatic 29, 3) := by decide +kernel
theorem dX7_init_102 : decode cX7_init 102 = .ok (.iload_n 1, 1) := by decide +kernel
theorem dX7_init_103 : decode cX7_init 103 = .ok (.iaload, 1) := by decide +kernel
theorem dX7_init_104 : decode cX7_init 104 = .ok (.invokevirtual 40, 3) := by decide +kernel
theorem dX7_init_107 : decode cX7_init 107 = .ok (.iinc 1 1, 3) := by decide +kernel
theorem dX7_init_110 : decode cX7_init 110 = .ok (.goto (-31), 3) := by decide +kernel
theorem dX7_init_113 : decode cX7_init 113 = .ok (.return_, 1) := by decide +kernel
theorem dX7_copyFrom_0 : decode cX7_copyFrom 0 = .ok (.aload_n 0, 1) := by decide +kernel
theorem dX7_copyFrom_1 : decode cX7_copyFrom 1 = .ok (.getfield 14, 3) := by decide +kernel
theorem dX7_copyFrom_4 : decode cX7_copyFrom 4 = .ok (.aload_n 1, 1) := by decide +kernel
theorem dX7_copyFrom_5 : decode cX7_copyFrom 5 = .ok (.getfield 14, 3) := by decide +kernel
theorem dX7_copyFrom_8 : decode cX7_copyFrom 8 = .ok (.invokevirtual 44, 3) := by decide +kernel
theorem dX7_copyFrom_11 : decode cX7_copyFrom 11 = .ok (.aload_n 0, 1) := by decide +kernel
theorem dX7_copyFrom_12 : decode cX7_copyFrom 12 = .ok (.getfield 20, 3) := by decide +kernel
theorem dX7_copyFrom_15 : decode cX7_copyFrom 15 = .ok (.aload_n 1, 1) := by decide +kernel
theorem dX7_copyFrom_16 : decode cX7_copyFrom 16 = .ok (.getfield 20, 3) := by decide +kernel
theorem dX7_copyFrom_19 : decode cX7_copyFrom 19 = .ok (.invokevirtual 44, 3) := by decide +kernel
theorem dX7_copyFrom_22 : decode cX7_copyFrom 22 = .ok (.aload_n 0, 1) := by decide +kernel
theorem dX7_copyFrom_23 : decode cX7_copyFrom 23 = .ok (.getfield 23, 3) := by decide +kernel
theorem dX7_copyFrom_26 : decode cX7_copyFrom 26 = .ok (.aload_n 1, 1) := by decide +kernel
theorem dX7_copyFrom_27 : decode cX7_copyFrom 27 = .ok (.getfield 23, 3) := by decide +kernel
theorem dX7_copyFrom_30 : decode cX7_copyFrom 30 = .ok (.invokevirtual 44, 3) := by decide +kernel
theorem dX7_copyFrom_33 : decode cX7_copyFrom 33 = .ok (.aload_n 0, 1) := by decide +kernel
theorem dX7_copyFrom_34 : decode cX7_copyFrom 34 = .ok (.getfield 26, 3) := by decide +kernel
theorem dX7_copyFrom_37 : decode cX7_copyFrom 37 = .ok (.aload_n 1, 1) := by decide +kernel
theorem dX7_copyFrom_38 : decode cX7_copyFrom 38 = .ok (.getfield 26, 3) := by decide +kernel
theorem dX7_copyFrom_41 : decode cX7_copyFrom 41 = .ok (.invokevirtual 44, 3) := by decide +kernel
theorem dX7_copyFrom_44 : decode cX7_copyFrom 44 = .ok (.aload_n 0, 1) := by decide +kernel
theorem dX7_copyFrom_45 : decode cX7_copyFrom 45 = .ok (.getfield 33, 3) := by decide +kernel
theorem dX7_copyFrom_48 : decode cX7_copyFrom 48 = .ok (.aload_n 1, 1) := by decide +kernel
theorem dX7_copyFrom_49 : decode cX7_copyFrom 49 = .ok (.getfield 33, 3) := by decide +kernel
theorem dX7_copyFrom_52 : decode cX7_copyFrom 52 = .ok (.invokevirtual 44, 3) := by decide +kernel
theorem dX7_copyFrom_55 : decode cX7_copyFrom 55 = .ok (.aload_n 0, 1) := by decide +kernel
theorem dX7_copyFrom_56 : decode cX7_copyFrom 56 = .ok (.aload_n 1, 1) := by decide +kernel
theorem dX7_copyFrom_57 : decode cX7_copyFrom 57 = .ok (.getfield 48, 3) := by decide +kernel
theorem dX7_copyFrom_60 : decode cX7_copyFrom 60 = .ok (.putfield 48, 3) := by decide +kernel
theorem dX7_copyFrom_63 : decode cX7_copyFrom 63 = .ok (.return_, 1) := by decide +kernel
theorem dX7_setting_0 : decode cX7_setting 0 = .ok (.aload_n 0, 1) := by decide +kernel
theorem dX7_setting_1 : decode cX7_setting 1 = .ok (.getfield 33, 3) := by decide +kernel
theorem dX7_setting_4 : decode cX7_setting 4 = .ok (.iload_n 1, 1) := by decide +kernel
theorem dX7_setting_5 : decode cX7_setting 5 = .ok (.iconst 0, 1) := by decide +kernel
theorem dX7_setting_6 : decode cX7_setting 6 = .ok (.invokevirtual 52, 3) := by decide +kernel
theorem dX7_setting_9 : decode cX7_setting 9 = .ok (.ireturn, 1) := by decide +kernel
theorem dX7_isBooked_0 : decode cX7_isBooked 0 = .ok (.aload_n 0, 1) := by decide +kernel
theorem dX7_isBooked_1 : decode cX7_isBooked 1 = .ok (.getfield 20, 3) := by decide +kernel
theorem dX7_isBooked_4 : decode cX7_isBooked 4 = .ok (.iload_n 1, 1) := by decide +kernel
theorem dX7_isBooked_5 : decode cX7_isBooked 5 = .ok (.invokevirtual 56, 3) := by decide +kernel
theorem dX7_isBooked_8 : decode cX7_isBooked 8 = .ok (.ifCond .eq 19, 3) := by decide +kernel
theorem dX7_isBooked_11 : decode cX7_isBooked 11 = .ok (.aload_n 0, 1) := by decide +kernel
theorem dX7_isBooked_12 : decode cX7_isBooked 12 = .ok (.getfield 20, 3) := by decide +kernel
theorem dX7_isBooked_15 : decode cX7_isBooked 15 = .ok (.iload_n 1, 1) := by decide +kernel
theorem dX7_isBooked_16 : decode cX7_isBooked 16 = .ok (.iconst 3, 1) := by decide +kernel
theorem dX7_isBooked_17 : decode cX7_isBooked 17 = .ok (.invokevirtual 52, 3) := by decide +kernel
theorem dX7_isBooked_20 : decode cX7_isBooked 20 = .ok (.ifCond .ne 7, 3) := by decide +kernel
theorem dX7_isBooked_23 : decode cX7_isBooked 23 = .ok (.iconst 1, 1) := by decide +kernel
theorem dX7_isBooked_24 : decode cX7_isBooked 24 = .ok (.goto 4, 3) := by decide +kernel
theorem dX7_isBooked_27 : decode cX7_isBooked 27 = .ok (.iconst 0, 1) := by decide +kernel
theorem dX7_isBooked_28 : decode cX7_isBooked 28 = .ok (.ireturn, 1) := by decide +kernel
theorem dX7_bookingsInState_0 : decode cX7_bookingsInState 0 = .ok (.iconst 0, 1) := by decide +kernel
theorem dX7_bookingsInState_1 : decode cX7_bookingsInState 1 = .ok (.istore_n 2, 1) := by decide +kernel
theorem dX7_bookingsInState_2 : decode cX7_bookingsInState 2 = .ok (.iconst 0, 1) := by decide +kernel
theorem dX7_bookingsInState_3 : decode cX7_bookingsInState 3 = .ok (.istore_n 3, 1) := by decide +kernel
theorem dX7_bookingsInState_4 : decode cX7_bookingsInState 4 = .ok (.iload_n 3, 1) := by decide +kernel
theorem dX7_bookingsInState_5 : decode cX7_bookingsInState 5 = .ok (.aload_n 0, 1) := by decide +kernel
theorem dX7_bookingsInState_6 : decode cX7_bookingsInState 6 = .ok (.getfield 20, 3) := by decide +kernel
theorem dX7_bookingsInState_9 : decode cX7_bookingsInState 9 = .ok (.invokevirtual 60, 3) := by decide +kernel
theorem dX7_bookingsInState_12 : decode cX7_bookingsInState 12 = .ok (.if_icmp .ge 25, 3) := by decide +kernel
theorem dX7_bookingsInState_15 : decode cX7_bookingsInState 15 = .ok (.aload_n 0, 1) := by decide +kernel
theorem dX7_bookingsInState_16 : decode cX7_bookingsInState 16 = .ok (.getfield 20, 3) := by decide +kernel
theorem dX7_bookingsInState_19 : decode cX7_bookingsInState 19 = .ok (.iload_n 3, 1) := by decide +kernel
theorem dX7_bookingsInState_20 : decode cX7_bookingsInState 20 = .ok (.iconst 3, 1) := by decide +kernel
theorem dX7_bookingsInState_21 : decode cX7_bookingsInState 21 = .ok (.invokevirtual 52, 3) := by decide +kernel
theorem dX7_bookingsInState_24 : decode cX7_bookingsInState 24 = .ok (.iload_n 1, 1) := by decide +kernel
theorem dX7_bookingsInState_25 : decode cX7_bookingsInState 25 = .ok (.if_icmp .ne 6, 3) := by decide +kernel
theorem dX7_bookingsInState_28 : decode cX7_bookingsInState 28 = .ok (.iinc 2 1, 3) := by decide +kernel
theorem dX7_bookingsInState_31 : decode cX7_bookingsInState 31 = .ok (.iinc 3 1, 3) := by decide +kernel
theorem dX7_bookingsInState_34 : decode cX7_bookingsInState 34 = .ok (.goto (-30), 3) := by decide +kernel
theorem dX7_bookingsInState_37 : decode cX7_bookingsInState 37 = .ok (.iload_n 2, 1) := by decide +kernel
theorem dX7_bookingsInState_38 : decode cX7_bookingsInState 38 = .ok (.ireturn, 1) := by decide +kernel
theorem dX7_period_0 : decode cX7_period 0 = .ok (.aload_n 0, 1) := by decide +kernel
theorem dX7_period_1 : decode cX7_period 1 = .ok (.getfield 14, 3) := by decide +kernel
theorem dX7_period_4 : decode cX7_period 4 = .ok (.iload_n 1, 1) := by decide +kernel
theorem dX7_period_5 : decode cX7_period 5 = .ok (.iconst 0, 1) := by decide +kernel
theorem dX7_period_6 : decode cX7_period 6 = .ok (.invokevirtual 52, 3) := by decide +kernel
theorem dX7_period_9 : decode cX7_period 9 = .ok (.aload_n 0, 1) := by decide +kernel
theorem dX7_period_10 : decode cX7_period 10 = .ok (.getfield 14, 3) := by decide +kernel
theorem dX7_period_13 : decode cX7_period 13 = .ok (.iload_n 1, 1) := by decide +kernel
theorem dX7_period_14 : decode cX7_period 14 = .ok (.iconst 1, 1) := by decide +kernel
theorem dX7_period_15 : decode cX7_period 15 = .ok (.invokevirtual 52, 3) := by decide +kernel
theorem dX7_period_18 : decode cX7_period 18 = .ok (.iadd, 1) := by decide +kernel
theorem dX7_period_19 : decode cX7_period 19 = .ok (.ireturn, 1) := by decide +kernel
theorem dX7_timeBehindPlays_0 : decode cX7_timeBehindPlays 0 = .ok (.iconst 0, 1) := by decide +kernel
theorem dX7_timeBehindPlays_1 : decode cX7_timeBehindPlays 1 = .ok (.istore_n 2, 1) := by decide +kernel
theorem dX7_timeBehindPlays_2 : decode cX7_timeBehindPlays 2 = .ok (.iconst 0, 1) := by decide +kernel
theorem dX7_timeBehindPlays_3 : decode cX7_timeBehindPlays 3 = .ok (.istore_n 3, 1) := by decide +kernel
theorem dX7_timeBehindPlays_4 : decode cX7_timeBehindPlays 4 = .ok (.iload_n 3, 1) := by decide +kernel
theorem dX7_timeBehindPlays_5 : decode cX7_timeBehindPlays 5 = .ok (.aload_n 0, 1) := by decide +kernel
theorem dX7_timeBehindPlays_6 : decode cX7_timeBehindPlays 6 = .ok (.getfield 20, 3) := by decide +kernel
theorem dX7_timeBehindPlays_9 : decode cX7_timeBehindPlays 9 = .ok (.invokevirtual 60, 3) := by decide +kernel
theorem dX7_timeBehindPlays_12 : decode cX7_timeBehindPlays 12 = .ok (.if_icmp .ge 51, 3) := by decide +kernel
theorem dX7_timeBehindPlays_15 : decode cX7_timeBehindPlays 15 = .ok (.aload_n 0, 1) := by decide +kernel
theorem dX7_timeBehindPlays_16 : decode cX7_timeBehindPlays 16 = .ok (.getfield 20, 3) := by decide +kernel
theorem dX7_timeBehindPlays_19 : decode cX7_timeBehindPlays 19 = .ok (.iload_n 3, 1) := by decide +kernel
theorem dX7_timeBehindPlays_20 : decode cX7_timeBehindPlays 20 = .ok (.iconst 0, 1) := by decide +kernel
theorem dX7_timeBehindPlays_21 : decode cX7_timeBehindPlays 21 = .ok (.invokevirtual 52, 3) := by decide +kernel
theorem dX7_timeBehindPlays_24 : decode cX7_timeBehindPlays 24 = .ok (.iload_n 1, 1) := by decide +kernel
theorem dX7_timeBehindPlays_25 : decode cX7_timeBehindPlays 25 = .ok (.if_icmp .ne 32, 3) := by decide +kernel
theorem dX7_timeBehindPlays_28 : decode cX7_timeBehindPlays 28 = .ok (.aload_n 0, 1) := by decide +kernel
theorem dX7_timeBehindPlays_29 : decode cX7_timeBehindPlays 29 = .ok (.getfield 20, 3) := by decide +kernel
theorem dX7_timeBehindPlays_32 : decode cX7_timeBehindPlays 32 = .ok (.iload_n 3, 1) := by decide +kernel
theorem dX7_timeBehindPlays_33 : decode cX7_timeBehindPlays 33 = .ok (.iconst 3, 1) := by decide +kernel
theorem dX7_timeBehindPlays_34 : decode cX7_timeBehindPlays 34 = .ok (.invokevirtual 52, 3) := by decide +kernel
theorem dX7_timeBehindPlays_37 : decode cX7_timeBehindPlays 37 = .ok (.iconst 1, 1) := by decide +kernel
theorem dX7_timeBehindPlays_38 : decode cX7_timeBehindPlays 38 = .ok (.if_icmp .ne 19, 3) := by decide +kernel
theorem dX7_timeBehindPlays_41 : decode cX7_timeBehindPlays 41 = .ok (.iload_n 2, 1) := by decide +kernel
theorem dX7_timeBehindPlays_42 : decode cX7_timeBehindPlays 42 = .ok (.aload_n 0, 1) := by decide +kernel
theorem dX7_timeBehindPlays_43 : decode cX7_timeBehindPlays 43 = .ok (.getfield 20, 3) := by decide +kernel
theorem dX7_timeBehindPlays_46 : decode cX7_timeBehindPlays 46 = .ok (.iload_n 3, 1) := by decide +kernel
theorem dX7_timeBehindPlays_47 : decode cX7_timeBehindPlays 47 = .ok (.iconst 1, 1) := by decide +kernel
theorem dX7_timeBehindPlays_48 : decode cX7_timeBehindPlays 48 = .ok (.invokevirtual 52, 3) := by decide +kernel
theorem dX7_timeBehindPlays_51 : decode cX7_timeBehindPlays 51 = .ok (.iconst 1, 1) := by decide +kernel
theorem dX7_timeBehindPlays_52 : decode cX7_timeBehindPlays 52 = .ok (.iadd, 1) := by decide +kernel
theorem dX7_timeBehindPlays_53 : decode cX7_timeBehindPlays 53 = .ok (.invokestatic 63, 3) := by decide +kernel
theorem dX7_timeBehindPlays_56 : decode cX7_timeBehindPlays 56 = .ok (.istore_n 2, 1) := by decide +kernel
theorem dX7_timeBehindPlays_57 : decode cX7_timeBehindPlays 57 = .ok (.iinc 3 1, 3) := by decide +kernel
theorem dX7_timeBehindPlays_60 : decode cX7_timeBehindPlays 60 = .ok (.goto (-56), 3) := by decide +kernel
theorem dX7_timeBehindPlays_63 : decode cX7_timeBehindPlays 63 = .ok (.iload_n 2, 1) := by decide +kernel
theorem dX7_timeBehindPlays_64 : decode cX7_timeBehindPlays 64 = .ok (.ireturn, 1) := by decide +kernel
theorem dX7_collision_0 : decode cX7_collision 0 = .ok (.aload_n 0, 1) := by decide +kernel
theorem dX7_collision_1 : decode cX7_collision 1 = .ok (.iload_n 1, 1) := by decide +kernel
theorem dX7_collision_2 : decode cX7_collision 2 = .ok (.invokevirtual 68, 3) := by decide +kernel
theorem dX7_collision_5 : decode cX7_collision 5 = .ok (.istore 4, 2) := by decide +kernel
theorem dX7_collision_7 : decode cX7_collision 7 = .ok (.iconst 0, 1) := by decide +kernel
theorem dX7_collision_8 : decode cX7_collision 8 = .ok (.istore 5, 2) := by decide +kernel
theorem dX7_collision_10 : decode cX7_collision 10 = .ok (.iload 5, 2) := by decide +kernel
theorem dX7_collision_12 : decode cX7_collision 12 = .ok (.aload_n 0, 1) := by decide +kernel
theorem dX7_collision_13 : decode cX7_collision 13 = .ok (.getfield 20, 3) := by decide +kernel
theorem dX7_collision_16 : decode cX7_collision 16 = .ok (.invokevirtual 60, 3) := by decide +kernel
theorem dX7_collision_19 : decode cX7_collision 19 = .ok (.if_icmp .ge 87, 3) := by decide +kernel
theorem dX7_collision_22 : decode cX7_collision 22 = .ok (.aload_n 0, 1) := by decide +kernel
theorem dX7_collision_23 : decode cX7_collision 23 = .ok (.getfield 20, 3) := by decide +kernel
theorem dX7_collision_26 : decode cX7_collision 26 = .ok (.iload 5, 2) := by decide +kernel
theorem dX7_collision_28 : decode cX7_collision 28 = .ok (.iconst 3, 1) := by decide +kernel
theorem dX7_collision_29 : decode cX7_collision 29 = .ok (.invokevirtual 52, 3) := by decide +kernel
theorem dX7_collision_32 : decode cX7_collision 32 = .ok (.istore 6, 2) := by decide +kernel
theorem dX7_collision_34 : decode cX7_collision 34 = .ok (.iload 5, 2) := by decide +kernel
theorem dX7_collision_36 : decode cX7_collision 36 = .ok (.iload_n 3, 1) := by decide +kernel
theorem dX7_collision_37 : decode cX7_collision 37 = .ok (.if_icmp .eq 32, 3) := by decide +kernel
theorem dX7_collision_40 : decode cX7_collision 40 = .ok (.aload_n 0, 1) := by decide +kernel
theorem dX7_collision_41 : decode cX7_collision 41 = .ok (.getfield 20, 3) := by decide +kernel
theorem dX7_collision_44 : decode cX7_collision 44 = .ok (.iload 5, 2) := by decide +kernel
theorem dX7_collision_46 : decode cX7_collision 46 = .ok (.iconst 0, 1) := by decide +kernel
theorem dX7_collision_47 : decode cX7_collision 47 = .ok (.invokevirtual 52, 3) := by decide +kernel
theorem dX7_collision_50 : decode cX7_collision 50 = .ok (.iload_n 1, 1) := by decide +kernel
theorem dX7_collision_51 : decode cX7_collision 51 = .ok (.if_icmp .ne 18, 3) := by decide +kernel
theorem dX7_collision_54 : decode cX7_collision 54 = .ok (.iload 6, 2) := by decide +kernel
theorem dX7_collision_56 : decode cX7_collision 56 = .ok (.ifCond .eq 9, 3) := by decide +kernel
theorem dX7_collision_59 : decode cX7_collision 59 = .ok (.iload 6, 2) := by decide +kernel
theorem dX7_collision_61 : decode cX7_collision 61 = .ok (.iconst 1, 1) := by decide +kernel
theorem dX7_collision_62 : decode cX7_collision 62 = .ok (.if_icmp .ne 7, 3) := by decide +kernel
theorem dX7_collision_65 : decode cX7_collision 65 = .ok (.iconst 1, 1) := by decide +kernel
theorem dX7_collision_66 : decode cX7_collision 66 = .ok (.goto 4, 3) := by decide +kernel
theorem dX7_collision_69 : decode cX7_collision 69 = .ok (.iconst 0, 1) := by decide +kernel
theorem dX7_collision_70 : decode cX7_collision 70 = .ok (.istore 7, 2) := by decide +kernel
theorem dX7_collision_72 : decode cX7_collision 72 = .ok (.iload 7, 2) := by decide +kernel
theorem dX7_collision_74 : decode cX7_collision 74 = .ok (.ifCond .eq 26, 3) := by decide +kernel
theorem dX7_collision_77 : decode cX7_collision 77 = .ok (.aload_n 0, 1) := by decide +kernel
theorem dX7_collision_78 : decode cX7_collision 78 = .ok (.getfield 20, 3) := by decide +kernel
theorem dX7_collision_81 : decode cX7_collision 81 = .ok (.iload 5, 2) := by decide +kernel
theorem dX7_collision_83 : decode cX7_collision 83 = .ok (.iconst 1, 1) := by decide +kernel
theorem dX7_collision_84 : decode cX7_collision 84 = .ok (.invokevirtual 52, 3) := by decide +kernel
theorem dX7_collision_87 : decode cX7_collision 87 = .ok (.iload_n 2, 1) := by decide +kernel
theorem dX7_collision_88 : decode cX7_collision 88 = .ok (.isub, 1) := by decide +kernel
theorem dX7_collision_89 : decode cX7_collision 89 = .ok (.invokestatic 72, 3) := by decide +kernel
theorem dX7_collision_92 : decode cX7_collision 92 = .ok (.iload 4, 2) := by decide +kernel
theorem dX7_collision_94 : decode cX7_collision 94 = .ok (.if_icmp .ge 6, 3) := by decide +kernel
theorem dX7_collision_97 : decode cX7_collision 97 = .ok (.iload 5, 2) := by decide +kernel
theorem dX7_collision_99 : decode cX7_collision 99 = .ok (.ireturn, 1) := by decide +kernel
theorem dX7_collision_100 : decode cX7_collision 100 = .ok (.iinc 5 1, 3) := by decide +kernel
theorem dX7_collision_103 : decode cX7_collision 103 = .ok (.goto (-93), 3) := by decide +kernel
theorem dX7_collision_106 : decode cX7_collision 106 = .ok (.bipush (-9), 2) := by decide +kernel
theorem dX7_collision_108 : decode cX7_collision 108 = .ok (.ireturn, 1) := by decide +kernel
theorem dX7_isPossible_0 : decode cX7_isPossible 0 = .ok (.iload_n 2, 1) := by decide +kernel
theorem dX7_isPossible_1 : decode cX7_isPossible 1 = .ok (.aload_n 0, 1) := by decide +kernel
theorem dX7_isPossible_2 : decode cX7_isPossible 2 = .ok (.iload_n 1, 1) := by decide +kernel
theorem dX7_isPossible_3 : decode cX7_isPossible 3 = .ok (.invokevirtual 75, 3) := by decide +kernel
theorem dX7_isPossible_6 : decode cX7_isPossible 6 = .ok (.if_icmp .lt 19, 3) := by decide +kernel
theorem dX7_isPossible_9 : decode cX7_isPossible 9 = .ok (.aload_n 0, 1) := by decide +kernel
theorem dX7_isPossible_10 : decode cX7_isPossible 10 = .ok (.iload_n 1, 1) := by decide +kernel
theorem dX7_isPossible_11 : decode cX7_isPossible 11 = .ok (.iload_n 2, 1) := by decide +kernel
theorem dX7_isPossible_12 : decode cX7_isPossible 12 = .ok (.iload_n 3, 1) := by decide +kernel
theorem dX7_isPossible_13 : decode cX7_isPossible 13 = .ok (.invokevirtual 78, 3) := by decide +kernel
theorem dX7_isPossible_16 : decode cX7_isPossible 16 = .ok (.bipush (-9), 2) := by decide +kernel
theorem dX7_isPossible_18 : decode cX7_isPossible 18 = .ok (.if_icmp .ne 7, 3) := by decide +kernel
theorem dX7_isPossible_21 : decode cX7_isPossible 21 = .ok (.iconst 1, 1) := by decide +kernel
theorem dX7_isPossible_22 : decode cX7_isPossible 22 = .ok (.goto 4, 3) := by decide +kernel
theorem dX7_isPossible_25 : decode cX7_isPossible 25 = .ok (.iconst 0, 1) := by decide +kernel
theorem dX7_isPossible_26 : decode cX7_isPossible 26 = .ok (.ireturn, 1) := by decide +kernel
theorem dX7_nextBooked_0 : decode cX7_nextBooked 0 = .ok (.bipush (-9), 2) := by decide +kernel
theorem dX7_nextBooked_2 : decode cX7_nextBooked 2 = .ok (.istore_n 3, 1) := by decide +kernel
theorem dX7_nextBooked_3 : decode cX7_nextBooked 3 = .ok (.iconst 0, 1) := by decide +kernel
theorem dX7_nextBooked_4 : decode cX7_nextBooked 4 = .ok (.istore 4, 2) := by decide +kernel
theorem dX7_nextBooked_6 : decode cX7_nextBooked 6 = .ok (.iconst 0, 1) := by decide +kernel
theorem dX7_nextBooked_7 : decode cX7_nextBooked 7 = .ok (.istore 5, 2) := by decide +kernel
theorem dX7_nextBooked_9 : decode cX7_nextBooked 9 = .ok (.iload 5, 2) := by decide +kernel
theorem dX7_nextBooked_11 : decode cX7_nextBooked 11 = .ok (.aload_n 0, 1) := by decide +kernel
theorem dX7_nextBooked_12 : decode cX7_nextBooked 12 = .ok (.getfield 20, 3) := by decide +kernel
theorem dX7_nextBooked_15 : decode cX7_nextBooked 15 = .ok (.invokevirtual 60, 3) := by decide +kernel
theorem dX7_nextBooked_18 : decode cX7_nextBooked 18 = .ok (.if_icmp .ge 86, 3) := by decide +kernel
theorem dX7_nextBooked_21 : decode cX7_nextBooked 21 = .ok (.aload_n 0, 1) := by decide +kernel
theorem dX7_nextBooked_22 : decode cX7_nextBooked 22 = .ok (.getfield 20, 3) := by decide +kernel
theorem dX7_nextBooked_25 : decode cX7_nextBooked 25 = .ok (.iload 5, 2) := by decide +kernel
theorem dX7_nextBooked_27 : decode cX7_nextBooked 27 = .ok (.iconst 1, 1) := by decide +kernel
theorem dX7_nextBooked_28 : decode cX7_nextBooked 28 = .ok (.invokevirtual 52, 3) := by decide +kernel
theorem dX7_nextBooked_31 : decode cX7_nextBooked 31 = .ok (.istore 6, 2) := by decide +kernel
theorem dX7_nextBooked_33 : decode cX7_nextBooked 33 = .ok (.aload_n 0, 1) := by decide +kernel
theorem dX7_nextBooked_34 : decode cX7_nextBooked 34 = .ok (.getfield 20, 3) := by decide +kernel
theorem dX7_nextBooked_37 : decode cX7_nextBooked 37 = .ok (.iload 5, 2) := by decide +kernel
theorem dX7_nextBooked_39 : decode cX7_nextBooked 39 = .ok (.iconst 3, 1) := by decide +kernel
theorem dX7_nextBooked_40 : decode cX7_nextBooked 40 = .ok (.invokevirtual 52, 3) := by decide +kernel
theorem dX7_nextBooked_43 : decode cX7_nextBooked 43 = .ok (.ifCond .ne 27, 3) := by decide +kernel
theorem dX7_nextBooked_46 : decode cX7_nextBooked 46 = .ok (.aload_n 0, 1) := by decide +kernel
theorem dX7_nextBooked_47 : decode cX7_nextBooked 47 = .ok (.getfield 20, 3) := by decide +kernel
theorem dX7_nextBooked_50 : decode cX7_nextBooked 50 = .ok (.iload 5, 2) := by decide +kernel
theorem dX7_nextBooked_52 : decode cX7_nextBooked 52 = .ok (.iconst 0, 1) := by decide +kernel
theorem dX7_nextBooked_53 : decode cX7_nextBooked 53 = .ok (.invokevirtual 52, 3) := by decide +kernel
theorem dX7_nextBooked_56 : decode cX7_nextBooked 56 = .ok (.iload_n 1, 1) := by decide +kernel
theorem dX7_nextBooked_57 : decode cX7_nextBooked 57 = .ok (.if_icmp .ne 13, 3) := by decide +kernel
theorem dX7_nextBooked_60 : decode cX7_nextBooked 60 = .ok (.iload 6, 2) := by decide +kernel
theorem dX7_nextBooked_62 : decode cX7_nextBooked 62 = .ok (.iload_n 2, 1) := by decide +kernel
theorem dX7_nextBooked_63 : decode cX7_nextBooked 63 = .ok (.if_icmp .le 7, 3) := by decide +kernel
theorem dX7_nextBooked_66 : decode cX7_nextBooked 66 = .ok (.iconst 1, 1) := by decide +kernel
theorem dX7_nextBooked_67 : decode cX7_nextBooked 67 = .ok (.goto 4, 3) := by decide +kernel
theorem dX7_nextBooked_70 : decode cX7_nextBooked 70 = .ok (.iconst 0, 1) := by decide +kernel
theorem dX7_nextBooked_71 : decode cX7_nextBooked 71 = .ok (.istore 7, 2) := by decide +kernel
theorem dX7_nextBooked_73 : decode cX7_nextBooked 73 = .ok (.iload 7, 2) := by decide +kernel
theorem dX7_nextBooked_75 : decode cX7_nextBooked 75 = .ok (.ifCond .eq 23, 3) := by decide +kernel
theorem dX7_nextBooked_78 : decode cX7_nextBooked 78 = .ok (.iload_n 3, 1) := by decide +kernel
theorem dX7_nextBooked_79 : decode cX7_nextBooked 79 = .ok (.bipush (-9), 2) := by decide +kernel
theorem dX7_nextBooked_81 : decode cX7_nextBooked 81 = .ok (.if_icmp .eq 10, 3) := by decide +kernel
theorem dX7_nextBooked_84 : decode cX7_nextBooked 84 = .ok (.iload 6, 2) := by decide +kernel
theorem dX7_nextBooked_86 : decode cX7_nextBooked 86 = .ok (.iload 4, 2) := by decide +kernel
theorem dX7_nextBooked_88 : decode cX7_nextBooked 88 = .ok (.if_icmp .ge 10, 3) := by decide +kernel
theorem dX7_nextBooked_91 : decode cX7_nextBooked 91 = .ok (.iload 5, 2) := by decide +kernel
theorem dX7_nextBooked_93 : decode cX7_nextBooked 93 = .ok (.istore_n 3, 1) := by decide +kernel
theorem dX7_nextBooked_94 : decode cX7_nextBooked 94 = .ok (.iload 6, 2) := by decide +kernel
theorem dX7_nextBooked_96 : decode cX7_nextBooked 96 = .ok (.istore 4, 2) := by decide +kernel
theorem dX7_nextBooked_98 : decode cX7_nextBooked 98 = .ok (.iinc 5 1, 3) := by decide +kernel
theorem dX7_nextBooked_101 : decode cX7_nextBooked 101 = .ok (.goto (-92), 3) := by decide +kernel
theorem dX7_nextBooked_104 : decode cX7_nextBooked 104 = .ok (.iload_n 3, 1) := by decide +kernel
theorem dX7_nextBooked_105 : decode cX7_nextBooked 105 = .ok (.ireturn, 1) := by decide +kernel
theorem dX7_forecastStart_0 : decode cX7_forecastStart 0 = .ok (.aload_n 0, 1) := by decide +kernel
theorem dX7_forecastStart_1 : decode cX7_forecastStart 1 = .ok (.getfield 20, 3) := by decide +kernel
theorem dX7_forecastStart_4 : decode cX7_forecastStart 4 = .ok (.iload_n 1, 1) := by decide +kernel
theorem dX7_forecastStart_5 : decode cX7_forecastStart 5 = .ok (.iconst 0, 1) := by decide +kernel
theorem dX7_forecastStart_6 : decode cX7_forecastStart 6 = .ok (.invokevirtual 52, 3) := by decide +kernel
theorem dX7_forecastStart_9 : decode cX7_forecastStart 9 = .ok (.istore_n 2, 1) := by decide +kernel
theorem dX7_forecastStart_10 : decode cX7_forecastStart 10 = .ok (.aload_n 0, 1) := by decide +kernel
theorem dX7_forecastStart_11 : decode cX7_forecastStart 11 = .ok (.getfield 14, 3) := by decide +kernel
theorem dX7_forecastStart_14 : decode cX7_forecastStart 14 = .ok (.iload_n 2, 1) := by decide +kernel
theorem dX7_forecastStart_15 : decode cX7_forecastStart 15 = .ok (.iconst 4, 1) := by decide +kernel
theorem dX7_forecastStart_16 : decode cX7_forecastStart 16 = .ok (.invokevirtual 52, 3) := by decide +kernel
theorem dX7_forecastStart_19 : decode cX7_forecastStart 19 = .ok (.istore_n 3, 1) := by decide +kernel
theorem dX7_forecastStart_20 : decode cX7_forecastStart 20 = .ok (.aload_n 0, 1) := by decide +kernel
theorem dX7_forecastStart_21 : decode cX7_forecastStart 21 = .ok (.iload_n 2, 1) := by decide +kernel
theorem dX7_forecastStart_22 : decode cX7_forecastStart 22 = .ok (.iconst (-1), 1) := by decide +kernel
theorem dX7_forecastStart_23 : decode cX7_forecastStart 23 = .ok (.invokevirtual 82, 3) := by decide +kernel
theorem dX7_forecastStart_26 : decode cX7_forecastStart 26 = .ok (.istore 4, 2) := by decide +kernel
theorem dX7_forecastStart_28 : decode cX7_forecastStart 28 = .ok (.iconst 0, 1) := by decide +kernel
theorem dX7_forecastStart_29 : decode cX7_forecastStart 29 = .ok (.istore 5, 2) := by decide +kernel
theorem dX7_forecastStart_31 : decode cX7_forecastStart 31 = .ok (.iload 5, 2) := by decide +kernel
theorem dX7_forecastStart_33 : decode cX7_forecastStart 33 = .ok (.bipush 16, 2) := by decide +kernel
theorem dX7_forecastStart_35 : decode cX7_forecastStart 35 = .ok (.if_icmp .ge 56, 3) := by decide +kernel
theorem dX7_forecastStart_38 : decode cX7_forecastStart 38 = .ok (.iload 4, 2) := by decide +kernel
theorem dX7_forecastStart_40 : decode cX7_forecastStart 40 = .ok (.bipush (-9), 2) := by decide +kernel
theorem dX7_forecastStart_42 : decode cX7_forecastStart 42 = .ok (.if_icmp .eq 49, 3) := by decide +kernel
theorem dX7_forecastStart_45 : decode cX7_forecastStart 45 = .ok (.iload 4, 2) := by decide +kernel
theorem dX7_forecastStart_47 : decode cX7_forecastStart 47 = .ok (.iload_n 1, 1) := by decide +kernel
theorem dX7_forecastStart_48 : decode cX7_forecastStart 48 = .ok (.if_icmp .eq 43, 3) := by decide +kernel
theorem dX7_forecastStart_51 : decode cX7_forecastStart 51 = .ok (.aload_n 0, 1) := by decide +kernel
theorem dX7_forecastStart_52 : decode cX7_forecastStart 52 = .ok (.getfield 20, 3) := by decide +kernel
theorem dX7_forecastStart_55 : decode cX7_forecastStart 55 = .ok (.iload 4, 2) := by decide +kernel
theorem dX7_forecastStart_57 : decode cX7_forecastStart 57 = .ok (.iconst 1, 1) := by decide +kernel
theorem dX7_forecastStart_58 : decode cX7_forecastStart 58 = .ok (.invokevirtual 52, 3) := by decide +kernel
theorem dX7_forecastStart_61 : decode cX7_forecastStart 61 = .ok (.istore 6, 2) := by decide +kernel
theorem dX7_forecastStart_63 : decode cX7_forecastStart 63 = .ok (.iload 6, 2) := by decide +kernel
theorem dX7_forecastStart_65 : decode cX7_forecastStart 65 = .ok (.iload_n 3, 1) := by decide +kernel
theorem dX7_forecastStart_66 : decode cX7_forecastStart 66 = .ok (.invokestatic 63, 3) := by decide +kernel
theorem dX7_forecastStart_69 : decode cX7_forecastStart 69 = .ok (.aload_n 0, 1) := by decide +kernel
theorem dX7_forecastStart_70 : decode cX7_forecastStart 70 = .ok (.iload_n 2, 1) := by decide +kernel
theorem dX7_forecastStart_71 : decode cX7_forecastStart 71 = .ok (.invokevirtual 68, 3) := by decide +kernel
theorem dX7_forecastStart_74 : decode cX7_forecastStart 74 = .ok (.iadd, 1) := by decide +kernel
theorem dX7_forecastStart_75 : decode cX7_forecastStart 75 = .ok (.istore_n 3, 1) := by decide +kernel
theorem dX7_forecastStart_76 : decode cX7_forecastStart 76 = .ok (.aload_n 0, 1) := by decide +kernel
theorem dX7_forecastStart_77 : decode cX7_forecastStart 77 = .ok (.iload_n 2, 1) := by decide +kernel
theorem dX7_forecastStart_78 : decode cX7_forecastStart 78 = .ok (.iload 6, 2) := by decide +kernel
theorem dX7_forecastStart_80 : decode cX7_forecastStart 80 = .ok (.invokevirtual 82, 3) := by decide +kernel
theorem dX7_forecastStart_83 : decode cX7_forecastStart 83 = .ok (.istore 4, 2) := by decide +kernel
theorem dX7_forecastStart_85 : decode cX7_forecastStart 85 = .ok (.iinc 5 1, 3) := by decide +kernel
theorem dX7_forecastStart_88 : decode cX7_forecastStart 88 = .ok (.goto (-57), 3) := by decide +kernel
theorem dX7_forecastStart_91 : decode cX7_forecastStart 91 = .ok (.aload_n 0, 1) := by decide +kernel
theorem dX7_forecastStart_92 : decode cX7_forecastStart 92 = .ok (.getfield 20, 3) := by decide +kernel
theorem dX7_forecastStart_95 : decode cX7_forecastStart 95 = .ok (.iload_n 1, 1) := by decide +kernel
theorem dX7_forecastStart_96 : decode cX7_forecastStart 96 = .ok (.iconst 1, 1) := by decide +kernel
theorem dX7_forecastStart_97 : decode cX7_forecastStart 97 = .ok (.invokevirtual 52, 3) := by decide +kernel
theorem dX7_forecastStart_100 : decode cX7_forecastStart 100 = .ok (.iload_n 3, 1) := by decide +kernel
theorem dX7_forecastStart_101 : decode cX7_forecastStart 101 = .ok (.invokestatic 63, 3) := by decide +kernel
theorem dX7_forecastStart_104 : decode cX7_forecastStart 104 = .ok (.ireturn, 1) := by decide +kernel
theorem dX7_refundForDelay_0 : decode cX7_refundForDelay 0 = .ok (.iload_n 2, 1) := by decide +kernel
theorem dX7_refundForDelay_1 : decode cX7_refundForDelay 1 = .ok (.aload_n 0, 1) := by decide +kernel
theorem dX7_refundForDelay_2 : decode cX7_refundForDelay 2 = .ok (.iconst 3, 1) := by decide +kernel
theorem dX7_refundForDelay_3 : decode cX7_refundForDelay 3 = .ok (.invokevirtual 85, 3) := by decide +kernel
theorem dX7_refundForDelay_6 : decode cX7_refundForDelay 6 = .ok (.isub, 1) := by decide +kernel
theorem dX7_refundForDelay_7 : decode cX7_refundForDelay 7 = .ok (.istore_n 3, 1) := by decide +kernel
theorem dX7_refundForDelay_8 : decode cX7_refundForDelay 8 = .ok (.iload_n 3, 1) := by decide +kernel
theorem dX7_refundForDelay_9 : decode cX7_refundForDelay 9 = .ok (.ifCond .gt 5, 3) := by decide +kernel
theorem dX7_refundForDelay_12 : decode cX7_refundForDelay 12 = .ok (.iconst 0, 1) := by decide +kernel
theorem dX7_refundForDelay_13 : decode cX7_refundForDelay 13 = .ok (.ireturn, 1) := by decide +kernel
theorem dX7_refundForDelay_14 : decode cX7_refundForDelay 14 = .ok (.bipush 100, 2) := by decide +kernel
theorem dX7_refundForDelay_16 : decode cX7_refundForDelay 16 = .ok (.iload_n 3, 1) := by decide +kernel
theorem dX7_refundForDelay_17 : decode cX7_refundForDelay 17 = .ok (.bipush 9, 2) := by decide +kernel
theorem dX7_refundForDelay_19 : decode cX7_refundForDelay 19 = .ok (.iadd, 1) := by decide +kernel
theorem dX7_refundForDelay_20 : decode cX7_refundForDelay 20 = .ok (.bipush 10, 2) := by decide +kernel
theorem dX7_refundForDelay_22 : decode cX7_refundForDelay 22 = .ok (.idiv, 1) := by decide +kernel
theorem dX7_refundForDelay_23 : decode cX7_refundForDelay 23 = .ok (.aload_n 0, 1) := by decide +kernel
theorem dX7_refundForDelay_24 : decode cX7_refundForDelay 24 = .ok (.iconst 4, 1) := by decide +kernel
theorem dX7_refundForDelay_25 : decode cX7_refundForDelay 25 = .ok (.invokevirtual 85, 3) := by decide +kernel
theorem dX7_refundForDelay_28 : decode cX7_refundForDelay 28 = .ok (.imul, 1) := by decide +kernel
theorem dX7_refundForDelay_29 : decode cX7_refundForDelay 29 = .ok (.invokestatic 88, 3) := by decide +kernel
theorem dX7_refundForDelay_32 : decode cX7_refundForDelay 32 = .ok (.istore 4, 2) := by decide +kernel
theorem dX7_refundForDelay_34 : decode cX7_refundForDelay 34 = .ok (.aload_n 0, 1) := by decide +kernel
theorem dX7_refundForDelay_35 : decode cX7_refundForDelay 35 = .ok (.getfield 20, 3) := by decide +kernel
theorem dX7_refundForDelay_38 : decode cX7_refundForDelay 38 = .ok (.iload_n 1, 1) := by decide +kernel
theorem dX7_refundForDelay_39 : decode cX7_refundForDelay 39 = .ok (.iconst 4, 1) := by decide +kernel
theorem dX7_refundForDelay_40 : decode cX7_refundForDelay 40 = .ok (.invokevirtual 52, 3) := by decide +kernel
theorem dX7_refundForDelay_43 : decode cX7_refundForDelay 43 = .ok (.iload 4, 2) := by decide +kernel
theorem dX7_refundForDelay_45 : decode cX7_refundForDelay 45 = .ok (.imul, 1) := by decide +kernel
theorem dX7_refundForDelay_46 : decode cX7_refundForDelay 46 = .ok (.bipush 100, 2) := by decide +kernel
theorem dX7_refundForDelay_48 : decode cX7_refundForDelay 48 = .ok (.idiv, 1) := by decide +kernel
theorem dX7_refundForDelay_49 : decode cX7_refundForDelay 49 = .ok (.ireturn, 1) := by decide +kernel
theorem dX7_paidByVouchers_0 : decode cX7_paidByVouchers 0 = .ok (.iconst 0, 1) := by decide +kernel
theorem dX7_paidByVouchers_1 : decode cX7_paidByVouchers 1 = .ok (.istore_n 2, 1) := by decide +kernel
theorem dX7_paidByVouchers_2 : decode cX7_paidByVouchers 2 = .ok (.iconst 0, 1) := by decide +kernel
theorem dX7_paidByVouchers_3 : decode cX7_paidByVouchers 3 = .ok (.istore_n 3, 1) := by decide +kernel
theorem dX7_paidByVouchers_4 : decode cX7_paidByVouchers 4 = .ok (.iload_n 3, 1) := by decide +kernel
theorem dX7_paidByVouchers_5 : decode cX7_paidByVouchers 5 = .ok (.aload_n 0, 1) := by decide +kernel
theorem dX7_paidByVouchers_6 : decode cX7_paidByVouchers 6 = .ok (.getfield 26, 3) := by decide +kernel
theorem dX7_paidByVouchers_9 : decode cX7_paidByVouchers 9 = .ok (.invokevirtual 60, 3) := by decide +kernel
theorem dX7_paidByVouchers_12 : decode cX7_paidByVouchers 12 = .ok (.if_icmp .ge 34, 3) := by decide +kernel
theorem dX7_paidByVouchers_15 : decode cX7_paidByVouchers 15 = .ok (.aload_n 0, 1) := by decide +kernel
theorem dX7_paidByVouchers_16 : decode cX7_paidByVouchers 16 = .ok (.getfield 26, 3) := by decide +kernel
theorem dX7_paidByVouchers_19 : decode cX7_paidByVouchers 19 = .ok (.iload_n 3, 1) := by decide +kernel
theorem dX7_paidByVouchers_20 : decode cX7_paidByVouchers 20 = .ok (.iconst 0, 1) := by decide +kernel
theorem dX7_paidByVouchers_21 : decode cX7_paidByVouchers 21 = .ok (.invokevirtual 52, 3) := by decide +kernel
theorem dX7_paidByVouchers_24 : decode cX7_paidByVouchers 24 = .ok (.iload_n 1, 1) := by decide +kernel
theorem dX7_paidByVouchers_25 : decode cX7_paidByVouchers 25 = .ok (.if_icmp .ne 15, 3) := by decide +kernel
theorem dX7_paidByVouchers_28 : decode cX7_paidByVouchers 28 = .ok (.iload_n 2, 1) := by decide +kernel
