theorem dX0_init_0 : decode cX0_init 0 = .ok (.aload_n 0, 1) := by decide +kernel
theorem dX0_init_1 : decode cX0_init 1 = .ok (.invokespecial 3, 3) := by decide +kernel
theorem dX0_init_4 : decode cX0_init 4 = .ok (.aload_n 0, 1) := by decide +kernel
theorem dX0_init_5 : decode cX0_init 5 = .ok (.aload_n 1, 1) := by decide +kernel
theorem dX0_init_6 : decode cX0_init 6 = .ok (.putfield 9, 3) := by decide +kernel
theorem dX0_init_9 : decode cX0_init 9 = .ok (.aload_n 0, 1) := by decide +kernel
theorem dX0_init_10 : decode cX0_init 10 = .ok (.aload_n 1, 1) := by decide +kernel
theorem dX0_init_11 : decode cX0_init 11 = .ok (.getfield 15, 3) := by decide +kernel
theorem dX0_init_14 : decode cX0_init 14 = .ok (.putfield 21, 3) := by decide +kernel
theorem dX0_init_17 : decode cX0_init 17 = .ok (.aload_n 0, 1) := by decide +kernel
theorem dX0_init_18 : decode cX0_init 18 = .ok (.aload_n 1, 1) := by decide +kernel
theorem dX0_init_19 : decode cX0_init 19 = .ok (.getfield 22, 3) := by decide +kernel
theorem dX0_init_22 : decode cX0_init 22 = .ok (.putfield 25, 3) := by decide +kernel
theorem dX0_init_25 : decode cX0_init 25 = .ok (.aload_n 0, 1) := by decide +kernel
theorem dX0_init_26 : decode cX0_init 26 = .ok (.aload_n 1, 1) := by decide +kernel
theorem dX0_init_27 : decode cX0_init 27 = .ok (.getfield 26, 3) := by decide +kernel
theorem dX0_init_30 : decode cX0_init 30 = .ok (.putfield 29, 3) := by decide +kernel
theorem dX0_init_33 : decode cX0_init 33 = .ok (.aload_n 0, 1) := by decide +kernel
theorem dX0_init_34 : decode cX0_init 34 = .ok (.aload_n 1, 1) := by decide +kernel
theorem dX0_init_35 : decode cX0_init 35 = .ok (.getfield 30, 3) := by decide +kernel
theorem dX0_init_38 : decode cX0_init 38 = .ok (.putfield 33, 3) := by decide +kernel
theorem dX0_init_41 : decode cX0_init 41 = .ok (.return_, 1) := by decide +kernel
theorem dX0_newRoom_0 : decode cX0_newRoom 0 = .ok (.iload_n 1, 1) := by decide +kernel
theorem dX0_newRoom_1 : decode cX0_newRoom 1 = .ok (.bipush 20, 2) := by decide +kernel
theorem dX0_newRoom_3 : decode cX0_newRoom 3 = .ok (.bipush 120, 2) := by decide +kernel
theorem dX0_newRoom_5 : decode cX0_newRoom 5 = .ok (.invokestatic 34, 3) := by decide +kernel
theorem dX0_newRoom_8 : decode cX0_newRoom 8 = .ok (.ifCond .eq 35, 3) := by decide +kernel
theorem dX0_newRoom_11 : decode cX0_newRoom 11 = .ok (.iload_n 2, 1) := by decide +kernel
theorem dX0_newRoom_12 : decode cX0_newRoom 12 = .ok (.iconst 0, 1) := by decide +kernel
theorem dX0_newRoom_13 : decode cX0_newRoom 13 = .ok (.bipush 60, 2) := by decide +kernel
theorem dX0_newRoom_15 : decode cX0_newRoom 15 = .ok (.invokestatic 34, 3) := by decide +kernel
theorem dX0_newRoom_18 : decode cX0_newRoom 18 = .ok (.ifCond .eq 25, 3) := by decide +kernel
theorem dX0_newRoom_21 : decode cX0_newRoom 21 = .ok (.iload_n 3, 1) := by decide +kernel
theorem dX0_newRoom_22 : decode cX0_newRoom 22 = .ok (.iconst 1, 1) := by decide +kernel
theorem dX0_newRoom_23 : decode cX0_newRoom 23 = .ok (.sipush 200, 3) := by decide +kernel
theorem dX0_newRoom_26 : decode cX0_newRoom 26 = .ok (.invokestatic 34, 3) := by decide +kernel
theorem dX0_newRoom_29 : decode cX0_newRoom 29 = .ok (.ifCond .eq 14, 3) := by decide +kernel
theorem dX0_newRoom_32 : decode cX0_newRoom 32 = .ok (.iload 4, 2) := by decide +kernel
theorem dX0_newRoom_34 : decode cX0_newRoom 34 = .ok (.iconst 2, 1) := by decide +kernel
theorem dX0_newRoom_35 : decode cX0_newRoom 35 = .ok (.bipush 8, 2) := by decide +kernel
theorem dX0_newRoom_37 : decode cX0_newRoom 37 = .ok (.invokestatic 34, 3) := by decide +kernel
theorem dX0_newRoom_40 : decode cX0_newRoom 40 = .ok (.ifCond .ne 5, 3) := by decide +kernel
theorem dX0_newRoom_43 : decode cX0_newRoom 43 = .ok (.iconst (-1), 1) := by decide +kernel
theorem dX0_newRoom_44 : decode cX0_newRoom 44 = .ok (.ireturn, 1) := by decide +kernel
theorem dX0_newRoom_45 : decode cX0_newRoom 45 = .ok (.aload_n 0, 1) := by decide +kernel
theorem dX0_newRoom_46 : decode cX0_newRoom 46 = .ok (.getfield 21, 3) := by decide +kernel
theorem dX0_newRoom_49 : decode cX0_newRoom 49 = .ok (.invokevirtual 38, 3) := by decide +kernel
theorem dX0_newRoom_52 : decode cX0_newRoom 52 = .ok (.ifCond .eq 6, 3) := by decide +kernel
theorem dX0_newRoom_55 : decode cX0_newRoom 55 = .ok (.bipush (-3), 2) := by decide +kernel
theorem dX0_newRoom_57 : decode cX0_newRoom 57 = .ok (.ireturn, 1) := by decide +kernel
theorem dX0_newRoom_58 : decode cX0_newRoom 58 = .ok (.aload_n 0, 1) := by decide +kernel
theorem dX0_newRoom_59 : decode cX0_newRoom 59 = .ok (.getfield 21, 3) := by decide +kernel
theorem dX0_newRoom_62 : decode cX0_newRoom 62 = .ok (.invokevirtual 44, 3) := by decide +kernel
theorem dX0_newRoom_65 : decode cX0_newRoom 65 = .ok (.istore 5, 2) := by decide +kernel
theorem dX0_newRoom_67 : decode cX0_newRoom 67 = .ok (.aload_n 0, 1) := by decide +kernel
theorem dX0_newRoom_68 : decode cX0_newRoom 68 = .ok (.getfield 21, 3) := by decide +kernel
theorem dX0_newRoom_71 : decode cX0_newRoom 71 = .ok (.iload 5, 2) := by decide +kernel
theorem dX0_newRoom_73 : decode cX0_newRoom 73 = .ok (.iconst 0, 1) := by decide +kernel
theorem dX0_newRoom_74 : decode cX0_newRoom 74 = .ok (.iload_n 1, 1) := by decide +kernel
theorem dX0_newRoom_75 : decode cX0_newRoom 75 = .ok (.invokevirtual 48, 3) := by decide +kernel
theorem dX0_newRoom_78 : decode cX0_newRoom 78 = .ok (.aload_n 0, 1) := by decide +kernel
theorem dX0_newRoom_79 : decode cX0_newRoom 79 = .ok (.getfield 21, 3) := by decide +kernel
theorem dX0_newRoom_82 : decode cX0_newRoom 82 = .ok (.iload 5, 2) := by decide +kernel
theorem dX0_newRoom_84 : decode cX0_newRoom 84 = .ok (.iconst 1, 1) := by decide +kernel
theorem dX0_newRoom_85 : decode cX0_newRoom 85 = .ok (.iload_n 2, 1) := by decide +kernel
theorem dX0_newRoom_86 : decode cX0_newRoom 86 = .ok (.invokevirtual 48, 3) := by decide +kernel
theorem dX0_newRoom_89 : decode cX0_newRoom 89 = .ok (.aload_n 0, 1) := by decide +kernel
theorem dX0_newRoom_90 : decode cX0_newRoom 90 = .ok (.getfield 21, 3) := by decide +kernel
theorem dX0_newRoom_93 : decode cX0_newRoom 93 = .ok (.iload 5, 2) := by decide +kernel
theorem dX0_newRoom_95 : decode cX0_newRoom 95 = .ok (.iconst 2, 1) := by decide +kernel
theorem dX0_newRoom_96 : decode cX0_newRoom 96 = .ok (.iload_n 3, 1) := by decide +kernel
theorem dX0_newRoom_97 : decode cX0_newRoom 97 = .ok (.invokevirtual 48, 3) := by decide +kernel
theorem dX0_newRoom_100 : decode cX0_newRoom 100 = .ok (.aload_n 0, 1) := by decide +kernel
theorem dX0_newRoom_101 : decode cX0_newRoom 101 = .ok (.getfield 21, 3) := by decide +kernel
theorem dX0_newRoom_104 : decode cX0_newRoom 104 = .ok (.iload 5, 2) := by decide +kernel
theorem dX0_newRoom_106 : decode cX0_newRoom 106 = .ok (.iconst 3, 1) := by decide +kernel
theorem dX0_newRoom_107 : decode cX0_newRoom 107 = .ok (.iload 4, 2) := by decide +kernel
theorem dX0_newRoom_109 : decode cX0_newRoom 109 = .ok (.invokevirtual 48, 3) := by decide +kernel
theorem dX0_newRoom_112 : decode cX0_newRoom 112 = .ok (.iload 5, 2) := by decide +kernel
theorem dX0_newRoom_114 : decode cX0_newRoom 114 = .ok (.ireturn, 1) := by decide +kernel
theorem dX0_changePrice_0 : decode cX0_changePrice 0 = .ok (.aload_n 0, 1) := by decide +kernel
theorem dX0_changePrice_1 : decode cX0_changePrice 1 = .ok (.getfield 21, 3) := by decide +kernel
theorem dX0_changePrice_4 : decode cX0_changePrice 4 = .ok (.iload_n 1, 1) := by decide +kernel
theorem dX0_changePrice_5 : decode cX0_changePrice 5 = .ok (.invokevirtual 52, 3) := by decide +kernel
theorem dX0_changePrice_8 : decode cX0_changePrice 8 = .ok (.ifCond .eq 14, 3) := by decide +kernel
theorem dX0_changePrice_11 : decode cX0_changePrice 11 = .ok (.iload_n 2, 1) := by decide +kernel
theorem dX0_changePrice_12 : decode cX0_changePrice 12 = .ok (.iconst 1, 1) := by decide +kernel
theorem dX0_changePrice_13 : decode cX0_changePrice 13 = .ok (.sipush 200, 3) := by decide +kernel
theorem dX0_changePrice_16 : decode cX0_changePrice 16 = .ok (.invokestatic 34, 3) := by decide +kernel
theorem dX0_changePrice_19 : decode cX0_changePrice 19 = .ok (.ifCond .ne 5, 3) := by decide +kernel
theorem dX0_changePrice_22 : decode cX0_changePrice 22 = .ok (.iconst (-1), 1) := by decide +kernel
theorem dX0_changePrice_23 : decode cX0_changePrice 23 = .ok (.ireturn, 1) := by decide +kernel
theorem dX0_changePrice_24 : decode cX0_changePrice 24 = .ok (.aload_n 0, 1) := by decide +kernel
theorem dX0_changePrice_25 : decode cX0_changePrice 25 = .ok (.getfield 21, 3) := by decide +kernel
theorem dX0_changePrice_28 : decode cX0_changePrice 28 = .ok (.iload_n 1, 1) := by decide +kernel
theorem dX0_changePrice_29 : decode cX0_changePrice 29 = .ok (.iconst 2, 1) := by decide +kernel
theorem dX0_changePrice_30 : decode cX0_changePrice 30 = .ok (.invokevirtual 56, 3) := by decide +kernel
theorem dX0_changePrice_33 : decode cX0_changePrice 33 = .ok (.istore_n 3, 1) := by decide +kernel
theorem dX0_changePrice_34 : decode cX0_changePrice 34 = .ok (.aload_n 0, 1) := by decide +kernel
theorem dX0_changePrice_35 : decode cX0_changePrice 35 = .ok (.getfield 21, 3) := by decide +kernel
theorem dX0_changePrice_38 : decode cX0_changePrice 38 = .ok (.iload_n 1, 1) := by decide +kernel
theorem dX0_changePrice_39 : decode cX0_changePrice 39 = .ok (.iconst 2, 1) := by decide +kernel
theorem dX0_changePrice_40 : decode cX0_changePrice 40 = .ok (.iload_n 2, 1) := by decide +kernel
theorem dX0_changePrice_41 : decode cX0_changePrice 41 = .ok (.invokevirtual 48, 3) := by decide +kernel
theorem dX0_changePrice_44 : decode cX0_changePrice 44 = .ok (.iload_n 3, 1) := by decide +kernel
theorem dX0_changePrice_45 : decode cX0_changePrice 45 = .ok (.ireturn, 1) := by decide +kernel
theorem dX0_changeSetting_0 : decode cX0_changeSetting 0 = .ok (.iload_n 1, 1) := by decide +kernel
theorem dX0_changeSetting_1 : decode cX0_changeSetting 1 = .ok (.ifCond .lt 24, 3) := by decide +kernel
theorem dX0_changeSetting_4 : decode cX0_changeSetting 4 = .ok (.iload_n 1, 1) := by decide +kernel
theorem dX0_changeSetting_5 : decode cX0_changeSetting 5 = .ok (.getstatic 60, 3) := by decide +kernel
theorem dX0_changeSetting_8 : decode cX0_changeSetting 8 = .ok (.arraylength, 1) := by decide +kernel
theorem dX0_changeSetting_9 : decode cX0_changeSetting 9 = .ok (.if_icmp .ge 16, 3) := by decide +kernel
theorem dX0_changeSetting_12 : decode cX0_changeSetting 12 = .ok (.iload_n 2, 1) := by decide +kernel
theorem dX0_changeSetting_13 : decode cX0_changeSetting 13 = .ok (.iconst 0, 1) := by decide +kernel
theorem dX0_changeSetting_14 : decode cX0_changeSetting 14 = .ok (.getstatic 60, 3) := by decide +kernel
theorem dX0_changeSetting_17 : decode cX0_changeSetting 17 = .ok (.iload_n 1, 1) := by decide +kernel
theorem dX0_changeSetting_18 : decode cX0_changeSetting 18 = .ok (.iaload, 1) := by decide +kernel
theorem dX0_changeSetting_19 : decode cX0_changeSetting 19 = .ok (.invokestatic 34, 3) := by decide +kernel
theorem dX0_changeSetting_22 : decode cX0_changeSetting 22 = .ok (.ifCond .ne 5, 3) := by decide +kernel
theorem dX0_changeSetting_25 : decode cX0_changeSetting 25 = .ok (.iconst (-1), 1) := by decide +kernel
theorem dX0_changeSetting_26 : decode cX0_changeSetting 26 = .ok (.ireturn, 1) := by decide +kernel
theorem dX0_changeSetting_27 : decode cX0_changeSetting 27 = .ok (.aload_n 0, 1) := by decide +kernel
theorem dX0_changeSetting_28 : decode cX0_changeSetting 28 = .ok (.getfield 9, 3) := by decide +kernel
theorem dX0_changeSetting_31 : decode cX0_changeSetting 31 = .ok (.iload_n 1, 1) := by decide +kernel
theorem dX0_changeSetting_32 : decode cX0_changeSetting 32 = .ok (.invokevirtual 64, 3) := by decide +kernel
theorem dX0_changeSetting_35 : decode cX0_changeSetting 35 = .ok (.istore_n 3, 1) := by decide +kernel
theorem dX0_changeSetting_36 : decode cX0_changeSetting 36 = .ok (.aload_n 0, 1) := by decide +kernel
theorem dX0_changeSetting_37 : decode cX0_changeSetting 37 = .ok (.getfield 9, 3) := by decide +kernel
theorem dX0_changeSetting_40 : decode cX0_changeSetting 40 = .ok (.getfield 68, 3) := by decide +kernel
theorem dX0_changeSetting_43 : decode cX0_changeSetting 43 = .ok (.iload_n 1, 1) := by decide +kernel
theorem dX0_changeSetting_44 : decode cX0_changeSetting 44 = .ok (.iconst 0, 1) := by decide +kernel
theorem dX0_changeSetting_45 : decode cX0_changeSetting 45 = .ok (.iload_n 2, 1) := by decide +kernel
theorem dX0_changeSetting_46 : decode cX0_changeSetting 46 = .ok (.invokevirtual 48, 3) := by decide +kernel
theorem dX0_changeSetting_49 : decode cX0_changeSetting 49 = .ok (.iload_n 3, 1) := by decide +kernel
theorem dX0_changeSetting_50 : decode cX0_changeSetting 50 = .ok (.ireturn, 1) := by decide +kernel
theorem dX0_newVoucher_0 : decode cX0_newVoucher 0 = .ok (.iload_n 1, 1) := by decide +kernel
theorem dX0_newVoucher_1 : decode cX0_newVoucher 1 = .ok (.iconst 1, 1) := by decide +kernel
theorem dX0_newVoucher_2 : decode cX0_newVoucher 2 = .ok (.sipush 500, 3) := by decide +kernel
theorem dX0_newVoucher_5 : decode cX0_newVoucher 5 = .ok (.invokestatic 34, 3) := by decide +kernel
theorem dX0_newVoucher_8 : decode cX0_newVoucher 8 = .ok (.ifCond .ne 5, 3) := by decide +kernel
theorem dX0_newVoucher_11 : decode cX0_newVoucher 11 = .ok (.iconst (-1), 1) := by decide +kernel
theorem dX0_newVoucher_12 : decode cX0_newVoucher 12 = .ok (.ireturn, 1) := by decide +kernel
theorem dX0_newVoucher_13 : decode cX0_newVoucher 13 = .ok (.aload_n 0, 1) := by decide +kernel
theorem dX0_newVoucher_14 : decode cX0_newVoucher 14 = .ok (.getfield 29, 3) := by decide +kernel
theorem dX0_newVoucher_17 : decode cX0_newVoucher 17 = .ok (.invokevirtual 38, 3) := by decide +kernel
theorem dX0_newVoucher_20 : decode cX0_newVoucher 20 = .ok (.ifCond .eq 6, 3) := by decide +kernel
theorem dX0_newVoucher_23 : decode cX0_newVoucher 23 = .ok (.bipush (-3), 2) := by decide +kernel
theorem dX0_newVoucher_25 : decode cX0_newVoucher 25 = .ok (.ireturn, 1) := by decide +kernel
theorem dX0_newVoucher_26 : decode cX0_newVoucher 26 = .ok (.aload_n 0, 1) := by decide +kernel
theorem dX0_newVoucher_27 : decode cX0_newVoucher 27 = .ok (.getfield 29, 3) := by decide +kernel
theorem dX0_newVoucher_30 : decode cX0_newVoucher 30 = .ok (.invokevirtual 44, 3) := by decide +kernel
theorem dX0_newVoucher_33 : decode cX0_newVoucher 33 = .ok (.istore_n 2, 1) := by decide +kernel
theorem dX0_newVoucher_34 : decode cX0_newVoucher 34 = .ok (.aload_n 0, 1) := by decide +kernel
theorem dX0_newVoucher_35 : decode cX0_newVoucher 35 = .ok (.getfield 29, 3) := by decide +kernel
theorem dX0_newVoucher_38 : decode cX0_newVoucher 38 = .ok (.iload_n 2, 1) := by decide +kernel
theorem dX0_newVoucher_39 : decode cX0_newVoucher 39 = .ok (.iconst 0, 1) := by decide +kernel
theorem dX0_newVoucher_40 : decode cX0_newVoucher 40 = .ok (.iload_n 1, 1) := by decide +kernel
theorem dX0_newVoucher_41 : decode cX0_newVoucher 41 = .ok (.invokevirtual 48, 3) := by decide +kernel
theorem dX0_newVoucher_44 : decode cX0_newVoucher 44 = .ok (.aload_n 0, 1) := by decide +kernel
theorem dX0_newVoucher_45 : decode cX0_newVoucher 45 = .ok (.getfield 29, 3) := by decide +kernel
theorem dX0_newVoucher_48 : decode cX0_newVoucher 48 = .ok (.iload_n 2, 1) := by decide +kernel
theorem dX0_newVoucher_49 : decode cX0_newVoucher 49 = .ok (.iconst 1, 1) := by decide +kernel
theorem dX0_newVoucher_50 : decode cX0_newVoucher 50 = .ok (.iload_n 1, 1) := by decide +kernel
theorem dX0_newVoucher_51 : decode cX0_newVoucher 51 = .ok (.invokevirtual 48, 3) := by decide +kernel
theorem dX0_newVoucher_54 : decode cX0_newVoucher 54 = .ok (.aload_n 0, 1) := by decide +kernel
theorem dX0_newVoucher_55 : decode cX0_newVoucher 55 = .ok (.getfield 9, 3) := by decide +kernel
theorem dX0_newVoucher_58 : decode cX0_newVoucher 58 = .ok (.dup, 1) := by decide +kernel
theorem dX0_newVoucher_59 : decode cX0_newVoucher 59 = .ok (.getfield 71, 3) := by decide +kernel
theorem dX0_newVoucher_62 : decode cX0_newVoucher 62 = .ok (.iload_n 1, 1) := by decide +kernel
theorem dX0_newVoucher_63 : decode cX0_newVoucher 63 = .ok (.iadd, 1) := by decide +kernel
theorem dX0_newVoucher_64 : decode cX0_newVoucher 64 = .ok (.putfield 71, 3) := by decide +kernel
theorem dX0_newVoucher_67 : decode cX0_newVoucher 67 = .ok (.iload_n 2, 1) := by decide +kernel
theorem dX0_newVoucher_68 : decode cX0_newVoucher 68 = .ok (.ireturn, 1) := by decide +kernel
theorem dX0_newBooking_0 : decode cX0_newBooking 0 = .ok (.aload_n 0, 1) := by decide +kernel
theorem dX0_newBooking_1 : decode cX0_newBooking 1 = .ok (.getfield 21, 3) := by decide +kernel
theorem dX0_newBooking_4 : decode cX0_newBooking 4 = .ok (.iload_n 1, 1) := by decide +kernel
theorem dX0_newBooking_5 : decode cX0_newBooking 5 = .ok (.invokevirtual 52, 3) := by decide +kernel
theorem dX0_newBooking_8 : decode cX0_newBooking 8 = .ok (.ifCond .eq 49, 3) := by decide +kernel
theorem dX0_newBooking_11 : decode cX0_newBooking 11 = .ok (.iload_n 2, 1) := by decide +kernel
theorem dX0_newBooking_12 : decode cX0_newBooking 12 = .ok (.iconst 0, 1) := by decide +kernel
theorem dX0_newBooking_13 : decode cX0_newBooking 13 = .ok (.sipush 720, 3) := by decide +kernel
theorem dX0_newBooking_16 : decode cX0_newBooking 16 = .ok (.invokestatic 34, 3) := by decide +kernel
theorem dX0_newBooking_19 : decode cX0_newBooking 19 = .ok (.ifCond .eq 38, 3) := by decide +kernel
theorem dX0_newBooking_22 : decode cX0_newBooking 22 = .ok (.iload_n 3, 1) := by decide +kernel
theorem dX0_newBooking_23 : decode cX0_newBooking 23 = .ok (.iconst 2, 1) := by decide +kernel
theorem dX0_newBooking_24 : decode cX0_newBooking 24 = .ok (.aload_n 0, 1) := by decide +kernel
theorem dX0_newBooking_25 : decode cX0_newBooking 25 = .ok (.getfield 21, 3) := by decide +kernel
theorem dX0_newBooking_28 : decode cX0_newBooking 28 = .ok (.iload_n 1, 1) := by decide +kernel
theorem dX0_newBooking_29 : decode cX0_newBooking 29 = .ok (.iconst 3, 1) := by decide +kernel
theorem dX0_newBooking_30 : decode cX0_newBooking 30 = .ok (.invokevirtual 56, 3) := by decide +kernel
theorem dX0_newBooking_33 : decode cX0_newBooking 33 = .ok (.invokestatic 34, 3) := by decide +kernel
theorem dX0_newBooking_36 : decode cX0_newBooking 36 = .ok (.ifCond .eq 21, 3) := by decide +kernel
theorem dX0_newBooking_39 : decode cX0_newBooking 39 = .ok (.iload 4, 2) := by decide +kernel
theorem dX0_newBooking_41 : decode cX0_newBooking 41 = .ok (.iconst (-1), 1) := by decide +kernel
theorem dX0_newBooking_42 : decode cX0_newBooking 42 = .ok (.if_icmp .eq 17, 3) := by decide +kernel
theorem dX0_newBooking_45 : decode cX0_newBooking 45 = .ok (.aload_n 0, 1) := by decide +kernel
theorem dX0_newBooking_46 : decode cX0_newBooking 46 = .ok (.getfield 29, 3) := by decide +kernel
theorem dX0_newBooking_49 : decode cX0_newBooking 49 = .ok (.iload 4, 2) := by decide +kernel
theorem dX0_newBooking_51 : decode cX0_newBooking 51 = .ok (.invokevirtual 52, 3) := by decide +kernel
theorem dX0_newBooking_54 : decode cX0_newBooking 54 = .ok (.ifCond .ne 5, 3) := by decide +kernel
theorem dX0_newBooking_57 : decode cX0_newBooking 57 = .ok (.iconst (-1), 1) := by decide +kernel
theorem dX0_newBooking_58 : decode cX0_newBooking 58 = .ok (.ireturn, 1) := by decide +kernel
theorem dX0_newBooking_59 : decode cX0_newBooking 59 = .ok (.aload_n 0, 1) := by decide +kernel
theorem dX0_newBooking_60 : decode cX0_newBooking 60 = .ok (.getfield 9, 3) := by decide +kernel
theorem dX0_newBooking_63 : decode cX0_newBooking 63 = .ok (.iload_n 1, 1) := by decide +kernel
theorem dX0_newBooking_64 : decode cX0_newBooking 64 = .ok (.iload_n 2, 1) := by decide +kernel
theorem dX0_newBooking_65 : decode cX0_newBooking 65 = .ok (.bipush (-9), 2) := by decide +kernel
theorem dX0_newBooking_67 : decode cX0_newBooking 67 = .ok (.invokevirtual 75, 3) := by decide +kernel
theorem dX0_newBooking_70 : decode cX0_newBooking 70 = .ok (.ifCond .ne 6, 3) := by decide +kernel
theorem dX0_newBooking_73 : decode cX0_newBooking 73 = .ok (.bipush (-2), 2) := by decide +kernel
theorem dX0_newBooking_75 : decode cX0_newBooking 75 = .ok (.ireturn, 1) := by decide +kernel
theorem dX0_newBooking_76 : decode cX0_newBooking 76 = .ok (.aload_n 0, 1) := by decide +kernel
theorem dX0_newBooking_77 : decode cX0_newBooking 77 = .ok (.getfield 25, 3) := by decide +kernel
theorem dX0_newBooking_80 : decode cX0_newBooking 80 = .ok (.invokevirtual 38, 3) := by decide +kernel
theorem dX0_newBooking_83 : decode cX0_newBooking 83 = .ok (.ifCond .eq 6, 3) := by decide +kernel
theorem dX0_newBooking_86 : decode cX0_newBooking 86 = .ok (.bipush (-3), 2) := by decide +kernel
theorem dX0_newBooking_88 : decode cX0_newBooking 88 = .ok (.ireturn, 1) := by decide +kernel
theorem dX0_newBooking_89 : decode cX0_newBooking 89 = .ok (.aload_n 0, 1) := by decide +kernel
theorem dX0_newBooking_90 : decode cX0_newBooking 90 = .ok (.getfield 25, 3) := by decide +kernel
theorem dX0_newBooking_93 : decode cX0_newBooking 93 = .ok (.invokevirtual 44, 3) := by decide +kernel
theorem dX0_newBooking_96 : decode cX0_newBooking 96 = .ok (.istore 5, 2) := by decide +kernel
theorem dX0_newBooking_98 : decode cX0_newBooking 98 = .ok (.aload_n 0, 1) := by decide +kernel
theorem dX0_newBooking_99 : decode cX0_newBooking 99 = .ok (.getfield 25, 3) := by decide +kernel
theorem dX0_newBooking_102 : decode cX0_newBooking 102 = .ok (.iload 5, 2) := by decide +kernel
theorem dX0_newBooking_104 : decode cX0_newBooking 104 = .ok (.iconst 0, 1) := by decide +kernel
theorem dX0_newBooking_105 : decode cX0_newBooking 105 = .ok (.iload_n 1, 1) := by decide +kernel
theorem dX0_newBooking_106 : decode cX0_newBooking 106 = .ok (.invokevirtual 48, 3) := by decide +kernel
theorem dX0_newBooking_109 : decode cX0_newBooking 109 = .ok (.aload_n 0, 1) := by decide +kernel
theorem dX0_newBooking_110 : decode cX0_newBooking 110 = .ok (.getfield 25, 3) := by decide +kernel
theorem dX0_newBooking_113 : decode cX0_newBooking 113 = .ok (.iload 5, 2) := by decide +kernel
theorem dX0_newBooking_115 : decode cX0_newBooking 115 = .ok (.iconst 1, 1) := by decide +kernel
theorem dX0_newBooking_116 : decode cX0_newBooking 116 = .ok (.iload_n 2, 1) := by decide +kernel
theorem dX0_newBooking_117 : decode cX0_newBooking 117 = .ok (.invokevirtual 48, 3) := by decide +kernel
theorem dX0_newBooking_120 : decode cX0_newBooking 120 = .ok (.aload_n 0, 1) := by decide +kernel
theorem dX0_newBooking_121 : decode cX0_newBooking 121 = .ok (.getfield 25, 3) := by decide +kernel
theorem dX0_newBooking_124 : decode cX0_newBooking 124 = .ok (.iload 5, 2) := by decide +kernel
theorem dX0_newBooking_126 : decode cX0_newBooking 126 = .ok (.iconst 2, 1) := by decide +kernel
theorem dX0_newBooking_127 : decode cX0_newBooking 127 = .ok (.iload_n 3, 1) := by decide +kernel
theorem dX0_newBooking_128 : decode cX0_newBooking 128 = .ok (.invokevirtual 48, 3) := by decide +kernel
theorem dX0_newBooking_131 : decode cX0_newBooking 131 = .ok (.aload_n 0, 1) := by decide +kernel
theorem dX0_newBooking_132 : decode cX0_newBooking 132 = .ok (.getfield 25, 3) := by decide +kernel
theorem dX0_newBooking_135 : decode cX0_newBooking 135 = .ok (.iload 5, 2) := by decide +kernel
theorem dX0_newBooking_137 : decode cX0_newBooking 137 = .ok (.iconst 3, 1) := by decide +kernel
theorem dX0_newBooking_138 : decode cX0_newBooking 138 = .ok (.iconst 0, 1) := by decide +kernel
theorem dX0_newBooking_139 : decode cX0_newBooking 139 = .ok (.invokevirtual 48, 3) := by decide +kernel
theorem dX0_newBooking_142 : decode cX0_newBooking 142 = .ok (.aload_n 0, 1) := by decide +kernel
theorem dX0_newBooking_143 : decode cX0_newBooking 143 = .ok (.getfield 25, 3) := by decide +kernel
theorem dX0_newBooking_146 : decode cX0_newBooking 146 = .ok (.iload 5, 2) := by decide +kernel
theorem dX0_newBooking_148 : decode cX0_newBooking 148 = .ok (.bipush 8, 2) := by decide +kernel
theorem dX0_newBooking_150 : decode cX0_newBooking 150 = .ok (.bipush (-9), 2) := by decide +kernel
theorem dX0_newBooking_152 : decode cX0_newBooking 152 = .ok (.invokevirtual 48, 3) := by decide +kernel
theorem dX0_newBooking_155 : decode cX0_newBooking 155 = .ok (.aload_n 0, 1) := by decide +kernel
theorem dX0_newBooking_156 : decode cX0_newBooking 156 = .ok (.getfield 25, 3) := by decide +kernel
theorem dX0_newBooking_159 : decode cX0_newBooking 159 = .ok (.iload 5, 2) := by decide +kernel
theorem dX0_newBooking_161 : decode cX0_newBooking 161 = .ok (.bipush 9, 2) := by decide +kernel
theorem dX0_newBooking_163 : decode cX0_newBooking 163 = .ok (.bipush (-9), 2) := by decide +kernel
theorem dX0_newBooking_165 : decode cX0_newBooking 165 = .ok (.invokevirtual 48, 3) := by decide +kernel
theorem dX0_newBooking_168 : decode cX0_newBooking 168 = .ok (.aload_n 0, 1) := by decide +kernel
theorem dX0_newBooking_169 : decode cX0_newBooking 169 = .ok (.iload 5, 2) := by decide +kernel
theorem dX0_newBooking_171 : decode cX0_newBooking 171 = .ok (.aload_n 0, 1) := by decide +kernel
theorem dX0_newBooking_172 : decode cX0_newBooking 172 = .ok (.getfield 21, 3) := by decide +kernel
theorem dX0_newBooking_175 : decode cX0_newBooking 175 = .ok (.iload_n 1, 1) := by decide +kernel
theorem dX0_newBooking_176 : decode cX0_newBooking 176 = .ok (.iconst 2, 1) := by decide +kernel
theorem dX0_newBooking_177 : decode cX0_newBooking 177 = .ok (.invokevirtual 56, 3) := by decide +kernel
theorem dX0_newBooking_180 : decode cX0_newBooking 180 = .ok (.iload_n 3, 1) := by decide +kernel
theorem dX0_newBooking_181 : decode cX0_newBooking 181 = .ok (.imul, 1) := by decide +kernel
theorem dX0_newBooking_182 : decode cX0_newBooking 182 = .ok (.iload 4, 2) := by decide +kernel
theorem dX0_newBooking_184 : decode cX0_newBooking 184 = .ok (.invokevirtual 78, 3) := by decide +kernel
theorem dX0_newBooking_187 : decode cX0_newBooking 187 = .ok (.iload 5, 2) := by decide +kernel
theorem dX0_newBooking_189 : decode cX0_newBooking 189 = .ok (.ireturn, 1) := by decide +kernel
theorem dX0_payCharge_0 : decode cX0_payCharge 0 = .ok (.iload_n 2, 1) := by decide +kernel
theorem dX0_payCharge_1 : decode cX0_payCharge 1 = .ok (.aload_n 0, 1) := by decide +kernel
theorem dX0_payCharge_2 : decode cX0_payCharge 2 = .ok (.getfield 29, 3) := by decide +kernel
theorem dX0_payCharge_5 : decode cX0_payCharge 5 = .ok (.iload_n 3, 1) := by decide +kernel
theorem dX0_payCharge_6 : decode cX0_payCharge 6 = .ok (.iconst 1, 1) := by decide +kernel
theorem dX0_payCharge_7 : decode cX0_payCharge 7 = .ok (.invokevirtual 56, 3) := by decide +kernel
theorem dX0_payCharge_10 : decode cX0_payCharge 10 = .ok (.invokestatic 81, 3) := by decide +kernel
theorem dX0_payCharge_13 : decode cX0_payCharge 13 = .ok (.istore 4, 2) := by decide +kernel
theorem dX0_payCharge_15 : decode cX0_payCharge 15 = .ok (.iload 4, 2) := by decide +kernel
theorem dX0_payCharge_17 : decode cX0_payCharge 17 = .ok (.ifCond .le 58, 3) := by decide +kernel
theorem dX0_payCharge_20 : decode cX0_payCharge 20 = .ok (.aload_n 0, 1) := by decide +kernel
theorem dX0_payCharge_21 : decode cX0_payCharge 21 = .ok (.getfield 29, 3) := by decide +kernel
theorem dX0_payCharge_24 : decode cX0_payCharge 24 = .ok (.iload_n 3, 1) := by decide +kernel
theorem dX0_payCharge_25 : decode cX0_payCharge 25 = .ok (.iconst 1, 1) := by decide +kernel
theorem dX0_payCharge_26 : decode cX0_payCharge 26 = .ok (.iload 4, 2) := by decide +kernel
theorem dX0_payCharge_28 : decode cX0_payCharge 28 = .ok (.ineg, 1) := by decide +kernel
theorem dX0_payCharge_29 : decode cX0_payCharge 29 = .ok (.invokevirtual 86, 3) := by decide +kernel
theorem dX0_payCharge_32 : decode cX0_payCharge 32 = .ok (.aload_n 0, 1) := by decide +kernel
theorem dX0_payCharge_33 : decode cX0_payCharge 33 = .ok (.getfield 33, 3) := by decide +kernel
theorem dX0_payCharge_36 : decode cX0_payCharge 36 = .ok (.invokevirtual 44, 3) := by decide +kernel
theorem dX0_payCharge_39 : decode cX0_payCharge 39 = .ok (.istore 5, 2) := by decide +kernel
theorem dX0_payCharge_41 : decode cX0_payCharge 41 = .ok (.aload_n 0, 1) := by decide +kernel
theorem dX0_payCharge_42 : decode cX0_payCharge 42 = .ok (.getfield 33, 3) := by decide +kernel
theorem dX0_payCharge_45 : decode cX0_payCharge 45 = .ok (.iload 5, 2) := by decide +kernel
theorem dX0_payCharge_47 : decode cX0_payCharge 47 = .ok (.iconst 0, 1) := by decide +kernel
theorem dX0_payCharge_48 : decode cX0_payCharge 48 = .ok (.iload_n 1, 1) := by decide +kernel
theorem dX0_payCharge_49 : decode cX0_payCharge 49 = .ok (.invokevirtual 48, 3) := by decide +kernel
theorem dX0_payCharge_52 : decode cX0_payCharge 52 = .ok (.aload_n 0, 1) := by decide +kernel
theorem dX0_payCharge_53 : decode cX0_payCharge 53 = .ok (.getfield 33, 3) := by decide +kernel
theorem dX0_payCharge_56 : decode cX0_payCharge 56 = .ok (.iload 5, 2) := by decide +kernel
theorem dX0_payCharge_58 : decode cX0_payCharge 58 = .ok (.iconst 1, 1) := by decide +kernel
theorem dX0_payCharge_59 : decode cX0_payCharge 59 = .ok (.iload_n 3, 1) := by decide +kernel
theorem dX0_payCharge_60 : decode cX0_payCharge 60 = .ok (.invokevirtual 48, 3) := by decide +kernel
theorem dX0_payCharge_63 : decode cX0_payCharge 63 = .ok (.aload_n 0, 1) := by decide +kernel
theorem dX0_payCharge_64 : decode cX0_payCharge 64 = .ok (.getfield 33, 3) := by decide +kernel
theorem dX0_payCharge_67 : decode cX0_payCharge 67 = .ok (.iload 5, 2) := by decide +kernel
theorem dX0_payCharge_69 : decode cX0_payCharge 69 = .ok (.iconst 2, 1) := by decide +kernel
theorem dX0_payCharge_70 : decode cX0_payCharge 70 = .ok (.iload 4, 2) := by decide +kernel
theorem dX0_payCharge_72 : decode cX0_payCharge 72 = .ok (.invokevirtual 48, 3) := by decide +kernel
theorem dX0_payCharge_75 : decode cX0_payCharge 75 = .ok (.aload_n 0, 1) := by decide +kernel
theorem dX0_payCharge_76 : decode cX0_payCharge 76 = .ok (.getfield 25, 3) := by decide +kernel
theorem dX0_payCharge_79 : decode cX0_payCharge 79 = .ok (.iload_n 1, 1) := by decide +kernel
theorem dX0_payCharge_80 : decode cX0_payCharge 80 = .ok (.iconst 4, 1) := by decide +kernel
theorem dX0_payCharge_81 : decode cX0_payCharge 81 = .ok (.iload_n 2, 1) := by decide +kernel
theorem dX0_payCharge_82 : decode cX0_payCharge 82 = .ok (.invokevirtual 48, 3) := by decide +kernel
theorem dX0_payCharge_85 : decode cX0_payCharge 85 = .ok (.aload_n 0, 1) := by decide +kernel
theorem dX0_payCharge_86 : decode cX0_payCharge 86 = .ok (.getfield 25, 3) := by decide +kernel
theorem dX0_payCharge_89 : decode cX0_payCharge 89 = .ok (.iload_n 1, 1) := by decide +kernel
theorem dX0_payCharge_90 : decode cX0_payCharge 90 = .ok (.iconst 5, 1) := by decide +kernel
theorem dX0_payCharge_91 : decode cX0_payCharge 91 = .ok (.iload_n 2, 1) := by decide +kernel
theorem dX0_payCharge_92 : decode cX0_payCharge 92 = .ok (.iload 4, 2) := by decide +kernel
theorem dX0_payCharge_94 : decode cX0_payCharge 94 = .ok (.isub, 1) := by decide +kernel
theorem dX0_payCharge_95 : decode cX0_payCharge 95 = .ok (.invokevirtual 48, 3) := by decide +kernel
theorem dX0_payCharge_98 : decode cX0_payCharge 98 = .ok (.aload_n 0, 1) := by decide +kernel
theorem dX0_payCharge_99 : decode cX0_payCharge 99 = .ok (.getfield 9, 3) := by decide +kernel
theorem dX0_payCharge_102 : decode cX0_payCharge 102 = .ok (.dup, 1) := by decide +kernel
theorem dX0_payCharge_103 : decode cX0_payCharge 103 = .ok (.getfield 71, 3) := by decide +kernel
theorem dX0_payCharge_106 : decode cX0_payCharge 106 = .ok (.iload_n 2, 1) := by decide +kernel
theorem dX0_payCharge_107 : decode cX0_payCharge 107 = .ok (.iload 4, 2) := by decide +kernel
theorem dX0_payCharge_109 : decode cX0_payCharge 109 = .ok (.isub, 1) := by decide +kernel
theorem dX0_payCharge_110 : decode cX0_payCharge 110 = .ok (.iadd, 1) := by decide +kernel
theorem dX0_payCharge_111 : decode cX0_payCharge 111 = .ok (.putfield 71, 3) := by decide +kernel
theorem dX0_payCharge_114 : decode cX0_payCharge 114 = .ok (.return_, 1) := by decide +kernel
theorem dX0_changeTime_0 : decode cX0_changeTime 0 = .ok (.aload_n 0, 1) := by decide +kernel
theorem dX0_changeTime_1 : decode cX0_changeTime 1 = .ok (.getfield 25, 3) := by decide +kernel
theorem dX0_changeTime_4 : decode cX0_changeTime 4 = .ok (.iload_n 1, 1) := by decide +kernel
theorem dX0_changeTime_5 : decode cX0_changeTime 5 = .ok (.invokevirtual 52, 3) := by decide +kernel
theorem dX0_changeTime_8 : decode cX0_changeTime 8 = .ok (.ifCond .eq 14, 3) := by decide +kernel
theorem dX0_changeTime_11 : decode cX0_changeTime 11 = .ok (.iload_n 2, 1) := by decide +kernel
theorem dX0_changeTime_12 : decode cX0_changeTime 12 = .ok (.iconst 0, 1) := by decide +kernel
theorem dX0_changeTime_13 : decode cX0_changeTime 13 = .ok (.sipush 720, 3) := by decide +kernel
theorem dX0_changeTime_16 : decode cX0_changeTime 16 = .ok (.invokestatic 34, 3) := by decide +kernel
theorem dX0_changeTime_19 : decode cX0_changeTime 19 = .ok (.ifCond .ne 5, 3) := by decide +kernel
theorem dX0_changeTime_22 : decode cX0_changeTime 22 = .ok (.iconst (-1), 1) := by decide +kernel
theorem dX0_changeTime_23 : decode cX0_changeTime 23 = .ok (.ireturn, 1) := by decide +kernel
theorem dX0_changeTime_24 : decode cX0_changeTime 24 = .ok (.aload_n 0, 1) := by decide +kernel
theorem dX0_changeTime_25 : decode cX0_changeTime 25 = .ok (.getfield 25, 3) := by decide +kernel
theorem dX0_changeTime_28 : decode cX0_changeTime 28 = .ok (.iload_n 1, 1) := by decide +kernel
theorem dX0_changeTime_29 : decode cX0_changeTime 29 = .ok (.iconst 0, 1) := by decide +kernel
theorem dX0_changeTime_30 : decode cX0_changeTime 30 = .ok (.invokevirtual 56, 3) := by decide +kernel
theorem dX0_changeTime_33 : decode cX0_changeTime 33 = .ok (.istore_n 3, 1) := by decide +kernel
theorem dX0_changeTime_34 : decode cX0_changeTime 34 = .ok (.aload_n 0, 1) := by decide +kernel
theorem dX0_changeTime_35 : decode cX0_changeTime 35 = .ok (.getfield 9, 3) := by decide +kernel
theorem dX0_changeTime_38 : decode cX0_changeTime 38 = .ok (.iload_n 1, 1) := by decide +kernel
theorem dX0_changeTime_39 : decode cX0_changeTime 39 = .ok (.invokevirtual 89, 3) := by decide +kernel
theorem dX0_changeTime_42 : decode cX0_changeTime 42 = .ok (.ifCond .eq 16, 3) := by decide +kernel
theorem dX0_changeTime_45 : decode cX0_changeTime 45 = .ok (.aload_n 0, 1) := by decide +kernel
theorem dX0_changeTime_46 : decode cX0_changeTime 46 = .ok (.getfield 9, 3) := by decide +kernel
theorem dX0_changeTime_49 : decode cX0_changeTime 49 = .ok (.iload_n 3, 1) := by decide +kernel
theorem dX0_changeTime_50 : decode cX0_changeTime 50 = .ok (.iload_n 2, 1) := by decide +kernel
theorem dX0_changeTime_51 : decode cX0_changeTime 51 = .ok (.iload_n 1, 1) := by decide +kernel
theorem dX0_changeTime_52 : decode cX0_changeTime 52 = .ok (.invokevirtual 75, 3) := by decide +kernel
theorem dX0_changeTime_55 : decode cX0_changeTime 55 = .ok (.ifCond .ne 6, 3) := by decide +kernel
theorem dX0_changeTime_58 : decode cX0_changeTime 58 = .ok (.bipush (-2), 2) := by decide +kernel
theorem dX0_changeTime_60 : decode cX0_changeTime 60 = .ok (.ireturn, 1) := by decide +kernel
theorem dX0_changeTime_61 : decode cX0_changeTime 61 = .ok (.aload_n 0, 1) := by decide +kernel
theorem dX0_changeTime_62 : decode cX0_changeTime 62 = .ok (.getfield 25, 3) := by decide +kernel
theorem dX0_changeTime_65 : decode cX0_changeTime 65 = .ok (.iload_n 1, 1) := by decide +kernel
theorem dX0_changeTime_66 : decode cX0_changeTime 66 = .ok (.iconst 1, 1) := by decide +kernel
theorem dX0_changeTime_67 : decode cX0_changeTime 67 = .ok (.invokevirtual 56, 3) := by decide +kernel
theorem dX0_changeTime_70 : decode cX0_changeTime 70 = .ok (.istore 4, 2) := by decide +kernel
theorem dX0_changeTime_72 : decode cX0_changeTime 72 = .ok (.aload_n 0, 1) := by decide +kernel
theorem dX0_changeTime_73 : decode cX0_changeTime 73 = .ok (.getfield 25, 3) := by decide +kernel
theorem dX0_changeTime_76 : decode cX0_changeTime 76 = .ok (.iload_n 1, 1) := by decide +kernel
theorem dX0_changeTime_77 : decode cX0_changeTime 77 = .ok (.iconst 1, 1) := by decide +kernel
theorem dX0_changeTime_78 : decode cX0_changeTime 78 = .ok (.iload_n 2, 1) := by decide +kernel
theorem dX0_changeTime_79 : decode cX0_changeTime 79 = .ok (.invokevirtual 48, 3) := by decide +kernel
theorem dX0_changeTime_82 : decode cX0_changeTime 82 = .ok (.iload 4, 2) := by decide +kernel
theorem dX0_changeTime_84 : decode cX0_changeTime 84 = .ok (.ireturn, 1) := by decide +kernel
theorem dX0_callOff_0 : decode cX0_callOff 0 = .ok (.aload_n 0, 1) := by decide +kernel
theorem dX0_callOff_1 : decode cX0_callOff 1 = .ok (.getfield 25, 3) := by decide +kernel
theorem dX0_callOff_4 : decode cX0_callOff 4 = .ok (.iload_n 1, 1) := by decide +kernel
theorem dX0_callOff_5 : decode cX0_callOff 5 = .ok (.invokevirtual 52, 3) := by decide +kernel
theorem dX0_callOff_8 : decode cX0_callOff 8 = .ok (.ifCond .ne 5, 3) := by decide +kernel
theorem dX0_callOff_11 : decode cX0_callOff 11 = .ok (.iconst (-1), 1) := by decide +kernel
theorem dX0_callOff_12 : decode cX0_callOff 12 = .ok (.ireturn, 1) := by decide +kernel
theorem dX0_callOff_13 : decode cX0_callOff 13 = .ok (.aload_n 0, 1) := by decide +kernel
theorem dX0_callOff_14 : decode cX0_callOff 14 = .ok (.getfield 9, 3) := by decide +kernel
theorem dX0_callOff_17 : decode cX0_callOff 17 = .ok (.iload_n 1, 1) := by decide +kernel
theorem dX0_callOff_18 : decode cX0_callOff 18 = .ok (.invokevirtual 89, 3) := by decide +kernel
theorem dX0_callOff_21 : decode cX0_callOff 21 = .ok (.ifCond .ne 6, 3) := by decide +kernel
theorem dX0_callOff_24 : decode cX0_callOff 24 = .ok (.bipush (-2), 2) := by decide +kernel
theorem dX0_callOff_26 : decode cX0_callOff 26 = .ok (.ireturn, 1) := by decide +kernel
theorem dX0_callOff_27 : decode cX0_callOff 27 = .ok (.aload_n 0, 1) := by decide +kernel
theorem dX0_callOff_28 : decode cX0_callOff 28 = .ok (.getfield 9, 3) := by decide +kernel
theorem dX0_callOff_31 : decode cX0_callOff 31 = .ok (.iload_n 1, 1) := by decide +kernel
theorem dX0_callOff_32 : decode cX0_callOff 32 = .ok (.invokevirtual 92, 3) := by decide +kernel
theorem dX0_callOff_35 : decode cX0_callOff 35 = .ok (.aload_n 0, 1) := by decide +kernel
theorem dX0_callOff_36 : decode cX0_callOff 36 = .ok (.getfield 25, 3) := by decide +kernel
theorem dX0_callOff_39 : decode cX0_callOff 39 = .ok (.iload_n 1, 1) := by decide +kernel
theorem dX0_callOff_40 : decode cX0_callOff 40 = .ok (.iconst 1, 1) := by decide +kernel
theorem dX0_callOff_41 : decode cX0_callOff 41 = .ok (.invokevirtual 56, 3) := by decide +kernel
theorem dX0_callOff_44 : decode cX0_callOff 44 = .ok (.isub, 1) := by decide +kernel
theorem dX0_callOff_45 : decode cX0_callOff 45 = .ok (.istore_n 2, 1) := by decide +kernel
theorem dX0_callOff_46 : decode cX0_callOff 46 = .ok (.aload_n 0, 1) := by decide +kernel
theorem dX0_callOff_47 : decode cX0_callOff 47 = .ok (.getfield 25, 3) := by decide +kernel
theorem dX0_callOff_50 : decode cX0_callOff 50 = .ok (.iload_n 1, 1) := by decide +kernel
theorem dX0_callOff_51 : decode cX0_callOff 51 = .ok (.iconst 5, 1) := by decide +kernel
theorem dX0_callOff_52 : decode cX0_callOff 52 = .ok (.invokevirtual 56, 3) := by decide +kernel
theorem dX0_callOff_55 : decode cX0_callOff 55 = .ok (.aload_n 0, 1) := by decide +kernel
theorem dX0_callOff_56 : decode cX0_callOff 56 = .ok (.getfield 9, 3) := by decide +kernel
theorem dX0_callOff_59 : decode cX0_callOff 59 = .ok (.iload_n 1, 1) := by decide +kernel
theorem dX0_callOff_60 : decode cX0_callOff 60 = .ok (.invokevirtual 95, 3) := by decide +kernel
theorem dX0_callOff_63 : decode cX0_callOff 63 = .ok (.iadd, 1) := by decide +kernel
theorem dX0_callOff_64 : decode cX0_callOff 64 = .ok (.istore_n 3, 1) := by decide +kernel
theorem dX0_callOff_65 : decode cX0_callOff 65 = .ok (.iload_n 2, 1) := by decide +kernel
theorem dX0_callOff_66 : decode cX0_callOff 66 = .ok (.aload_n 0, 1) := by decide +kernel
theorem dX0_callOff_67 : decode cX0_callOff 67 = .ok (.getfield 9, 3) := by decide +kernel
theorem dX0_callOff_70 : decode cX0_callOff 70 = .ok (.iconst 3, 1) := by decide +kernel
theorem dX0_callOff_71 : decode cX0_callOff 71 = .ok (.invokevirtual 64, 3) := by decide +kernel
theorem dX0_callOff_74 : decode cX0_callOff 74 = .ok (.if_icmp .le 7, 3) := by decide +kernel
theorem dX0_callOff_77 : decode cX0_callOff 77 = .ok (.iload_n 3, 1) := by decide +kernel
theorem dX0_callOff_78 : decode cX0_callOff 78 = .ok (.goto 6, 3) := by decide +kernel
theorem dX0_callOff_81 : decode cX0_callOff 81 = .ok (.iload_n 3, 1) := by decide +kernel
theorem dX0_callOff_82 : decode cX0_callOff 82 = .ok (.iconst 2, 1) := by decide +kernel
theorem dX0_callOff_83 : decode cX0_callOff 83 = .ok (.idiv, 1) := by decide +kernel
theorem dX0_callOff_84 : decode cX0_callOff 84 = .ok (.istore 4, 2) := by decide +kernel
theorem dX0_callOff_86 : decode cX0_callOff 86 = .ok (.aload_n 0, 1) := by decide +kernel
theorem dX0_callOff_87 : decode cX0_callOff 87 = .ok (.getfield 25, 3) := by decide +kernel
theorem dX0_callOff_90 : decode cX0_callOff 90 = .ok (.iload_n 1, 1) := by decide +kernel
theorem dX0_callOff_91 : decode cX0_callOff 91 = .ok (.iconst 3, 1) := by decide +kernel
theorem dX0_callOff_92 : decode cX0_callOff 92 = .ok (.iconst 2, 1) := by decide +kernel
theorem dX0_callOff_93 : decode cX0_callOff 93 = .ok (.invokevirtual 48, 3) := by decide +kernel
theorem dX0_callOff_96 : decode cX0_callOff 96 = .ok (.aload_n 0, 1) := by decide +kernel
theorem dX0_callOff_97 : decode cX0_callOff 97 = .ok (.iload_n 1, 1) := by decide +kernel
theorem dX0_callOff_98 : decode cX0_callOff 98 = .ok (.iload 4, 2) := by decide +kernel
theorem dX0_callOff_100 : decode cX0_callOff 100 = .ok (.invokevirtual 98, 3) := by decide +kernel
theorem dX0_callOff_103 : decode cX0_callOff 103 = .ok (.iload 4, 2) := by decide +kernel
theorem dX0_callOff_105 : decode cX0_callOff 105 = .ok (.ireturn, 1) := by decide +kernel
theorem dX0_refund_0 : decode cX0_refund 0 = .ok (.iload_n 2, 1) := by decide +kernel
theorem dX0_refund_1 : decode cX0_refund 1 = .ok (.aload_n 0, 1) := by decide +kernel
theorem dX0_refund_2 : decode cX0_refund 2 = .ok (.getfield 25, 3) := by decide +kernel
theorem dX0_refund_5 : decode cX0_refund 5 = .ok (.iload_n 1, 1) := by decide +kernel
theorem dX0_refund_6 : decode cX0_refund 6 = .ok (.iconst 5, 1) := by decide +kernel
theorem dX0_refund_7 : decode cX0_refund 7 = .ok (.invokevirtual 56, 3) := by decide +kernel
theorem dX0_refund_10 : decode cX0_refund 10 = .ok (.invokestatic 81, 3) := by decide +kernel
theorem dX0_refund_13 : decode cX0_refund 13 = .ok (.istore_n 3, 1) := by decide +kernel
theorem dX0_refund_14 : decode cX0_refund 14 = .ok (.aload_n 0, 1) := by decide +kernel
theorem dX0_refund_15 : decode cX0_refund 15 = .ok (.getfield 25, 3) := by decide +kernel
theorem dX0_refund_18 : decode cX0_refund 18 = .ok (.iload_n 1, 1) := by decide +kernel
theorem dX0_refund_19 : decode cX0_refund 19 = .ok (.iconst 5, 1) := by decide +kernel
theorem dX0_refund_20 : decode cX0_refund 20 = .ok (.iload_n 3, 1) := by decide +kernel
theorem dX0_refund_21 : decode cX0_refund 21 = .ok (.ineg, 1) := by decide +kernel
theorem dX0_refund_22 : decode cX0_refund 22 = .ok (.invokevirtual 86, 3) := by decide +kernel
theorem dX0_refund_25 : decode cX0_refund 25 = .ok (.aload_n 0, 1) := by decide +kernel
theorem dX0_refund_26 : decode cX0_refund 26 = .ok (.getfield 9, 3) := by decide +kernel
theorem dX0_refund_29 : decode cX0_refund 29 = .ok (.dup, 1) := by decide +kernel
theorem dX0_refund_30 : decode cX0_refund 30 = .ok (.getfield 71, 3) := by decide +kernel
theorem dX0_refund_33 : decode cX0_refund 33 = .ok (.iload_n 3, 1) := by decide +kernel
theorem dX0_refund_34 : decode cX0_refund 34 = .ok (.isub, 1) := by decide +kernel
theorem dX0_refund_35 : decode cX0_refund 35 = .ok (.putfield 71, 3) := by decide +kernel
theorem dX0_refund_38 : decode cX0_refund 38 = .ok (.iload_n 2, 1) := by decide +kernel
theorem dX0_refund_39 : decode cX0_refund 39 = .ok (.iload_n 3, 1) := by decide +kernel
theorem dX0_refund_40 : decode cX0_refund 40 = .ok (.isub, 1) := by decide +kernel
theorem dX0_refund_41 : decode cX0_refund 41 = .ok (.istore 4, 2) := by decide +kernel
theorem dX0_refund_43 : decode cX0_refund 43 = .ok (.bipush 15, 2) := by decide +kernel
theorem dX0_refund_45 : decode cX0_refund 45 = .ok (.istore 5, 2) := by decide +kernel
theorem dX0_refund_47 : decode cX0_refund 47 = .ok (.iload 5, 2) := by decide +kernel
theorem dX0_refund_49 : decode cX0_refund 49 = .ok (.ifCond .lt 35, 3) := by decide +kernel
theorem dX0_refund_52 : decode cX0_refund 52 = .ok (.iload 4, 2) := by decide +kernel
theorem dX0_refund_54 : decode cX0_refund 54 = .ok (.ifCond .le 30, 3) := by decide +kernel
theorem dX0_refund_57 : decode cX0_refund 57 = .ok (.iload 4, 2) := by decide +kernel
theorem dX0_refund_59 : decode cX0_refund 59 = .ok (.aload_n 0, 1) := by decide +kernel
theorem dX0_refund_60 : decode cX0_refund 60 = .ok (.aload_n 0, 1) := by decide +kernel
theorem dX0_refund_61 : decode cX0_refund 61 = .ok (.getfield 9, 3) := by decide +kernel
theorem dX0_refund_64 : decode cX0_refund 64 = .ok (.iload_n 1, 1) := by decide +kernel
theorem dX0_refund_65 : decode cX0_refund 65 = .ok (.iload 5, 2) := by decide +kernel
theorem dX0_refund_67 : decode cX0_refund 67 = .ok (.invokevirtual 102, 3) := by decide +kernel
theorem dX0_refund_70 : decode cX0_refund 70 = .ok (.iload 4, 2) := by decide +kernel
theorem dX0_refund_72 : decode cX0_refund 72 = .ok (.invokevirtual 105, 3) := by decide +kernel
theorem dX0_refund_75 : decode cX0_refund 75 = .ok (.isub, 1) := by decide +kernel
theorem dX0_refund_76 : decode cX0_refund 76 = .ok (.istore 4, 2) := by decide +kernel
theorem dX0_refund_78 : decode cX0_refund 78 = .ok (.iinc 5 (-1), 3) := by decide +kernel
theorem dX0_refund_81 : decode cX0_refund 81 = .ok (.goto (-34), 3) := by decide +kernel
theorem dX0_refund_84 : decode cX0_refund 84 = .ok (.aload_n 0, 1) := by decide +kernel
theorem dX0_refund_85 : decode cX0_refund 85 = .ok (.getfield 25, 3) := by decide +kernel
theorem dX0_refund_88 : decode cX0_refund 88 = .ok (.iload_n 1, 1) := by decide +kernel
theorem dX0_refund_89 : decode cX0_refund 89 = .ok (.bipush 7, 2) := by decide +kernel
theorem dX0_refund_91 : decode cX0_refund 91 = .ok (.iload_n 2, 1) := by decide +kernel
theorem dX0_refund_92 : decode cX0_refund 92 = .ok (.iload 4, 2) := by decide +kernel
theorem dX0_refund_94 : decode cX0_refund 94 = .ok (.isub, 1) := by decide +kernel
theorem dX0_refund_95 : decode cX0_refund 95 = .ok (.invokevirtual 86, 3) := by decide +kernel
theorem dX0_refund_98 : decode cX0_refund 98 = .ok (.return_, 1) := by decide +kernel
theorem dX0_refundPayment_0 : decode cX0_refundPayment 0 = .ok (.iload_n 2, 1) := by decide +kernel
theorem dX0_refundPayment_1 : decode cX0_refundPayment 1 = .ok (.aload_n 0, 1) := by decide +kernel
theorem dX0_refundPayment_2 : decode cX0_refundPayment 2 = .ok (.getfield 33, 3) := by decide +kernel
theorem dX0_refundPayment_5 : decode cX0_refundPayment 5 = .ok (.iload_n 1, 1) := by decide +kernel
theorem dX0_refundPayment_6 : decode cX0_refundPayment 6 = .ok (.iconst 2, 1) := by decide +kernel
theorem dX0_refundPayment_7 : decode cX0_refundPayment 7 = .ok (.invokevirtual 56, 3) := by decide +kernel
theorem dX0_refundPayment_10 : decode cX0_refundPayment 10 = .ok (.invokestatic 81, 3) := by decide +kernel
theorem dX0_refundPayment_13 : decode cX0_refundPayment 13 = .ok (.istore_n 3, 1) := by decide +kernel
theorem dX0_refundPayment_14 : decode cX0_refundPayment 14 = .ok (.iload_n 3, 1) := by decide +kernel
theorem dX0_refundPayment_15 : decode cX0_refundPayment 15 = .ok (.ifCond .le 32, 3) := by decide +kernel
theorem dX0_refundPayment_18 : decode cX0_refundPayment 18 = .ok (.aload_n 0, 1) := by decide +kernel
theorem dX0_refundPayment_19 : decode cX0_refundPayment 19 = .ok (.getfield 33, 3) := by decide +kernel
theorem dX0_refundPayment_22 : decode cX0_refundPayment 22 = .ok (.iload_n 1, 1) := by decide +kernel
theorem dX0_refundPayment_23 : decode cX0_refundPayment 23 = .ok (.iconst 2, 1) := by decide +kernel
theorem dX0_refundPayment_24 : decode cX0_refundPayment 24 = .ok (.iload_n 3, 1) := by decide +kernel
theorem dX0_refundPayment_25 : decode cX0_refundPayment 25 = .ok (.ineg, 1) := by decide +kernel
theorem dX0_refundPayment_26 : decode cX0_refundPayment 26 = .ok (.invokevirtual 86, 3) := by decide +kernel
theorem dX0_refundPayment_29 : decode cX0_refundPayment 29 = .ok (.aload_n 0, 1) := by decide +kernel
theorem dX0_refundPayment_30 : decode cX0_refundPayment 30 = .ok (.getfield 29, 3) := by decide +kernel
theorem dX0_refundPayment_33 : decode cX0_refundPayment 33 = .ok (.aload_n 0, 1) := by decide +kernel
theorem dX0_refundPayment_34 : decode cX0_refundPayment 34 = .ok (.getfield 33, 3) := by decide +kernel
theorem dX0_refundPayment_37 : decode cX0_refundPayment 37 = .ok (.iload_n 1, 1) := by decide +kernel
theorem dX0_refundPayment_38 : decode cX0_refundPayment 38 = .ok (.iconst 1, 1) := by decide +kernel
theorem dX0_refundPayment_39 : decode cX0_refundPayment 39 = .ok (.invokevirtual 56, 3) := by decide +kernel
theorem dX0_refundPayment_42 : decode cX0_refundPayment 42 = .ok (.iconst 1, 1) := by decide +kernel
theorem dX0_refundPayment_43 : decode cX0_refundPayment 43 = .ok (.iload_n 3, 1) := by decide +kernel
theorem dX0_refundPayment_44 : decode cX0_refundPayment 44 = .ok (.invokevirtual 86, 3) := by decide +kernel
theorem dX0_refundPayment_47 : decode cX0_refundPayment 47 = .ok (.iload_n 3, 1) := by decide +kernel
theorem dX0_refundPayment_48 : decode cX0_refundPayment 48 = .ok (.ireturn, 1) := by decide +kernel
theorem dX0_joinTeams_0 : decode cX0_joinTeams 0 = .ok (.aload_n 0, 1) := by decide +kernel
theorem dX0_joinTeams_1 : decode cX0_joinTeams 1 = .ok (.getfield 25, 3) := by decide +kernel
theorem dX0_joinTeams_4 : decode cX0_joinTeams 4 = .ok (.iload_n 1, 1) := by decide +kernel
theorem dX0_joinTeams_5 : decode cX0_joinTeams 5 = .ok (.invokevirtual 52, 3) := by decide +kernel
theorem dX0_joinTeams_8 : decode cX0_joinTeams 8 = .ok (.ifCond .eq 19, 3) := by decide +kernel
theorem dX0_joinTeams_11 : decode cX0_joinTeams 11 = .ok (.aload_n 0, 1) := by decide +kernel
theorem dX0_joinTeams_12 : decode cX0_joinTeams 12 = .ok (.getfield 25, 3) := by decide +kernel
theorem dX0_joinTeams_15 : decode cX0_joinTeams 15 = .ok (.iload_n 2, 1) := by decide +kernel
theorem dX0_joinTeams_16 : decode cX0_joinTeams 16 = .ok (.invokevirtual 52, 3) := by decide +kernel
theorem dX0_joinTeams_19 : decode cX0_joinTeams 19 = .ok (.ifCond .eq 8, 3) := by decide +kernel
theorem dX0_joinTeams_22 : decode cX0_joinTeams 22 = .ok (.iload_n 1, 1) := by decide +kernel
theorem dX0_joinTeams_23 : decode cX0_joinTeams 23 = .ok (.iload_n 2, 1) := by decide +kernel
theorem dX0_joinTeams_24 : decode cX0_joinTeams 24 = .ok (.if_icmp .ne 5, 3) := by decide +kernel
theorem dX0_joinTeams_27 : decode cX0_joinTeams 27 = .ok (.iconst (-1), 1) := by decide +kernel
theorem dX0_joinTeams_28 : decode cX0_joinTeams 28 = .ok (.ireturn, 1) := by decide +kernel
theorem dX0_joinTeams_29 : decode cX0_joinTeams 29 = .ok (.aload_n 0, 1) := by decide +kernel
theorem dX0_joinTeams_30 : decode cX0_joinTeams 30 = .ok (.getfield 25, 3) := by decide +kernel
theorem dX0_joinTeams_33 : decode cX0_joinTeams 33 = .ok (.iload_n 2, 1) := by decide +kernel
theorem dX0_joinTeams_34 : decode cX0_joinTeams 34 = .ok (.iconst 0, 1) := by decide +kernel
theorem dX0_joinTeams_35 : decode cX0_joinTeams 35 = .ok (.invokevirtual 56, 3) := by decide +kernel
theorem dX0_joinTeams_38 : decode cX0_joinTeams 38 = .ok (.istore_n 3, 1) := by decide +kernel
theorem dX0_joinTeams_39 : decode cX0_joinTeams 39 = .ok (.aload_n 0, 1) := by decide +kernel
theorem dX0_joinTeams_40 : decode cX0_joinTeams 40 = .ok (.getfield 9, 3) := by decide +kernel
theorem dX0_joinTeams_43 : decode cX0_joinTeams 43 = .ok (.iload_n 1, 1) := by decide +kernel
theorem dX0_joinTeams_44 : decode cX0_joinTeams 44 = .ok (.invokevirtual 89, 3) := by decide +kernel
theorem dX0_joinTeams_47 : decode cX0_joinTeams 47 = .ok (.ifCond .eq 27, 3) := by decide +kernel
theorem dX0_joinTeams_50 : decode cX0_joinTeams 50 = .ok (.aload_n 0, 1) := by decide +kernel
theorem dX0_joinTeams_51 : decode cX0_joinTeams 51 = .ok (.getfield 9, 3) := by decide +kernel
theorem dX0_joinTeams_54 : decode cX0_joinTeams 54 = .ok (.iload_n 2, 1) := by decide +kernel
theorem dX0_joinTeams_55 : decode cX0_joinTeams 55 = .ok (.invokevirtual 89, 3) := by decide +kernel
theorem dX0_joinTeams_58 : decode cX0_joinTeams 58 = .ok (.ifCond .eq 16, 3) := by decide +kernel
theorem dX0_joinTeams_61 : decode cX0_joinTeams 61 = .ok (.aload_n 0, 1) := by decide +kernel
theorem dX0_joinTeams_62 : decode cX0_joinTeams 62 = .ok (.getfield 25, 3) := by decide +kernel
theorem dX0_joinTeams_65 : decode cX0_joinTeams 65 = .ok (.iload_n 1, 1) := by decide +kernel
theorem dX0_joinTeams_66 : decode cX0_joinTeams 66 = .ok (.iconst 0, 1) := by decide +kernel
theorem dX0_joinTeams_67 : decode cX0_joinTeams 67 = .ok (.invokevirtual 56, 3) := by decide +kernel
theorem dX0_joinTeams_70 : decode cX0_joinTeams 70 = .ok (.iload_n 3, 1) := by decide +kernel
theorem dX0_joinTeams_71 : decode cX0_joinTeams 71 = .ok (.if_icmp .eq 6, 3) := by decide +kernel
theorem dX0_joinTeams_74 : decode cX0_joinTeams 74 = .ok (.bipush (-2), 2) := by decide +kernel
theorem dX0_joinTeams_76 : decode cX0_joinTeams 76 = .ok (.ireturn, 1) := by decide +kernel
theorem dX0_joinTeams_77 : decode cX0_joinTeams 77 = .ok (.aload_n 0, 1) := by decide +kernel
theorem dX0_joinTeams_78 : decode cX0_joinTeams 78 = .ok (.getfield 25, 3) := by decide +kernel
theorem dX0_joinTeams_81 : decode cX0_joinTeams 81 = .ok (.iload_n 1, 1) := by decide +kernel
theorem dX0_joinTeams_82 : decode cX0_joinTeams 82 = .ok (.iconst 2, 1) := by decide +kernel
theorem dX0_joinTeams_83 : decode cX0_joinTeams 83 = .ok (.invokevirtual 56, 3) := by decide +kernel
theorem dX0_joinTeams_86 : decode cX0_joinTeams 86 = .ok (.aload_n 0, 1) := by decide +kernel
theorem dX0_joinTeams_87 : decode cX0_joinTeams 87 = .ok (.getfield 25, 3) := by decide +kernel
theorem dX0_joinTeams_90 : decode cX0_joinTeams 90 = .ok (.iload_n 2, 1) := by decide +kernel
theorem dX0_joinTeams_91 : decode cX0_joinTeams 91 = .ok (.iconst 2, 1) := by decide +kernel
theorem dX0_joinTeams_92 : decode cX0_joinTeams 92 = .ok (.invokevirtual 56, 3) := by decide +kernel
theorem dX0_joinTeams_95 : decode cX0_joinTeams 95 = .ok (.iadd, 1) := by decide +kernel
theorem dX0_joinTeams_96 : decode cX0_joinTeams 96 = .ok (.istore 4, 2) := by decide +kernel
theorem dX0_joinTeams_98 : decode cX0_joinTeams 98 = .ok (.iload 4, 2) := by decide +kernel
theorem dX0_joinTeams_100 : decode cX0_joinTeams 100 = .ok (.aload_n 0, 1) := by decide +kernel
theorem dX0_joinTeams_101 : decode cX0_joinTeams 101 = .ok (.getfield 21, 3) := by decide +kernel
theorem dX0_joinTeams_104 : decode cX0_joinTeams 104 = .ok (.iload_n 3, 1) := by decide +kernel
theorem dX0_joinTeams_105 : decode cX0_joinTeams 105 = .ok (.iconst 3, 1) := by decide +kernel
theorem dX0_joinTeams_106 : decode cX0_joinTeams 106 = .ok (.invokevirtual 56, 3) := by decide +kernel
theorem dX0_joinTeams_109 : decode cX0_joinTeams 109 = .ok (.if_icmp .le 6, 3) := by decide +kernel
theorem dX0_joinTeams_112 : decode cX0_joinTeams 112 = .ok (.bipush (-3), 2) := by decide +kernel
theorem dX0_joinTeams_114 : decode cX0_joinTeams 114 = .ok (.ireturn, 1) := by decide +kernel
theorem dX0_joinTeams_115 : decode cX0_joinTeams 115 = .ok (.aload_n 0, 1) := by decide +kernel
theorem dX0_joinTeams_116 : decode cX0_joinTeams 116 = .ok (.iload_n 1, 1) := by decide +kernel
theorem dX0_joinTeams_117 : decode cX0_joinTeams 117 = .ok (.iload_n 2, 1) := by decide +kernel
theorem dX0_joinTeams_118 : decode cX0_joinTeams 118 = .ok (.iconst 2, 1) := by decide +kernel
theorem dX0_joinTeams_119 : decode cX0_joinTeams 119 = .ok (.invokevirtual 108, 3) := by decide +kernel
theorem dX0_joinTeams_122 : decode cX0_joinTeams 122 = .ok (.aload_n 0, 1) := by decide +kernel
theorem dX0_joinTeams_123 : decode cX0_joinTeams 123 = .ok (.iload_n 1, 1) := by decide +kernel
theorem dX0_joinTeams_124 : decode cX0_joinTeams 124 = .ok (.iload_n 2, 1) := by decide +kernel
theorem dX0_joinTeams_125 : decode cX0_joinTeams 125 = .ok (.iconst 4, 1) := by decide +kernel
theorem dX0_joinTeams_126 : decode cX0_joinTeams 126 = .ok (.invokevirtual 108, 3) := by decide +kernel
theorem dX0_joinTeams_129 : decode cX0_joinTeams 129 = .ok (.aload_n 0, 1) := by decide +kernel
theorem dX0_joinTeams_130 : decode cX0_joinTeams 130 = .ok (.iload_n 1, 1) := by decide +kernel
theorem dX0_joinTeams_131 : decode cX0_joinTeams 131 = .ok (.iload_n 2, 1) := by decide +kernel
theorem dX0_joinTeams_132 : decode cX0_joinTeams 132 = .ok (.iconst 5, 1) := by decide +kernel
theorem dX0_joinTeams_133 : decode cX0_joinTeams 133 = .ok (.invokevirtual 108, 3) := by decide +kernel
theorem dX0_joinTeams_136 : decode cX0_joinTeams 136 = .ok (.aload_n 0, 1) := by decide +kernel
theorem dX0_joinTeams_137 : decode cX0_joinTeams 137 = .ok (.iload_n 1, 1) := by decide +kernel
theorem dX0_joinTeams_138 : decode cX0_joinTeams 138 = .ok (.iload_n 2, 1) := by decide +kernel
theorem dX0_joinTeams_139 : decode cX0_joinTeams 139 = .ok (.invokevirtual 111, 3) := by decide +kernel
theorem dX0_joinTeams_142 : decode cX0_joinTeams 142 = .ok (.aload_n 0, 1) := by decide +kernel
theorem dX0_joinTeams_143 : decode cX0_joinTeams 143 = .ok (.getfield 25, 3) := by decide +kernel
theorem dX0_joinTeams_146 : decode cX0_joinTeams 146 = .ok (.iload_n 1, 1) := by decide +kernel
theorem dX0_joinTeams_147 : decode cX0_joinTeams 147 = .ok (.iconst 3, 1) := by decide +kernel
theorem dX0_joinTeams_148 : decode cX0_joinTeams 148 = .ok (.iconst 3, 1) := by decide +kernel
theorem dX0_joinTeams_149 : decode cX0_joinTeams 149 = .ok (.invokevirtual 48, 3) := by decide +kernel
theorem dX0_joinTeams_152 : decode cX0_joinTeams 152 = .ok (.iload 4, 2) := by decide +kernel
theorem dX0_joinTeams_154 : decode cX0_joinTeams 154 = .ok (.ireturn, 1) := by decide +kernel
theorem dX0_handOver_0 : decode cX0_handOver 0 = .ok (.aload_n 0, 1) := by decide +kernel
theorem dX0_handOver_1 : decode cX0_handOver 1 = .ok (.getfield 25, 3) := by decide +kernel
theorem dX0_handOver_4 : decode cX0_handOver 4 = .ok (.iload_n 2, 1) := by decide +kernel
theorem dX0_handOver_5 : decode cX0_handOver 5 = .ok (.iload_n 3, 1) := by decide +kernel
theorem dX0_handOver_6 : decode cX0_handOver 6 = .ok (.aload_n 0, 1) := by decide +kernel
theorem dX0_handOver_7 : decode cX0_handOver 7 = .ok (.getfield 25, 3) := by decide +kernel
theorem dX0_handOver_10 : decode cX0_handOver 10 = .ok (.iload_n 1, 1) := by decide +kernel
theorem dX0_handOver_11 : decode cX0_handOver 11 = .ok (.iload_n 3, 1) := by decide +kernel
theorem dX0_handOver_12 : decode cX0_handOver 12 = .ok (.invokevirtual 56, 3) := by decide +kernel
theorem dX0_handOver_15 : decode cX0_handOver 15 = .ok (.invokevirtual 86, 3) := by decide +kernel
theorem dX0_handOver_18 : decode cX0_handOver 18 = .ok (.aload_n 0, 1) := by decide +kernel
theorem dX0_handOver_19 : decode cX0_handOver 19 = .ok (.getfield 25, 3) := by decide +kernel
theorem dX0_handOver_22 : decode cX0_handOver 22 = .ok (.iload_n 1, 1) := by decide +kernel
theorem dX0_handOver_23 : decode cX0_handOver 23 = .ok (.iload_n 3, 1) := by decide +kernel
theorem dX0_handOver_24 : decode cX0_handOver 24 = .ok (.iconst 0, 1) := by decide +kernel
theorem dX0_handOver_25 : decode cX0_handOver 25 = .ok (.invokevirtual 48, 3) := by decide +kernel
theorem dX0_handOver_28 : decode cX0_handOver 28 = .ok (.return_, 1) := by decide +kernel
theorem dX0_handOverPayments_0 : decode cX0_handOverPayments 0 = .ok (.aload_n 0, 1) := by decide +kernel
theorem dX0_handOverPayments_1 : decode cX0_handOverPayments 1 = .ok (.getfield 9, 3) := by decide +kernel
theorem dX0_handOverPayments_4 : decode cX0_handOverPayments 4 = .ok (.iload_n 2, 1) := by decide +kernel
theorem dX0_handOverPayments_5 : decode cX0_handOverPayments 5 = .ok (.invokevirtual 114, 3) := by decide +kernel
theorem dX0_handOverPayments_8 : decode cX0_handOverPayments 8 = .ok (.istore_n 3, 1) := by decide +kernel
theorem dX0_handOverPayments_9 : decode cX0_handOverPayments 9 = .ok (.iconst 0, 1) := by decide +kernel
theorem dX0_handOverPayments_10 : decode cX0_handOverPayments 10 = .ok (.istore 4, 2) := by decide +kernel
theorem dX0_handOverPayments_12 : decode cX0_handOverPayments 12 = .ok (.iload 4, 2) := by decide +kernel
theorem dX0_handOverPayments_14 : decode cX0_handOverPayments 14 = .ok (.aload_n 0, 1) := by decide +kernel
theorem dX0_handOverPayments_15 : decode cX0_handOverPayments 15 = .ok (.getfield 33, 3) := by decide +kernel
theorem dX0_handOverPayments_18 : decode cX0_handOverPayments 18 = .ok (.invokevirtual 117, 3) := by decide +kernel
theorem dX0_handOverPayments_21 : decode cX0_handOverPayments 21 = .ok (.if_icmp .ge 45, 3) := by decide +kernel
theorem dX0_handOverPayments_24 : decode cX0_handOverPayments 24 = .ok (.aload_n 0, 1) := by decide +kernel
theorem dX0_handOverPayments_25 : decode cX0_handOverPayments 25 = .ok (.getfield 33, 3) := by decide +kernel
theorem dX0_handOverPayments_28 : decode cX0_handOverPayments 28 = .ok (.iload 4, 2) := by decide +kernel
theorem dX0_handOverPayments_30 : decode cX0_handOverPayments 30 = .ok (.iconst 0, 1) := by decide +kernel
theorem dX0_handOverPayments_31 : decode cX0_handOverPayments 31 = .ok (.invokevirtual 56, 3) := by decide +kernel
theorem dX0_handOverPayments_34 : decode cX0_handOverPayments 34 = .ok (.iload_n 1, 1) := by decide +kernel
theorem dX0_handOverPayments_35 : decode cX0_handOverPayments 35 = .ok (.if_icmp .ne 25, 3) := by decide +kernel
theorem dX0_handOverPayments_38 : decode cX0_handOverPayments 38 = .ok (.aload_n 0, 1) := by decide +kernel
theorem dX0_handOverPayments_39 : decode cX0_handOverPayments 39 = .ok (.getfield 33, 3) := by decide +kernel
theorem dX0_handOverPayments_42 : decode cX0_handOverPayments 42 = .ok (.iload 4, 2) := by decide +kernel
theorem dX0_handOverPayments_44 : decode cX0_handOverPayments 44 = .ok (.iconst 0, 1) := by decide +kernel
theorem dX0_handOverPayments_45 : decode cX0_handOverPayments 45 = .ok (.iload_n 2, 1) := by decide +kernel
theorem dX0_handOverPayments_46 : decode cX0_handOverPayments 46 = .ok (.invokevirtual 48, 3) := by decide +kernel
theorem dX0_handOverPayments_49 : decode cX0_handOverPayments 49 = .ok (.aload_n 0, 1) := by decide +kernel
theorem dX0_handOverPayments_50 : decode cX0_handOverPayments 50 = .ok (.getfield 33, 3) := by decide +kernel
theorem dX0_handOverPayments_53 : decode cX0_handOverPayments 53 = .ok (.iload 4, 2) := by decide +kernel
theorem dX0_handOverPayments_55 : decode cX0_handOverPayments 55 = .ok (.iconst 3, 1) := by decide +kernel
theorem dX0_handOverPayments_56 : decode cX0_handOverPayments 56 = .ok (.iload_n 3, 1) := by decide +kernel
theorem dX0_handOverPayments_57 : decode cX0_handOverPayments 57 = .ok (.invokevirtual 86, 3) := by decide +kernel
theorem dX0_handOverPayments_60 : decode cX0_handOverPayments 60 = .ok (.iinc 4 1, 3) := by decide +kernel
theorem dX0_handOverPayments_63 : decode cX0_handOverPayments 63 = .ok (.goto (-51), 3) := by decide +kernel
theorem dX0_handOverPayments_66 : decode cX0_handOverPayments 66 = .ok (.return_, 1) := by decide +kernel
theorem dX0_letPlay_0 : decode cX0_letPlay 0 = .ok (.aload_n 0, 1) := by decide +kernel
theorem dX0_letPlay_1 : decode cX0_letPlay 1 = .ok (.getfield 25, 3) := by decide +kernel
theorem dX0_letPlay_4 : decode cX0_letPlay 4 = .ok (.iload_n 1, 1) := by decide +kernel
theorem dX0_letPlay_5 : decode cX0_letPlay 5 = .ok (.iconst 0, 1) := by decide +kernel
theorem dX0_letPlay_6 : decode cX0_letPlay 6 = .ok (.invokevirtual 56, 3) := by decide +kernel
theorem dX0_letPlay_9 : decode cX0_letPlay 9 = .ok (.istore 5, 2) := by decide +kernel
theorem dX0_letPlay_11 : decode cX0_letPlay 11 = .ok (.aload_n 0, 1) := by decide +kernel
theorem dX0_letPlay_12 : decode cX0_letPlay 12 = .ok (.getfield 25, 3) := by decide +kernel
theorem dX0_letPlay_15 : decode cX0_letPlay 15 = .ok (.iload_n 1, 1) := by decide +kernel
theorem dX0_letPlay_16 : decode cX0_letPlay 16 = .ok (.invokevirtual 52, 3) := by decide +kernel
theorem dX0_letPlay_19 : decode cX0_letPlay 19 = .ok (.ifCond .eq 42, 3) := by decide +kernel
theorem dX0_letPlay_22 : decode cX0_letPlay 22 = .ok (.iload_n 2, 1) := by decide +kernel
theorem dX0_letPlay_23 : decode cX0_letPlay 23 = .ok (.iconst 0, 1) := by decide +kernel
theorem dX0_letPlay_24 : decode cX0_letPlay 24 = .ok (.aload_n 0, 1) := by decide +kernel
theorem dX0_letPlay_25 : decode cX0_letPlay 25 = .ok (.getfield 21, 3) := by decide +kernel
theorem dX0_letPlay_28 : decode cX0_letPlay 28 = .ok (.iload 5, 2) := by decide +kernel
theorem dX0_letPlay_30 : decode cX0_letPlay 30 = .ok (.iconst 0, 1) := by decide +kernel
theorem dX0_letPlay_31 : decode cX0_letPlay 31 = .ok (.invokevirtual 56, 3) := by decide +kernel
theorem dX0_letPlay_34 : decode cX0_letPlay 34 = .ok (.invokestatic 34, 3) := by decide +kernel
theorem dX0_letPlay_37 : decode cX0_letPlay 37 = .ok (.ifCond .eq 24, 3) := by decide +kernel
theorem dX0_letPlay_40 : decode cX0_letPlay 40 = .ok (.iload_n 3, 1) := by decide +kernel
theorem dX0_letPlay_41 : decode cX0_letPlay 41 = .ok (.iconst 0, 1) := by decide +kernel
theorem dX0_letPlay_42 : decode cX0_letPlay 42 = .ok (.bipush 20, 2) := by decide +kernel
theorem dX0_letPlay_44 : decode cX0_letPlay 44 = .ok (.invokestatic 34, 3) := by decide +kernel
theorem dX0_letPlay_47 : decode cX0_letPlay 47 = .ok (.ifCond .eq 14, 3) := by decide +kernel
theorem dX0_letPlay_50 : decode cX0_letPlay 50 = .ok (.iload 4, 2) := by decide +kernel
theorem dX0_letPlay_52 : decode cX0_letPlay 52 = .ok (.iconst 0, 1) := by decide +kernel
theorem dX0_letPlay_53 : decode cX0_letPlay 53 = .ok (.bipush 9, 2) := by decide +kernel
theorem dX0_letPlay_55 : decode cX0_letPlay 55 = .ok (.invokestatic 34, 3) := by decide +kernel
theorem dX0_letPlay_58 : decode cX0_letPlay 58 = .ok (.ifCond .ne 5, 3) := by decide +kernel
theorem dX0_letPlay_61 : decode cX0_letPlay 61 = .ok (.iconst (-1), 1) := by decide +kernel
theorem dX0_letPlay_62 : decode cX0_letPlay 62 = .ok (.ireturn, 1) := by decide +kernel
theorem dX0_letPlay_63 : decode cX0_letPlay 63 = .ok (.aload_n 0, 1) := by decide +kernel
theorem dX0_letPlay_64 : decode cX0_letPlay 64 = .ok (.getfield 9, 3) := by decide +kernel
theorem dX0_letPlay_67 : decode cX0_letPlay 67 = .ok (.iload_n 1, 1) := by decide +kernel
theorem dX0_letPlay_68 : decode cX0_letPlay 68 = .ok (.invokevirtual 89, 3) := by decide +kernel
theorem dX0_letPlay_71 : decode cX0_letPlay 71 = .ok (.ifCond .eq 17, 3) := by decide +kernel
theorem dX0_letPlay_74 : decode cX0_letPlay 74 = .ok (.aload_n 0, 1) := by decide +kernel
theorem dX0_letPlay_75 : decode cX0_letPlay 75 = .ok (.getfield 9, 3) := by decide +kernel
theorem dX0_letPlay_78 : decode cX0_letPlay 78 = .ok (.iload 5, 2) := by decide +kernel
theorem dX0_letPlay_80 : decode cX0_letPlay 80 = .ok (.iconst (-1), 1) := by decide +kernel
theorem dX0_letPlay_81 : decode cX0_letPlay 81 = .ok (.invokevirtual 120, 3) := by decide +kernel
theorem dX0_letPlay_84 : decode cX0_letPlay 84 = .ok (.iload_n 1, 1) := by decide +kernel
theorem dX0_letPlay_85 : decode cX0_letPlay 85 = .ok (.if_icmp .eq 6, 3) := by decide +kernel
theorem dX0_letPlay_88 : decode cX0_letPlay 88 = .ok (.bipush (-2), 2) := by decide +kernel
theorem dX0_letPlay_90 : decode cX0_letPlay 90 = .ok (.ireturn, 1) := by decide +kernel
theorem dX0_letPlay_91 : decode cX0_letPlay 91 = .ok (.aload_n 0, 1) := by decide +kernel
theorem dX0_letPlay_92 : decode cX0_letPlay 92 = .ok (.getfield 21, 3) := by decide +kernel
theorem dX0_letPlay_95 : decode cX0_letPlay 95 = .ok (.iload 5, 2) := by decide +kernel
theorem dX0_letPlay_97 : decode cX0_letPlay 97 = .ok (.iconst 0, 1) := by decide +kernel
theorem dX0_letPlay_98 : decode cX0_letPlay 98 = .ok (.invokevirtual 56, 3) := by decide +kernel
theorem dX0_letPlay_101 : decode cX0_letPlay 101 = .ok (.istore 6, 2) := by decide +kernel
theorem dX0_letPlay_103 : decode cX0_letPlay 103 = .ok (.iload 6, 2) := by decide +kernel
theorem dX0_letPlay_105 : decode cX0_letPlay 105 = .ok (.aload_n 0, 1) := by decide +kernel
theorem dX0_letPlay_106 : decode cX0_letPlay 106 = .ok (.getfield 9, 3) := by decide +kernel
theorem dX0_letPlay_109 : decode cX0_letPlay 109 = .ok (.iconst 1, 1) := by decide +kernel
theorem dX0_letPlay_110 : decode cX0_letPlay 110 = .ok (.invokevirtual 64, 3) := by decide +kernel
theorem dX0_letPlay_113 : decode cX0_letPlay 113 = .ok (.iadd, 1) := by decide +kernel
theorem dX0_letPlay_114 : decode cX0_letPlay 114 = .ok (.istore 7, 2) := by decide +kernel
theorem dX0_letPlay_116 : decode cX0_letPlay 116 = .ok (.iload_n 2, 1) := by decide +kernel
theorem dX0_letPlay_117 : decode cX0_letPlay 117 = .ok (.iload_n 3, 1) := by decide +kernel
theorem dX0_letPlay_118 : decode cX0_letPlay 118 = .ok (.aload_n 0, 1) := by decide +kernel
theorem dX0_letPlay_119 : decode cX0_letPlay 119 = .ok (.getfield 9, 3) := by decide +kernel
theorem dX0_letPlay_122 : decode cX0_letPlay 122 = .ok (.iconst 0, 1) := by decide +kernel
theorem dX0_letPlay_123 : decode cX0_letPlay 123 = .ok (.invokevirtual 64, 3) := by decide +kernel
theorem dX0_letPlay_126 : decode cX0_letPlay 126 = .ok (.imul, 1) := by decide +kernel
theorem dX0_letPlay_127 : decode cX0_letPlay 127 = .ok (.iadd, 1) := by decide +kernel
theorem dX0_letPlay_128 : decode cX0_letPlay 128 = .ok (.istore 8, 2) := by decide +kernel
theorem dX0_letPlay_130 : decode cX0_letPlay 130 = .ok (.iload_n 2, 1) := by decide +kernel
theorem dX0_letPlay_131 : decode cX0_letPlay 131 = .ok (.ifCond .ne 8, 3) := by decide +kernel
theorem dX0_letPlay_134 : decode cX0_letPlay 134 = .ok (.iload 6, 2) := by decide +kernel
theorem dX0_letPlay_136 : decode cX0_letPlay 136 = .ok (.goto 10, 3) := by decide +kernel
theorem dX0_letPlay_139 : decode cX0_letPlay 139 = .ok (.iload 8, 2) := by decide +kernel
theorem dX0_letPlay_141 : decode cX0_letPlay 141 = .ok (.iload 7, 2) := by decide +kernel
theorem dX0_letPlay_143 : decode cX0_letPlay 143 = .ok (.invokestatic 81, 3) := by decide +kernel
theorem dX0_letPlay_146 : decode cX0_letPlay 146 = .ok (.istore 9, 2) := by decide +kernel
theorem dX0_letPlay_148 : decode cX0_letPlay 148 = .ok (.aload_n 0, 1) := by decide +kernel
theorem dX0_letPlay_149 : decode cX0_letPlay 149 = .ok (.getfield 21, 3) := by decide +kernel
theorem dX0_letPlay_152 : decode cX0_letPlay 152 = .ok (.iload 5, 2) := by decide +kernel
theorem dX0_letPlay_154 : decode cX0_letPlay 154 = .ok (.iconst 5, 1) := by decide +kernel
theorem dX0_letPlay_155 : decode cX0_letPlay 155 = .ok (.iconst 1, 1) := by decide +kernel
theorem dX0_letPlay_156 : decode cX0_letPlay 156 = .ok (.invokevirtual 86, 3) := by decide +kernel
theorem dX0_letPlay_159 : decode cX0_letPlay 159 = .ok (.aload_n 0, 1) := by decide +kernel
theorem dX0_letPlay_160 : decode cX0_letPlay 160 = .ok (.getfield 21, 3) := by decide +kernel
theorem dX0_letPlay_163 : decode cX0_letPlay 163 = .ok (.iload 5, 2) := by decide +kernel
theorem dX0_letPlay_165 : decode cX0_letPlay 165 = .ok (.bipush 6, 2) := by decide +kernel
theorem dX0_letPlay_167 : decode cX0_letPlay 167 = .ok (.iload_n 2, 1) := by decide +kernel
theorem dX0_letPlay_168 : decode cX0_letPlay 168 = .ok (.ifCond .le 14, 3) := by decide +kernel
theorem dX0_letPlay_171 : decode cX0_letPlay 171 = .ok (.iload 8, 2) := by decide +kernel
theorem dX0_letPlay_173 : decode cX0_letPlay 173 = .ok (.iload 7, 2) := by decide +kernel
theorem dX0_letPlay_175 : decode cX0_letPlay 175 = .ok (.if_icmp .gt 7, 3) := by decide +kernel
theorem dX0_letPlay_178 : decode cX0_letPlay 178 = .ok (.iconst 1, 1) := by decide +kernel
theorem dX0_letPlay_179 : decode cX0_letPlay 179 = .ok (.goto 4, 3) := by decide +kernel
theorem dX0_letPlay_182 : decode cX0_letPlay 182 = .ok (.iconst 0, 1) := by decide +kernel
theorem dX0_letPlay_183 : decode cX0_letPlay 183 = .ok (.invokevirtual 86, 3) := by decide +kernel
theorem dX0_letPlay_186 : decode cX0_letPlay 186 = .ok (.aload_n 0, 1) := by decide +kernel
theorem dX0_letPlay_187 : decode cX0_letPlay 187 = .ok (.getfield 21, 3) := by decide +kernel
theorem dX0_letPlay_190 : decode cX0_letPlay 190 = .ok (.iload 5, 2) := by decide +kernel
theorem dX0_letPlay_192 : decode cX0_letPlay 192 = .ok (.bipush 7, 2) := by decide +kernel
theorem dX0_letPlay_194 : decode cX0_letPlay 194 = .ok (.iload_n 3, 1) := by decide +kernel
theorem dX0_letPlay_195 : decode cX0_letPlay 195 = .ok (.invokevirtual 86, 3) := by decide +kernel
theorem dX0_letPlay_198 : decode cX0_letPlay 198 = .ok (.aload_n 0, 1) := by decide +kernel
theorem dX0_letPlay_199 : decode cX0_letPlay 199 = .ok (.getfield 21, 3) := by decide +kernel
theorem dX0_letPlay_202 : decode cX0_letPlay 202 = .ok (.iload 5, 2) := by decide +kernel
theorem dX0_letPlay_204 : decode cX0_letPlay 204 = .ok (.bipush 8, 2) := by decide +kernel
theorem dX0_letPlay_206 : decode cX0_letPlay 206 = .ok (.iload 9, 2) := by decide +kernel
theorem dX0_letPlay_208 : decode cX0_letPlay 208 = .ok (.invokevirtual 86, 3) := by decide +kernel
theorem dX0_letPlay_211 : decode cX0_letPlay 211 = .ok (.aload_n 0, 1) := by decide +kernel
theorem dX0_letPlay_212 : decode cX0_letPlay 212 = .ok (.getfield 21, 3) := by decide +kernel
theorem dX0_letPlay_215 : decode cX0_letPlay 215 = .ok (.iload 5, 2) := by decide +kernel
theorem dX0_letPlay_217 : decode cX0_letPlay 217 = .ok (.bipush 10, 2) := by decide +kernel
theorem dX0_letPlay_219 : decode cX0_letPlay 219 = .ok (.iload_n 2, 1) := by decide +kernel
theorem dX0_letPlay_220 : decode cX0_letPlay 220 = .ok (.ifCond .le 14, 3) := by decide +kernel
theorem dX0_letPlay_223 : decode cX0_letPlay 223 = .ok (.iload 8, 2) := by decide +kernel
theorem dX0_letPlay_225 : decode cX0_letPlay 225 = .ok (.iload 6, 2) := by decide +kernel
theorem dX0_letPlay_227 : decode cX0_letPlay 227 = .ok (.if_icmp .le 7, 3) := by decide +kernel
theorem dX0_letPlay_230 : decode cX0_letPlay 230 = .ok (.iconst 1, 1) := by decide +kernel
theorem dX0_letPlay_231 : decode cX0_letPlay 231 = .ok (.goto 4, 3) := by decide +kernel
theorem dX0_letPlay_234 : decode cX0_letPlay 234 = .ok (.iconst 0, 1) := by decide +kernel
theorem dX0_letPlay_235 : decode cX0_letPlay 235 = .ok (.invokevirtual 86, 3) := by decide +kernel
theorem dX0_letPlay_238 : decode cX0_letPlay 238 = .ok (.aload_n 0, 1) := by decide +kernel
theorem dX0_letPlay_239 : decode cX0_letPlay 239 = .ok (.iload_n 1, 1) := by decide +kernel
theorem dX0_letPlay_240 : decode cX0_letPlay 240 = .ok (.iload 9, 2) := by decide +kernel
theorem dX0_letPlay_242 : decode cX0_letPlay 242 = .ok (.iload 4, 2) := by decide +kernel
theorem dX0_letPlay_244 : decode cX0_letPlay 244 = .ok (.invokevirtual 123, 3) := by decide +kernel
theorem dX0_letPlay_247 : decode cX0_letPlay 247 = .ok (.istore 10, 2) := by decide +kernel
theorem dX0_letPlay_249 : decode cX0_letPlay 249 = .ok (.aload_n 0, 1) := by decide +kernel
theorem dX0_letPlay_250 : decode cX0_letPlay 250 = .ok (.iload_n 1, 1) := by decide +kernel
theorem dX0_letPlay_251 : decode cX0_letPlay 251 = .ok (.aload_n 0, 1) := by decide +kernel
theorem dX0_letPlay_252 : decode cX0_letPlay 252 = .ok (.getfield 9, 3) := by decide +kernel
theorem dX0_letPlay_255 : decode cX0_letPlay 255 = .ok (.iload_n 1, 1) := by decide +kernel
theorem dX0_letPlay_256 : decode cX0_letPlay 256 = .ok (.iload 10, 2) := by decide +kernel
theorem dX0_letPlay_258 : decode cX0_letPlay 258 = .ok (.invokevirtual 127, 3) := by decide +kernel
theorem dX0_letPlay_261 : decode cX0_letPlay 261 = .ok (.invokevirtual 98, 3) := by decide +kernel
theorem dX0_letPlay_264 : decode cX0_letPlay 264 = .ok (.iload 9, 2) := by decide +kernel
theorem dX0_letPlay_266 : decode cX0_letPlay 266 = .ok (.ireturn, 1) := by decide +kernel
theorem dX0_occupy_0 : decode cX0_occupy 0 = .ok (.aload_n 0, 1) := by decide +kernel
theorem dX0_occupy_1 : decode cX0_occupy 1 = .ok (.getfield 25, 3) := by decide +kernel
theorem dX0_occupy_4 : decode cX0_occupy 4 = .ok (.iload_n 1, 1) := by decide +kernel
theorem dX0_occupy_5 : decode cX0_occupy 5 = .ok (.iconst 0, 1) := by decide +kernel
theorem dX0_occupy_6 : decode cX0_occupy 6 = .ok (.invokevirtual 56, 3) := by decide +kernel
theorem dX0_occupy_9 : decode cX0_occupy 9 = .ok (.istore 4, 2) := by decide +kernel
theorem dX0_occupy_11 : decode cX0_occupy 11 = .ok (.aload_n 0, 1) := by decide +kernel
theorem dX0_occupy_12 : decode cX0_occupy 12 = .ok (.getfield 25, 3) := by decide +kernel
theorem dX0_occupy_15 : decode cX0_occupy 15 = .ok (.iload_n 1, 1) := by decide +kernel
theorem dX0_occupy_16 : decode cX0_occupy 16 = .ok (.iconst 1, 1) := by decide +kernel
theorem dX0_occupy_17 : decode cX0_occupy 17 = .ok (.invokevirtual 56, 3) := by decide +kernel
theorem dX0_occupy_20 : decode cX0_occupy 20 = .ok (.istore 5, 2) := by decide +kernel
theorem dX0_occupy_22 : decode cX0_occupy 22 = .ok (.iload 5, 2) := by decide +kernel
theorem dX0_occupy_24 : decode cX0_occupy 24 = .ok (.aload_n 0, 1) := by decide +kernel
theorem dX0_occupy_25 : decode cX0_occupy 25 = .ok (.getfield 21, 3) := by decide +kernel
theorem dX0_occupy_28 : decode cX0_occupy 28 = .ok (.iload 4, 2) := by decide +kernel
theorem dX0_occupy_30 : decode cX0_occupy 30 = .ok (.iconst 4, 1) := by decide +kernel
theorem dX0_occupy_31 : decode cX0_occupy 31 = .ok (.invokevirtual 56, 3) := by decide +kernel
theorem dX0_occupy_34 : decode cX0_occupy 34 = .ok (.invokestatic 130, 3) := by decide +kernel
theorem dX0_occupy_37 : decode cX0_occupy 37 = .ok (.istore 6, 2) := by decide +kernel
theorem dX0_occupy_39 : decode cX0_occupy 39 = .ok (.iload 6, 2) := by decide +kernel
theorem dX0_occupy_41 : decode cX0_occupy 41 = .ok (.iload 5, 2) := by decide +kernel
theorem dX0_occupy_43 : decode cX0_occupy 43 = .ok (.isub, 1) := by decide +kernel
theorem dX0_occupy_44 : decode cX0_occupy 44 = .ok (.istore 7, 2) := by decide +kernel
theorem dX0_occupy_46 : decode cX0_occupy 46 = .ok (.aload_n 0, 1) := by decide +kernel
theorem dX0_occupy_47 : decode cX0_occupy 47 = .ok (.getfield 21, 3) := by decide +kernel
theorem dX0_occupy_50 : decode cX0_occupy 50 = .ok (.iload 4, 2) := by decide +kernel
theorem dX0_occupy_52 : decode cX0_occupy 52 = .ok (.iconst 1, 1) := by decide +kernel
theorem dX0_occupy_53 : decode cX0_occupy 53 = .ok (.invokevirtual 56, 3) := by decide +kernel
theorem dX0_occupy_56 : decode cX0_occupy 56 = .ok (.iload_n 3, 1) := by decide +kernel
theorem dX0_occupy_57 : decode cX0_occupy 57 = .ok (.aload_n 0, 1) := by decide +kernel
theorem dX0_occupy_58 : decode cX0_occupy 58 = .ok (.getfield 9, 3) := by decide +kernel
theorem dX0_occupy_61 : decode cX0_occupy 61 = .ok (.iconst 2, 1) := by decide +kernel
theorem dX0_occupy_62 : decode cX0_occupy 62 = .ok (.invokevirtual 64, 3) := by decide +kernel
theorem dX0_occupy_65 : decode cX0_occupy 65 = .ok (.imul, 1) := by decide +kernel
theorem dX0_occupy_66 : decode cX0_occupy 66 = .ok (.iadd, 1) := by decide +kernel
theorem dX0_occupy_67 : decode cX0_occupy 67 = .ok (.istore 8, 2) := by decide +kernel
theorem dX0_occupy_69 : decode cX0_occupy 69 = .ok (.aload_n 0, 1) := by decide +kernel
theorem dX0_occupy_70 : decode cX0_occupy 70 = .ok (.getfield 21, 3) := by decide +kernel
theorem dX0_occupy_73 : decode cX0_occupy 73 = .ok (.iload 4, 2) := by decide +kernel
theorem dX0_occupy_75 : decode cX0_occupy 75 = .ok (.iconst 4, 1) := by decide +kernel
theorem dX0_occupy_76 : decode cX0_occupy 76 = .ok (.iload 6, 2) := by decide +kernel
theorem dX0_occupy_78 : decode cX0_occupy 78 = .ok (.iload_n 2, 1) := by decide +kernel
theorem dX0_occupy_79 : decode cX0_occupy 79 = .ok (.iadd, 1) := by decide +kernel
theorem dX0_occupy_80 : decode cX0_occupy 80 = .ok (.iload 8, 2) := by decide +kernel
theorem dX0_occupy_82 : decode cX0_occupy 82 = .ok (.iadd, 1) := by decide +kernel
theorem dX0_occupy_83 : decode cX0_occupy 83 = .ok (.invokevirtual 48, 3) := by decide +kernel
theorem dX0_occupy_86 : decode cX0_occupy 86 = .ok (.aload_n 0, 1) := by decide +kernel
theorem dX0_occupy_87 : decode cX0_occupy 87 = .ok (.getfield 21, 3) := by decide +kernel
theorem dX0_occupy_90 : decode cX0_occupy 90 = .ok (.iload 4, 2) := by decide +kernel
theorem dX0_occupy_92 : decode cX0_occupy 92 = .ok (.bipush 9, 2) := by decide +kernel
theorem dX0_occupy_94 : decode cX0_occupy 94 = .ok (.iload 7, 2) := by decide +kernel
theorem dX0_occupy_96 : decode cX0_occupy 96 = .ok (.aload_n 0, 1) := by decide +kernel
theorem dX0_occupy_97 : decode cX0_occupy 97 = .ok (.getfield 21, 3) := by decide +kernel
theorem dX0_occupy_100 : decode cX0_occupy 100 = .ok (.iload 4, 2) := by decide +kernel
theorem dX0_occupy_102 : decode cX0_occupy 102 = .ok (.bipush 9, 2) := by decide +kernel
theorem dX0_occupy_104 : decode cX0_occupy 104 = .ok (.invokevirtual 56, 3) := by decide +kernel
theorem dX0_occupy_107 : decode cX0_occupy 107 = .ok (.invokestatic 130, 3) := by decide +kernel
theorem dX0_occupy_110 : decode cX0_occupy 110 = .ok (.invokevirtual 48, 3) := by decide +kernel
theorem dX0_occupy_113 : decode cX0_occupy 113 = .ok (.aload_n 0, 1) := by decide +kernel
theorem dX0_occupy_114 : decode cX0_occupy 114 = .ok (.getfield 25, 3) := by decide +kernel
theorem dX0_occupy_117 : decode cX0_occupy 117 = .ok (.iload_n 1, 1) := by decide +kernel
theorem dX0_occupy_118 : decode cX0_occupy 118 = .ok (.iconst 3, 1) := by decide +kernel
theorem dX0_occupy_119 : decode cX0_occupy 119 = .ok (.iconst 1, 1) := by decide +kernel
theorem dX0_occupy_120 : decode cX0_occupy 120 = .ok (.invokevirtual 48, 3) := by decide +kernel
theorem dX0_occupy_123 : decode cX0_occupy 123 = .ok (.aload_n 0, 1) := by decide +kernel
theorem dX0_occupy_124 : decode cX0_occupy 124 = .ok (.getfield 25, 3) := by decide +kernel
theorem dX0_occupy_127 : decode cX0_occupy 127 = .ok (.iload_n 1, 1) := by decide +kernel
theorem dX0_occupy_128 : decode cX0_occupy 128 = .ok (.bipush 8, 2) := by decide +kernel
theorem dX0_occupy_130 : decode cX0_occupy 130 = .ok (.iload 6, 2) := by decide +kernel
theorem dX0_occupy_132 : decode cX0_occupy 132 = .ok (.invokevirtual 48, 3) := by decide +kernel
theorem dX0_occupy_135 : decode cX0_occupy 135 = .ok (.aload_n 0, 1) := by decide +kernel
theorem dX0_occupy_136 : decode cX0_occupy 136 = .ok (.getfield 25, 3) := by decide +kernel
theorem dX0_occupy_139 : decode cX0_occupy 139 = .ok (.iload_n 1, 1) := by decide +kernel
theorem dX0_occupy_140 : decode cX0_occupy 140 = .ok (.bipush 9, 2) := by decide +kernel
theorem dX0_occupy_142 : decode cX0_occupy 142 = .ok (.iload_n 2, 1) := by decide +kernel
theorem dX0_occupy_143 : decode cX0_occupy 143 = .ok (.invokevirtual 48, 3) := by decide +kernel
theorem dX0_occupy_146 : decode cX0_occupy 146 = .ok (.iload 7, 2) := by decide +kernel
theorem dX0_occupy_148 : decode cX0_occupy 148 = .ok (.ireturn, 1) := by decide +kernel
theorem dX1_init_0 : decode cX1_init 0 = .ok (.aload_n 0, 1) := by decide +kernel
theorem dX1_init_1 : decode cX1_init 1 = .ok (.invokespecial 3, 3) := by decide +kernel
theorem dX1_init_4 : decode cX1_init 4 = .ok (.aload_n 0, 1) := by decide +kernel
theorem dX1_init_5 : decode cX1_init 5 = .ok (.bipush 6, 2) := by decide +kernel
theorem dX1_init_7 : decode cX1_init 7 = .ok (.anewarray 9, 3) := by decide +kernel
theorem dX1_init_10 : decode cX1_init 10 = .ok (.putfield 11, 3) := by decide +kernel
theorem dX1_init_13 : decode cX1_init 13 = .ok (.iconst 0, 1) := by decide +kernel
theorem dX1_init_14 : decode cX1_init 14 = .ok (.istore_n 1, 1) := by decide +kernel
theorem dX1_init_15 : decode cX1_init 15 = .ok (.iload_n 1, 1) := by decide +kernel
theorem dX1_init_16 : decode cX1_init 16 = .ok (.aload_n 0, 1) := by decide +kernel
theorem dX1_init_17 : decode cX1_init 17 = .ok (.getfield 11, 3) := by decide +kernel
theorem dX1_init_20 : decode cX1_init 20 = .ok (.arraylength, 1) := by decide +kernel
theorem dX1_init_21 : decode cX1_init 21 = .ok (.if_icmp .ge 22, 3) := by decide +kernel
theorem dX1_init_24 : decode cX1_init 24 = .ok (.aload_n 0, 1) := by decide +kernel
theorem dX1_init_25 : decode cX1_init 25 = .ok (.getfield 11, 3) := by decide +kernel
theorem dX1_init_28 : decode cX1_init 28 = .ok (.iload_n 1, 1) := by decide +kernel
theorem dX1_init_29 : decode cX1_init 29 = .ok (.new 9, 3) := by decide +kernel
theorem dX1_init_32 : decode cX1_init 32 = .ok (.dup, 1) := by decide +kernel
theorem dX1_init_33 : decode cX1_init 33 = .ok (.invokespecial 17, 3) := by decide +kernel
theorem dX1_init_36 : decode cX1_init 36 = .ok (.aastore, 1) := by decide +kernel
theorem dX1_init_37 : decode cX1_init 37 = .ok (.iinc 1 1, 3) := by decide +kernel
theorem dX1_init_40 : decode cX1_init 40 = .ok (.goto (-25), 3) := by decide +kernel
theorem dX1_init_43 : decode cX1_init 43 = .ok (.return_, 1) := by decide +kernel
theorem dX1_size_0 : decode cX1_size 0 = .ok (.aload_n 0, 1) := by decide +kernel
theorem dX1_size_1 : decode cX1_size 1 = .ok (.getfield 18, 3) := by decide +kernel
theorem dX1_size_4 : decode cX1_size 4 = .ok (.ireturn, 1) := by decide +kernel
theorem dX1_prepare_0 : decode cX1_prepare 0 = .ok (.aload_n 0, 1) := by decide +kernel
theorem dX1_prepare_1 : decode cX1_prepare 1 = .ok (.aload_n 0, 1) := by decide +kernel
theorem dX1_prepare_2 : decode cX1_prepare 2 = .ok (.getfield 18, 3) := by decide +kernel
theorem dX1_prepare_5 : decode cX1_prepare 5 = .ok (.invokevirtual 22, 3) := by decide +kernel
theorem dX1_prepare_8 : decode cX1_prepare 8 = .ok (.astore_n 2, 1) := by decide +kernel
theorem dX1_prepare_9 : decode cX1_prepare 9 = .ok (.aload_n 2, 1) := by decide +kernel
theorem dX1_prepare_10 : decode cX1_prepare 10 = .ok (.ifnull 8, 3) := by decide +kernel
theorem dX1_prepare_13 : decode cX1_prepare 13 = .ok (.aload_n 2, 1) := by decide +kernel
theorem dX1_prepare_14 : decode cX1_prepare 14 = .ok (.aload_n 1, 1) := by decide +kernel
theorem dX1_prepare_15 : decode cX1_prepare 15 = .ok (.invokevirtual 26, 3) := by decide +kernel
theorem dX1_prepare_18 : decode cX1_prepare 18 = .ok (.return_, 1) := by decide +kernel
theorem dX1_giveBack_0 : decode cX1_giveBack 0 = .ok (.aload_n 0, 1) := by decide +kernel
theorem dX1_giveBack_1 : decode cX1_giveBack 1 = .ok (.aload_n 0, 1) := by decide +kernel
theorem dX1_giveBack_2 : decode cX1_giveBack 2 = .ok (.getfield 18, 3) := by decide +kernel
theorem dX1_giveBack_5 : decode cX1_giveBack 5 = .ok (.invokevirtual 22, 3) := by decide +kernel
theorem dX1_giveBack_8 : decode cX1_giveBack 8 = .ok (.astore_n 2, 1) := by decide +kernel
theorem dX1_giveBack_9 : decode cX1_giveBack 9 = .ok (.aload_n 2, 1) := by decide +kernel
theorem dX1_giveBack_10 : decode cX1_giveBack 10 = .ok (.ifnull 8, 3) := by decide +kernel
theorem dX1_giveBack_13 : decode cX1_giveBack 13 = .ok (.aload_n 1, 1) := by decide +kernel
theorem dX1_giveBack_14 : decode cX1_giveBack 14 = .ok (.aload_n 2, 1) := by decide +kernel
theorem dX1_giveBack_15 : decode cX1_giveBack 15 = .ok (.invokevirtual 26, 3) := by decide +kernel
theorem dX1_giveBack_18 : decode cX1_giveBack 18 = .ok (.return_, 1) := by decide +kernel
theorem dX1_settle_0 : decode cX1_settle 0 = .ok (.iload_n 1, 1) := by decide +kernel
theorem dX1_settle_1 : decode cX1_settle 1 = .ok (.ifCond .lt 7, 3) := by decide +kernel
theorem dX1_settle_4 : decode cX1_settle 4 = .ok (.aload_n 0, 1) := by decide +kernel
theorem dX1_settle_5 : decode cX1_settle 5 = .ok (.invokevirtual 30, 3) := by decide +kernel
theorem dX1_settle_8 : decode cX1_settle 8 = .ok (.iload_n 1, 1) := by decide +kernel
theorem dX1_settle_9 : decode cX1_settle 9 = .ok (.ireturn, 1) := by decide +kernel
theorem dX1_stepBack_0 : decode cX1_stepBack 0 = .ok (.aload_n 0, 1) := by decide +kernel
theorem dX1_stepBack_1 : decode cX1_stepBack 1 = .ok (.getfield 18, 3) := by decide +kernel
theorem dX1_stepBack_4 : decode cX1_stepBack 4 = .ok (.ifCond .gt 6, 3) := by decide +kernel
theorem dX1_stepBack_7 : decode cX1_stepBack 7 = .ok (.bipush (-2), 2) := by decide +kernel
theorem dX1_stepBack_9 : decode cX1_stepBack 9 = .ok (.ireturn, 1) := by decide +kernel
theorem dX1_stepBack_10 : decode cX1_stepBack 10 = .ok (.aload_n 0, 1) := by decide +kernel
theorem dX1_stepBack_11 : decode cX1_stepBack 11 = .ok (.dup, 1) := by decide +kernel
theorem dX1_stepBack_12 : decode cX1_stepBack 12 = .ok (.getfield 18, 3) := by decide +kernel
theorem dX1_stepBack_15 : decode cX1_stepBack 15 = .ok (.iconst 1, 1) := by decide +kernel
theorem dX1_stepBack_16 : decode cX1_stepBack 16 = .ok (.isub, 1) := by decide +kernel
theorem dX1_stepBack_17 : decode cX1_stepBack 17 = .ok (.putfield 18, 3) := by decide +kernel
theorem dX1_stepBack_20 : decode cX1_stepBack 20 = .ok (.aload_n 0, 1) := by decide +kernel
theorem dX1_stepBack_21 : decode cX1_stepBack 21 = .ok (.aload_n 1, 1) := by decide +kernel
theorem dX1_stepBack_22 : decode cX1_stepBack 22 = .ok (.invokevirtual 33, 3) := by decide +kernel
theorem dX1_stepBack_25 : decode cX1_stepBack 25 = .ok (.aload_n 0, 1) := by decide +kernel
theorem dX1_stepBack_26 : decode cX1_stepBack 26 = .ok (.getfield 18, 3) := by decide +kernel
theorem dX1_stepBack_29 : decode cX1_stepBack 29 = .ok (.ireturn, 1) := by decide +kernel
theorem dX1_record_0 : decode cX1_record 0 = .ok (.aload_n 0, 1) := by decide +kernel
theorem dX1_record_1 : decode cX1_record 1 = .ok (.getfield 18, 3) := by decide +kernel
theorem dX1_record_4 : decode cX1_record 4 = .ok (.iconst 5, 1) := by decide +kernel
theorem dX1_record_5 : decode cX1_record 5 = .ok (.if_icmp .ge 14, 3) := by decide +kernel
theorem dX1_record_8 : decode cX1_record 8 = .ok (.aload_n 0, 1) := by decide +kernel
theorem dX1_record_9 : decode cX1_record 9 = .ok (.dup, 1) := by decide +kernel
theorem dX1_record_10 : decode cX1_record 10 = .ok (.getfield 18, 3) := by decide +kernel
theorem dX1_record_13 : decode cX1_record 13 = .ok (.iconst 1, 1) := by decide +kernel
theorem dX1_record_14 : decode cX1_record 14 = .ok (.iadd, 1) := by decide +kernel
theorem dX1_record_15 : decode cX1_record 15 = .ok (.putfield 18, 3) := by decide +kernel
theorem dX1_record_18 : decode cX1_record 18 = .ok (.return_, 1) := by decide +kernel
theorem dX1_record_19 : decode cX1_record 19 = .ok (.aload_n 0, 1) := by decide +kernel
theorem dX1_record_20 : decode cX1_record 20 = .ok (.iconst 0, 1) := by decide +kernel
theorem dX1_record_21 : decode cX1_record 21 = .ok (.invokevirtual 22, 3) := by decide +kernel
theorem dX1_record_24 : decode cX1_record 24 = .ok (.astore_n 1, 1) := by decide +kernel
theorem dX1_record_25 : decode cX1_record 25 = .ok (.iconst 1, 1) := by decide +kernel
theorem dX1_record_26 : decode cX1_record 26 = .ok (.istore_n 2, 1) := by decide +kernel
theorem dX1_record_27 : decode cX1_record 27 = .ok (.iload_n 2, 1) := by decide +kernel
theorem dX1_record_28 : decode cX1_record 28 = .ok (.aload_n 0, 1) := by decide +kernel
theorem dX1_record_29 : decode cX1_record 29 = .ok (.getfield 11, 3) := by decide +kernel
theorem dX1_record_32 : decode cX1_record 32 = .ok (.arraylength, 1) := by decide +kernel
theorem dX1_record_33 : decode cX1_record 33 = .ok (.if_icmp .ge 23, 3) := by decide +kernel
theorem dX1_record_36 : decode cX1_record 36 = .ok (.aload_n 0, 1) := by decide +kernel
theorem dX1_record_37 : decode cX1_record 37 = .ok (.getfield 11, 3) := by decide +kernel
theorem dX1_record_40 : decode cX1_record 40 = .ok (.iload_n 2, 1) := by decide +kernel
theorem dX1_record_41 : decode cX1_record 41 = .ok (.iconst 1, 1) := by decide +kernel
theorem dX1_record_42 : decode cX1_record 42 = .ok (.isub, 1) := by decide +kernel
theorem dX1_record_43 : decode cX1_record 43 = .ok (.aload_n 0, 1) := by decide +kernel
theorem dX1_record_44 : decode cX1_record 44 = .ok (.getfield 11, 3) := by decide +kernel
theorem dX1_record_47 : decode cX1_record 47 = .ok (.iload_n 2, 1) := by decide +kernel
theorem dX1_record_48 : decode cX1_record 48 = .ok (.aaload, 1) := by decide +kernel
theorem dX1_record_49 : decode cX1_record 49 = .ok (.aastore, 1) := by decide +kernel
theorem dX1_record_50 : decode cX1_record 50 = .ok (.iinc 2 1, 3) := by decide +kernel
theorem dX1_record_53 : decode cX1_record 53 = .ok (.goto (-26), 3) := by decide +kernel
theorem dX1_record_56 : decode cX1_record 56 = .ok (.aload_n 0, 1) := by decide +kernel
theorem dX1_record_57 : decode cX1_record 57 = .ok (.getfield 11, 3) := by decide +kernel
theorem dX1_record_60 : decode cX1_record 60 = .ok (.arraylength, 1) := by decide +kernel
theorem dX1_record_61 : decode cX1_record 61 = .ok (.ifCond .le 16, 3) := by decide +kernel
theorem dX1_record_64 : decode cX1_record 64 = .ok (.aload_n 0, 1) := by decide +kernel
theorem dX1_record_65 : decode cX1_record 65 = .ok (.getfield 11, 3) := by decide +kernel
theorem dX1_record_68 : decode cX1_record 68 = .ok (.aload_n 0, 1) := by decide +kernel
theorem dX1_record_69 : decode cX1_record 69 = .ok (.getfield 11, 3) := by decide +kernel
theorem dX1_record_72 : decode cX1_record 72 = .ok (.arraylength, 1) := by decide +kernel
theorem dX1_record_73 : decode cX1_record 73 = .ok (.iconst 1, 1) := by decide +kernel
theorem dX1_record_74 : decode cX1_record 74 = .ok (.isub, 1) := by decide +kernel
theorem dX1_record_75 : decode cX1_record 75 = .ok (.aload_n 1, 1) := by decide +kernel
theorem dX1_record_76 : decode cX1_record 76 = .ok (.aastore, 1) := by decide +kernel
theorem dX1_record_77 : decode cX1_record 77 = .ok (.return_, 1) := by decide +kernel
theorem dX1_stateAt_0 : decode cX1_stateAt 0 = .ok (.iload_n 1, 1) := by decide +kernel
theorem dX1_stateAt_1 : decode cX1_stateAt 1 = .ok (.ifCond .lt 21, 3) := by decide +kernel
theorem dX1_stateAt_4 : decode cX1_stateAt 4 = .ok (.iload_n 1, 1) := by decide +kernel
theorem dX1_stateAt_5 : decode cX1_stateAt 5 = .ok (.aload_n 0, 1) := by decide +kernel
theorem dX1_stateAt_6 : decode cX1_stateAt 6 = .ok (.getfield 11, 3) := by decide +kernel
theorem dX1_stateAt_9 : decode cX1_stateAt 9 = .ok (.arraylength, 1) := by decide +kernel
theorem dX1_stateAt_10 : decode cX1_stateAt 10 = .ok (.if_icmp .ge 12, 3) := by decide +kernel
theorem dX1_stateAt_13 : decode cX1_stateAt 13 = .ok (.aload_n 0, 1) := by decide +kernel
theorem dX1_stateAt_14 : decode cX1_stateAt 14 = .ok (.getfield 11, 3) := by decide +kernel
theorem dX1_stateAt_17 : decode cX1_stateAt 17 = .ok (.iload_n 1, 1) := by decide +kernel
theorem dX1_stateAt_18 : decode cX1_stateAt 18 = .ok (.aaload, 1) := by decide +kernel
theorem dX1_stateAt_19 : decode cX1_stateAt 19 = .ok (.goto 4, 3) := by decide +kernel
theorem dX1_stateAt_22 : decode cX1_stateAt 22 = .ok (.aconst_null, 1) := by decide +kernel
theorem dX1_stateAt_23 : decode cX1_stateAt 23 = .ok (.areturn, 1) := by decide +kernel
theorem dX2_init_0 : decode cX2_init 0 = .ok (.aload_n 0, 1) := by decide +kernel
theorem dX2_init_1 : decode cX2_init 1 = .ok (.invokespecial 3, 3) := by decide +kernel
theorem dX2_init_4 : decode cX2_init 4 = .ok (.aload_n 0, 1) := by decide +kernel
theorem dX2_init_5 : decode cX2_init 5 = .ok (.aload_n 1, 1) := by decide +kernel
theorem dX2_init_6 : decode cX2_init 6 = .ok (.putfield 9, 3) := by decide +kernel
theorem dX2_init_9 : decode cX2_init 9 = .ok (.aload_n 0, 1) := by decide +kernel
theorem dX2_init_10 : decode cX2_init 10 = .ok (.aload_n 1, 1) := by decide +kernel
theorem dX2_init_11 : decode cX2_init 11 = .ok (.getfield 15, 3) := by decide +kernel
theorem dX2_init_14 : decode cX2_init 14 = .ok (.putfield 21, 3) := by decide +kernel
theorem dX2_init_17 : decode cX2_init 17 = .ok (.aload_n 0, 1) := by decide +kernel
theorem dX2_init_18 : decode cX2_init 18 = .ok (.aload_n 1, 1) := by decide +kernel
theorem dX2_init_19 : decode cX2_init 19 = .ok (.getfield 22, 3) := by decide +kernel
theorem dX2_init_22 : decode cX2_init 22 = .ok (.putfield 25, 3) := by decide +kernel
theorem dX2_init_25 : decode cX2_init 25 = .ok (.return_, 1) := by decide +kernel
theorem dX2_partOfForecast_0 : decode cX2_partOfForecast 0 = .ok (.aload_n 0, 1) := by decide +kernel
theorem dX2_partOfForecast_1 : decode cX2_partOfForecast 1 = .ok (.getfield 25, 3) := by decide +kernel
theorem dX2_partOfForecast_4 : decode cX2_partOfForecast 4 = .ok (.iload_n 1, 1) := by decide +kernel
theorem dX2_partOfForecast_5 : decode cX2_partOfForecast 5 = .ok (.invokevirtual 26, 3) := by decide +kernel
theorem dX2_partOfForecast_8 : decode cX2_partOfForecast 8 = .ok (.ifCond .eq 12, 3) := by decide +kernel
theorem dX2_partOfForecast_11 : decode cX2_partOfForecast 11 = .ok (.iload_n 2, 1) := by decide +kernel
theorem dX2_partOfForecast_12 : decode cX2_partOfForecast 12 = .ok (.iconst 0, 1) := by decide +kernel
theorem dX2_partOfForecast_13 : decode cX2_partOfForecast 13 = .ok (.iconst 2, 1) := by decide +kernel
theorem dX2_partOfForecast_14 : decode cX2_partOfForecast 14 = .ok (.invokestatic 32, 3) := by decide +kernel
theorem dX2_partOfForecast_17 : decode cX2_partOfForecast 17 = .ok (.ifCond .ne 5, 3) := by decide +kernel
theorem dX2_partOfForecast_20 : decode cX2_partOfForecast 20 = .ok (.iconst (-1), 1) := by decide +kernel
theorem dX2_partOfForecast_21 : decode cX2_partOfForecast 21 = .ok (.ireturn, 1) := by decide +kernel
theorem dX2_partOfForecast_22 : decode cX2_partOfForecast 22 = .ok (.aload_n 0, 1) := by decide +kernel
theorem dX2_partOfForecast_23 : decode cX2_partOfForecast 23 = .ok (.getfield 9, 3) := by decide +kernel
theorem dX2_partOfForecast_26 : decode cX2_partOfForecast 26 = .ok (.iload_n 1, 1) := by decide +kernel
theorem dX2_partOfForecast_27 : decode cX2_partOfForecast 27 = .ok (.invokevirtual 36, 3) := by decide +kernel
theorem dX2_partOfForecast_30 : decode cX2_partOfForecast 30 = .ok (.ifCond .ne 6, 3) := by decide +kernel
theorem dX2_partOfForecast_33 : decode cX2_partOfForecast 33 = .ok (.bipush (-9), 2) := by decide +kernel
theorem dX2_partOfForecast_35 : decode cX2_partOfForecast 35 = .ok (.ireturn, 1) := by decide +kernel
theorem dX2_partOfForecast_36 : decode cX2_partOfForecast 36 = .ok (.aload_n 0, 1) := by decide +kernel
theorem dX2_partOfForecast_37 : decode cX2_partOfForecast 37 = .ok (.getfield 9, 3) := by decide +kernel
theorem dX2_partOfForecast_40 : decode cX2_partOfForecast 40 = .ok (.iload_n 1, 1) := by decide +kernel
theorem dX2_partOfForecast_41 : decode cX2_partOfForecast 41 = .ok (.invokevirtual 39, 3) := by decide +kernel
theorem dX2_partOfForecast_44 : decode cX2_partOfForecast 44 = .ok (.istore_n 3, 1) := by decide +kernel
theorem dX2_partOfForecast_45 : decode cX2_partOfForecast 45 = .ok (.iload_n 3, 1) := by decide +kernel
theorem dX2_partOfForecast_46 : decode cX2_partOfForecast 46 = .ok (.aload_n 0, 1) := by decide +kernel
theorem dX2_partOfForecast_47 : decode cX2_partOfForecast 47 = .ok (.getfield 25, 3) := by decide +kernel
theorem dX2_partOfForecast_50 : decode cX2_partOfForecast 50 = .ok (.iload_n 1, 1) := by decide +kernel
theorem dX2_partOfForecast_51 : decode cX2_partOfForecast 51 = .ok (.iconst 1, 1) := by decide +kernel
theorem dX2_partOfForecast_52 : decode cX2_partOfForecast 52 = .ok (.invokevirtual 43, 3) := by decide +kernel
theorem dX2_partOfForecast_55 : decode cX2_partOfForecast 55 = .ok (.isub, 1) := by decide +kernel
theorem dX2_partOfForecast_56 : decode cX2_partOfForecast 56 = .ok (.istore 4, 2) := by decide +kernel
theorem dX2_partOfForecast_58 : decode cX2_partOfForecast 58 = .ok (.iload_n 2, 1) := by decide +kernel
theorem dX2_partOfForecast_59 : decode cX2_partOfForecast 59 = .ok (.lookupswitch 30 #[(0, 25), (1, 27)], 25) := by decide +kernel
theorem dX2_partOfForecast_84 : decode cX2_partOfForecast 84 = .ok (.iload_n 3, 1) := by decide +kernel
theorem dX2_partOfForecast_85 : decode cX2_partOfForecast 85 = .ok (.ireturn, 1) := by decide +kernel
theorem dX2_partOfForecast_86 : decode cX2_partOfForecast 86 = .ok (.iload 4, 2) := by decide +kernel
theorem dX2_partOfForecast_88 : decode cX2_partOfForecast 88 = .ok (.ireturn, 1) := by decide +kernel
theorem dX2_partOfForecast_89 : decode cX2_partOfForecast 89 = .ok (.aload_n 0, 1) := by decide +kernel
theorem dX2_partOfForecast_90 : decode cX2_partOfForecast 90 = .ok (.getfield 9, 3) := by decide +kernel
theorem dX2_partOfForecast_93 : decode cX2_partOfForecast 93 = .ok (.iload_n 1, 1) := by decide +kernel
theorem dX2_partOfForecast_94 : decode cX2_partOfForecast 94 = .ok (.iload 4, 2) := by decide +kernel
theorem dX2_partOfForecast_96 : decode cX2_partOfForecast 96 = .ok (.invokevirtual 47, 3) := by decide +kernel
theorem dX2_partOfForecast_99 : decode cX2_partOfForecast 99 = .ok (.ireturn, 1) := by decide +kernel
theorem dX2_earliestTime_0 : decode cX2_earliestTime 0 = .ok (.aload_n 0, 1) := by decide +kernel
theorem dX2_earliestTime_1 : decode cX2_earliestTime 1 = .ok (.getfield 21, 3) := by decide +kernel
theorem dX2_earliestTime_4 : decode cX2_earliestTime 4 = .ok (.iload_n 1, 1) := by decide +kernel
theorem dX2_earliestTime_5 : decode cX2_earliestTime 5 = .ok (.invokevirtual 26, 3) := by decide +kernel
theorem dX2_earliestTime_8 : decode cX2_earliestTime 8 = .ok (.ifCond .eq 14, 3) := by decide +kernel
theorem dX2_earliestTime_11 : decode cX2_earliestTime 11 = .ok (.iload_n 2, 1) := by decide +kernel
theorem dX2_earliestTime_12 : decode cX2_earliestTime 12 = .ok (.iconst 0, 1) := by decide +kernel
theorem dX2_earliestTime_13 : decode cX2_earliestTime 13 = .ok (.sipush 720, 3) := by decide +kernel
theorem dX2_earliestTime_16 : decode cX2_earliestTime 16 = .ok (.invokestatic 32, 3) := by decide +kernel
theorem dX2_earliestTime_19 : decode cX2_earliestTime 19 = .ok (.ifCond .ne 5, 3) := by decide +kernel
theorem dX2_earliestTime_22 : decode cX2_earliestTime 22 = .ok (.iconst (-1), 1) := by decide +kernel
theorem dX2_earliestTime_23 : decode cX2_earliestTime 23 = .ok (.ireturn, 1) := by decide +kernel
theorem dX2_earliestTime_24 : decode cX2_earliestTime 24 = .ok (.iload_n 2, 1) := by decide +kernel
theorem dX2_earliestTime_25 : decode cX2_earliestTime 25 = .ok (.aload_n 0, 1) := by decide +kernel
theorem dX2_earliestTime_26 : decode cX2_earliestTime 26 = .ok (.getfield 9, 3) := by decide +kernel
theorem dX2_earliestTime_29 : decode cX2_earliestTime 29 = .ok (.iload_n 1, 1) := by decide +kernel
theorem dX2_earliestTime_30 : decode cX2_earliestTime 30 = .ok (.invokevirtual 50, 3) := by decide +kernel
theorem dX2_earliestTime_33 : decode cX2_earliestTime 33 = .ok (.invokestatic 53, 3) := by decide +kernel
theorem dX2_earliestTime_36 : decode cX2_earliestTime 36 = .ok (.istore_n 3, 1) := by decide +kernel
theorem dX2_earliestTime_37 : decode cX2_earliestTime 37 = .ok (.aload_n 0, 1) := by decide +kernel
theorem dX2_earliestTime_38 : decode cX2_earliestTime 38 = .ok (.getfield 9, 3) := by decide +kernel
theorem dX2_earliestTime_41 : decode cX2_earliestTime 41 = .ok (.iload_n 1, 1) := by decide +kernel
theorem dX2_earliestTime_42 : decode cX2_earliestTime 42 = .ok (.iload_n 3, 1) := by decide +kernel
theorem dX2_earliestTime_43 : decode cX2_earliestTime 43 = .ok (.bipush (-9), 2) := by decide +kernel
theorem dX2_earliestTime_45 : decode cX2_earliestTime 45 = .ok (.invokevirtual 58, 3) := by decide +kernel
theorem dX2_earliestTime_48 : decode cX2_earliestTime 48 = .ok (.istore 4, 2) := by decide +kernel
theorem dX2_earliestTime_50 : decode cX2_earliestTime 50 = .ok (.iconst 0, 1) := by decide +kernel
theorem dX2_earliestTime_51 : decode cX2_earliestTime 51 = .ok (.istore 5, 2) := by decide +kernel
theorem dX2_earliestTime_53 : decode cX2_earliestTime 53 = .ok (.iload 5, 2) := by decide +kernel
theorem dX2_earliestTime_55 : decode cX2_earliestTime 55 = .ok (.bipush 16, 2) := by decide +kernel
theorem dX2_earliestTime_57 : decode cX2_earliestTime 57 = .ok (.if_icmp .ge 49, 3) := by decide +kernel
theorem dX2_earliestTime_60 : decode cX2_earliestTime 60 = .ok (.iload 4, 2) := by decide +kernel
theorem dX2_earliestTime_62 : decode cX2_earliestTime 62 = .ok (.bipush (-9), 2) := by decide +kernel
theorem dX2_earliestTime_64 : decode cX2_earliestTime 64 = .ok (.if_icmp .eq 42, 3) := by decide +kernel
theorem dX2_earliestTime_67 : decode cX2_earliestTime 67 = .ok (.aload_n 0, 1) := by decide +kernel
theorem dX2_earliestTime_68 : decode cX2_earliestTime 68 = .ok (.getfield 25, 3) := by decide +kernel
theorem dX2_earliestTime_71 : decode cX2_earliestTime 71 = .ok (.iload 4, 2) := by decide +kernel
theorem dX2_earliestTime_73 : decode cX2_earliestTime 73 = .ok (.iconst 1, 1) := by decide +kernel
theorem dX2_earliestTime_74 : decode cX2_earliestTime 74 = .ok (.invokevirtual 43, 3) := by decide +kernel
theorem dX2_earliestTime_77 : decode cX2_earliestTime 77 = .ok (.aload_n 0, 1) := by decide +kernel
theorem dX2_earliestTime_78 : decode cX2_earliestTime 78 = .ok (.getfield 9, 3) := by decide +kernel
theorem dX2_earliestTime_81 : decode cX2_earliestTime 81 = .ok (.iload_n 1, 1) := by decide +kernel
theorem dX2_earliestTime_82 : decode cX2_earliestTime 82 = .ok (.invokevirtual 62, 3) := by decide +kernel
theorem dX2_earliestTime_85 : decode cX2_earliestTime 85 = .ok (.iadd, 1) := by decide +kernel
theorem dX2_earliestTime_86 : decode cX2_earliestTime 86 = .ok (.istore_n 3, 1) := by decide +kernel
theorem dX2_earliestTime_87 : decode cX2_earliestTime 87 = .ok (.aload_n 0, 1) := by decide +kernel
theorem dX2_earliestTime_88 : decode cX2_earliestTime 88 = .ok (.getfield 9, 3) := by decide +kernel
theorem dX2_earliestTime_91 : decode cX2_earliestTime 91 = .ok (.iload_n 1, 1) := by decide +kernel
theorem dX2_earliestTime_92 : decode cX2_earliestTime 92 = .ok (.iload_n 3, 1) := by decide +kernel
theorem dX2_earliestTime_93 : decode cX2_earliestTime 93 = .ok (.bipush (-9), 2) := by decide +kernel
theorem dX2_earliestTime_95 : decode cX2_earliestTime 95 = .ok (.invokevirtual 58, 3) := by decide +kernel
theorem dX2_earliestTime_98 : decode cX2_earliestTime 98 = .ok (.istore 4, 2) := by decide +kernel
theorem dX2_earliestTime_100 : decode cX2_earliestTime 100 = .ok (.iinc 5 1, 3) := by decide +kernel
theorem dX2_earliestTime_103 : decode cX2_earliestTime 103 = .ok (.goto (-50), 3) := by decide +kernel
theorem dX2_earliestTime_106 : decode cX2_earliestTime 106 = .ok (.iload_n 3, 1) := by decide +kernel
theorem dX2_earliestTime_107 : decode cX2_earliestTime 107 = .ok (.sipush 720, 3) := by decide +kernel
theorem dX2_earliestTime_110 : decode cX2_earliestTime 110 = .ok (.if_icmp .gt 7, 3) := by decide +kernel
theorem dX2_earliestTime_113 : decode cX2_earliestTime 113 = .ok (.iload_n 3, 1) := by decide +kernel
theorem dX2_earliestTime_114 : decode cX2_earliestTime 114 = .ok (.goto 5, 3) := by decide +kernel
theorem dX2_earliestTime_117 : decode cX2_earliestTime 117 = .ok (.bipush (-9), 2) := by decide +kernel
theorem dX2_earliestTime_119 : decode cX2_earliestTime 119 = .ok (.ireturn, 1) := by decide +kernel
theorem dX2_largestPair_0 : decode cX2_largestPair 0 = .ok (.aload_n 0, 1) := by decide +kernel
theorem dX2_largestPair_1 : decode cX2_largestPair 1 = .ok (.getfield 21, 3) := by decide +kernel
theorem dX2_largestPair_4 : decode cX2_largestPair 4 = .ok (.iload_n 1, 1) := by decide +kernel
theorem dX2_largestPair_5 : decode cX2_largestPair 5 = .ok (.invokevirtual 26, 3) := by decide +kernel
theorem dX2_largestPair_8 : decode cX2_largestPair 8 = .ok (.ifCond .eq 12, 3) := by decide +kernel
theorem dX2_largestPair_11 : decode cX2_largestPair 11 = .ok (.iload_n 2, 1) := by decide +kernel
theorem dX2_largestPair_12 : decode cX2_largestPair 12 = .ok (.iconst 0, 1) := by decide +kernel
theorem dX2_largestPair_13 : decode cX2_largestPair 13 = .ok (.iconst 2, 1) := by decide +kernel
theorem dX2_largestPair_14 : decode cX2_largestPair 14 = .ok (.invokestatic 32, 3) := by decide +kernel
theorem dX2_largestPair_17 : decode cX2_largestPair 17 = .ok (.ifCond .ne 5, 3) := by decide +kernel
theorem dX2_largestPair_20 : decode cX2_largestPair 20 = .ok (.iconst (-1), 1) := by decide +kernel
theorem dX2_largestPair_21 : decode cX2_largestPair 21 = .ok (.ireturn, 1) := by decide +kernel
theorem dX2_largestPair_22 : decode cX2_largestPair 22 = .ok (.bipush (-9), 2) := by decide +kernel
theorem dX2_largestPair_24 : decode cX2_largestPair 24 = .ok (.istore_n 3, 1) := by decide +kernel
theorem dX2_largestPair_25 : decode cX2_largestPair 25 = .ok (.bipush (-9), 2) := by decide +kernel
theorem dX2_largestPair_27 : decode cX2_largestPair 27 = .ok (.istore 4, 2) := by decide +kernel
theorem dX2_largestPair_29 : decode cX2_largestPair 29 = .ok (.bipush (-9), 2) := by decide +kernel
theorem dX2_largestPair_31 : decode cX2_largestPair 31 = .ok (.istore 5, 2) := by decide +kernel
theorem dX2_largestPair_33 : decode cX2_largestPair 33 = .ok (.iconst 0, 1) := by decide +kernel
theorem dX2_largestPair_34 : decode cX2_largestPair 34 = .ok (.istore 6, 2) := by decide +kernel
theorem dX2_largestPair_36 : decode cX2_largestPair 36 = .ok (.iload 6, 2) := by decide +kernel
theorem dX2_largestPair_38 : decode cX2_largestPair 38 = .ok (.aload_n 0, 1) := by decide +kernel
theorem dX2_largestPair_39 : decode cX2_largestPair 39 = .ok (.getfield 25, 3) := by decide +kernel
theorem dX2_largestPair_42 : decode cX2_largestPair 42 = .ok (.invokevirtual 65, 3) := by decide +kernel
theorem dX2_largestPair_45 : decode cX2_largestPair 45 = .ok (.if_icmp .ge 62, 3) := by decide +kernel
theorem dX2_largestPair_48 : decode cX2_largestPair 48 = .ok (.iload 6, 2) := by decide +kernel
theorem dX2_largestPair_50 : decode cX2_largestPair 50 = .ok (.iconst 1, 1) := by decide +kernel
theorem dX2_largestPair_51 : decode cX2_largestPair 51 = .ok (.iadd, 1) := by decide +kernel
theorem dX2_largestPair_52 : decode cX2_largestPair 52 = .ok (.istore 7, 2) := by decide +kernel
theorem dX2_largestPair_54 : decode cX2_largestPair 54 = .ok (.iload 7, 2) := by decide +kernel
theorem dX2_largestPair_56 : decode cX2_largestPair 56 = .ok (.aload_n 0, 1) := by decide +kernel
theorem dX2_largestPair_57 : decode cX2_largestPair 57 = .ok (.getfield 25, 3) := by decide +kernel
theorem dX2_largestPair_60 : decode cX2_largestPair 60 = .ok (.invokevirtual 65, 3) := by decide +kernel
theorem dX2_largestPair_63 : decode cX2_largestPair 63 = .ok (.if_icmp .ge 38, 3) := by decide +kernel
theorem dX2_largestPair_66 : decode cX2_largestPair 66 = .ok (.aload_n 0, 1) := by decide +kernel
theorem dX2_largestPair_67 : decode cX2_largestPair 67 = .ok (.iload_n 1, 1) := by decide +kernel
theorem dX2_largestPair_68 : decode cX2_largestPair 68 = .ok (.iload 6, 2) := by decide +kernel
theorem dX2_largestPair_70 : decode cX2_largestPair 70 = .ok (.iload 7, 2) := by decide +kernel
theorem dX2_largestPair_72 : decode cX2_largestPair 72 = .ok (.invokevirtual 69, 3) := by decide +kernel
theorem dX2_largestPair_75 : decode cX2_largestPair 75 = .ok (.istore 8, 2) := by decide +kernel
theorem dX2_largestPair_77 : decode cX2_largestPair 77 = .ok (.iload 8, 2) := by decide +kernel
theorem dX2_largestPair_79 : decode cX2_largestPair 79 = .ok (.iload 5, 2) := by decide +kernel
theorem dX2_largestPair_81 : decode cX2_largestPair 81 = .ok (.if_icmp .le 14, 3) := by decide +kernel
theorem dX2_largestPair_84 : decode cX2_largestPair 84 = .ok (.iload 6, 2) := by decide +kernel
theorem dX2_largestPair_86 : decode cX2_largestPair 86 = .ok (.istore_n 3, 1) := by decide +kernel
theorem dX2_largestPair_87 : decode cX2_largestPair 87 = .ok (.iload 7, 2) := by decide +kernel
theorem dX2_largestPair_89 : decode cX2_largestPair 89 = .ok (.istore 4, 2) := by decide +kernel
theorem dX2_largestPair_91 : decode cX2_largestPair 91 = .ok (.iload 8, 2) := by decide +kernel
theorem dX2_largestPair_93 : decode cX2_largestPair 93 = .ok (.istore 5, 2) := by decide +kernel
theorem dX2_largestPair_95 : decode cX2_largestPair 95 = .ok (.iinc 7 1, 3) := by decide +kernel
theorem dX2_largestPair_98 : decode cX2_largestPair 98 = .ok (.goto (-44), 3) := by decide +kernel
theorem dX2_largestPair_101 : decode cX2_largestPair 101 = .ok (.iinc 6 1, 3) := by decide +kernel
theorem dX2_largestPair_104 : decode cX2_largestPair 104 = .ok (.goto (-68), 3) := by decide +kernel
theorem dX2_largestPair_107 : decode cX2_largestPair 107 = .ok (.iload_n 2, 1) := by decide +kernel
theorem dX2_largestPair_108 : decode cX2_largestPair 108 = .ok (.lookupswitch 33 #[(0, 28), (1, 30)], 28) := by decide +kernel
theorem dX2_largestPair_136 : decode cX2_largestPair 136 = .ok (.iload_n 3, 1) := by decide +kernel
theorem dX2_largestPair_137 : decode cX2_largestPair 137 = .ok (.ireturn, 1) := by decide +kernel
theorem dX2_largestPair_138 : decode cX2_largestPair 138 = .ok (.iload 4, 2) := by decide +kernel
theorem dX2_largestPair_140 : decode cX2_largestPair 140 = .ok (.ireturn, 1) := by decide +kernel
theorem dX2_largestPair_141 : decode cX2_largestPair 141 = .ok (.iload 5, 2) := by decide +kernel
theorem dX2_largestPair_143 : decode cX2_largestPair 143 = .ok (.ireturn, 1) := by decide +kernel
theorem dX2_playersTogether_0 : decode cX2_playersTogether 0 = .ok (.aload_n 0, 1) := by decide +kernel
theorem dX2_playersTogether_1 : decode cX2_playersTogether 1 = .ok (.getfield 25, 3) := by decide +kernel
theorem dX2_playersTogether_4 : decode cX2_playersTogether 4 = .ok (.iload_n 2, 1) := by decide +kernel
theorem dX2_playersTogether_5 : decode cX2_playersTogether 5 = .ok (.iconst 0, 1) := by decide +kernel
theorem dX2_playersTogether_6 : decode cX2_playersTogether 6 = .ok (.invokevirtual 43, 3) := by decide +kernel
theorem dX2_playersTogether_9 : decode cX2_playersTogether 9 = .ok (.iload_n 1, 1) := by decide +kernel
theorem dX2_playersTogether_10 : decode cX2_playersTogether 10 = .ok (.if_icmp .ne 38, 3) := by decide +kernel
theorem dX2_playersTogether_13 : decode cX2_playersTogether 13 = .ok (.aload_n 0, 1) := by decide +kernel
theorem dX2_playersTogether_14 : decode cX2_playersTogether 14 = .ok (.getfield 25, 3) := by decide +kernel
theorem dX2_playersTogether_17 : decode cX2_playersTogether 17 = .ok (.iload_n 3, 1) := by decide +kernel
theorem dX2_playersTogether_18 : decode cX2_playersTogether 18 = .ok (.iconst 0, 1) := by decide +kernel
theorem dX2_playersTogether_19 : decode cX2_playersTogether 19 = .ok (.invokevirtual 43, 3) := by decide +kernel
theorem dX2_playersTogether_22 : decode cX2_playersTogether 22 = .ok (.iload_n 1, 1) := by decide +kernel
theorem dX2_playersTogether_23 : decode cX2_playersTogether 23 = .ok (.if_icmp .ne 25, 3) := by decide +kernel
theorem dX2_playersTogether_26 : decode cX2_playersTogether 26 = .ok (.aload_n 0, 1) := by decide +kernel
theorem dX2_playersTogether_27 : decode cX2_playersTogether 27 = .ok (.getfield 9, 3) := by decide +kernel
theorem dX2_playersTogether_30 : decode cX2_playersTogether 30 = .ok (.iload_n 2, 1) := by decide +kernel
theorem dX2_playersTogether_31 : decode cX2_playersTogether 31 = .ok (.invokevirtual 36, 3) := by decide +kernel
theorem dX2_playersTogether_34 : decode cX2_playersTogether 34 = .ok (.ifCond .eq 14, 3) := by decide +kernel
theorem dX2_playersTogether_37 : decode cX2_playersTogether 37 = .ok (.aload_n 0, 1) := by decide +kernel
theorem dX2_playersTogether_38 : decode cX2_playersTogether 38 = .ok (.getfield 9, 3) := by decide +kernel
theorem dX2_playersTogether_41 : decode cX2_playersTogether 41 = .ok (.iload_n 3, 1) := by decide +kernel
theorem dX2_playersTogether_42 : decode cX2_playersTogether 42 = .ok (.invokevirtual 36, 3) := by decide +kernel
theorem dX2_playersTogether_45 : decode cX2_playersTogether 45 = .ok (.ifCond .ne 6, 3) := by decide +kernel
theorem dX2_playersTogether_48 : decode cX2_playersTogether 48 = .ok (.bipush (-9), 2) := by decide +kernel
theorem dX2_playersTogether_50 : decode cX2_playersTogether 50 = .ok (.ireturn, 1) := by decide +kernel
theorem dX2_playersTogether_51 : decode cX2_playersTogether 51 = .ok (.aload_n 0, 1) := by decide +kernel
theorem dX2_playersTogether_52 : decode cX2_playersTogether 52 = .ok (.getfield 25, 3) := by decide +kernel
theorem dX2_playersTogether_55 : decode cX2_playersTogether 55 = .ok (.iload_n 2, 1) := by decide +kernel
theorem dX2_playersTogether_56 : decode cX2_playersTogether 56 = .ok (.iconst 2, 1) := by decide +kernel
theorem dX2_playersTogether_57 : decode cX2_playersTogether 57 = .ok (.invokevirtual 43, 3) := by decide +kernel
theorem dX2_playersTogether_60 : decode cX2_playersTogether 60 = .ok (.aload_n 0, 1) := by decide +kernel
theorem dX2_playersTogether_61 : decode cX2_playersTogether 61 = .ok (.getfield 25, 3) := by decide +kernel
theorem dX2_playersTogether_64 : decode cX2_playersTogether 64 = .ok (.iload_n 3, 1) := by decide +kernel
theorem dX2_playersTogether_65 : decode cX2_playersTogether 65 = .ok (.iconst 2, 1) := by decide +kernel
theorem dX2_playersTogether_66 : decode cX2_playersTogether 66 = .ok (.invokevirtual 43, 3) := by decide +kernel
theorem dX2_playersTogether_69 : decode cX2_playersTogether 69 = .ok (.iadd, 1) := by decide +kernel
theorem dX2_playersTogether_70 : decode cX2_playersTogether 70 = .ok (.istore 4, 2) := by decide +kernel
theorem dX2_playersTogether_72 : decode cX2_playersTogether 72 = .ok (.iload 4, 2) := by decide +kernel
theorem dX2_playersTogether_74 : decode cX2_playersTogether 74 = .ok (.aload_n 0, 1) := by decide +kernel
theorem dX2_playersTogether_75 : decode cX2_playersTogether 75 = .ok (.getfield 21, 3) := by decide +kernel
theorem dX2_playersTogether_78 : decode cX2_playersTogether 78 = .ok (.iload_n 1, 1) := by decide +kernel
theorem dX2_playersTogether_79 : decode cX2_playersTogether 79 = .ok (.iconst 3, 1) := by decide +kernel
theorem dX2_playersTogether_80 : decode cX2_playersTogether 80 = .ok (.invokevirtual 43, 3) := by decide +kernel
theorem dX2_playersTogether_83 : decode cX2_playersTogether 83 = .ok (.if_icmp .gt 8, 3) := by decide +kernel
theorem dX2_playersTogether_86 : decode cX2_playersTogether 86 = .ok (.iload 4, 2) := by decide +kernel
theorem dX2_playersTogether_88 : decode cX2_playersTogether 88 = .ok (.goto 5, 3) := by decide +kernel
theorem dX2_playersTogether_91 : decode cX2_playersTogether 91 = .ok (.bipush (-9), 2) := by decide +kernel
theorem dX2_playersTogether_93 : decode cX2_playersTogether 93 = .ok (.ireturn, 1) := by decide +kernel
theorem dX2_delayLeft_0 : decode cX2_delayLeft 0 = .ok (.aload_n 0, 1) := by decide +kernel
theorem dX2_delayLeft_1 : decode cX2_delayLeft 1 = .ok (.getfield 21, 3) := by decide +kernel
theorem dX2_delayLeft_4 : decode cX2_delayLeft 4 = .ok (.iload_n 1, 1) := by decide +kernel
theorem dX2_delayLeft_5 : decode cX2_delayLeft 5 = .ok (.invokevirtual 26, 3) := by decide +kernel
theorem dX2_delayLeft_8 : decode cX2_delayLeft 8 = .ok (.ifCond .ne 5, 3) := by decide +kernel
theorem dX2_delayLeft_11 : decode cX2_delayLeft 11 = .ok (.iconst (-1), 1) := by decide +kernel
theorem dX2_delayLeft_12 : decode cX2_delayLeft 12 = .ok (.ireturn, 1) := by decide +kernel
theorem dX2_delayLeft_13 : decode cX2_delayLeft 13 = .ok (.aload_n 0, 1) := by decide +kernel
theorem dX2_delayLeft_14 : decode cX2_delayLeft 14 = .ok (.getfield 9, 3) := by decide +kernel
theorem dX2_delayLeft_17 : decode cX2_delayLeft 17 = .ok (.iload_n 1, 1) := by decide +kernel
theorem dX2_delayLeft_18 : decode cX2_delayLeft 18 = .ok (.iconst (-1), 1) := by decide +kernel
theorem dX2_delayLeft_19 : decode cX2_delayLeft 19 = .ok (.invokevirtual 72, 3) := by decide +kernel
theorem dX2_delayLeft_22 : decode cX2_delayLeft 22 = .ok (.istore_n 2, 1) := by decide +kernel
theorem dX2_delayLeft_23 : decode cX2_delayLeft 23 = .ok (.iload_n 2, 1) := by decide +kernel
theorem dX2_delayLeft_24 : decode cX2_delayLeft 24 = .ok (.bipush (-9), 2) := by decide +kernel
theorem dX2_delayLeft_26 : decode cX2_delayLeft 26 = .ok (.if_icmp .ne 6, 3) := by decide +kernel
theorem dX2_delayLeft_29 : decode cX2_delayLeft 29 = .ok (.bipush (-9), 2) := by decide +kernel
theorem dX2_delayLeft_31 : decode cX2_delayLeft 31 = .ok (.ireturn, 1) := by decide +kernel
theorem dX2_delayLeft_32 : decode cX2_delayLeft 32 = .ok (.aload_n 0, 1) := by decide +kernel
theorem dX2_delayLeft_33 : decode cX2_delayLeft 33 = .ok (.getfield 25, 3) := by decide +kernel
theorem dX2_delayLeft_36 : decode cX2_delayLeft 36 = .ok (.iload_n 2, 1) := by decide +kernel
theorem dX2_delayLeft_37 : decode cX2_delayLeft 37 = .ok (.iconst 1, 1) := by decide +kernel
theorem dX2_delayLeft_38 : decode cX2_delayLeft 38 = .ok (.invokevirtual 43, 3) := by decide +kernel
theorem dX2_delayLeft_41 : decode cX2_delayLeft 41 = .ok (.aload_n 0, 1) := by decide +kernel
theorem dX2_delayLeft_42 : decode cX2_delayLeft 42 = .ok (.getfield 9, 3) := by decide +kernel
theorem dX2_delayLeft_45 : decode cX2_delayLeft 45 = .ok (.iconst 3, 1) := by decide +kernel
theorem dX2_delayLeft_46 : decode cX2_delayLeft 46 = .ok (.invokevirtual 75, 3) := by decide +kernel
theorem dX2_delayLeft_49 : decode cX2_delayLeft 49 = .ok (.iadd, 1) := by decide +kernel
theorem dX2_delayLeft_50 : decode cX2_delayLeft 50 = .ok (.istore_n 3, 1) := by decide +kernel
theorem dX2_delayLeft_51 : decode cX2_delayLeft 51 = .ok (.iload_n 3, 1) := by decide +kernel
theorem dX2_delayLeft_52 : decode cX2_delayLeft 52 = .ok (.aload_n 0, 1) := by decide +kernel
theorem dX2_delayLeft_53 : decode cX2_delayLeft 53 = .ok (.getfield 21, 3) := by decide +kernel
theorem dX2_delayLeft_56 : decode cX2_delayLeft 56 = .ok (.iload_n 1, 1) := by decide +kernel
theorem dX2_delayLeft_57 : decode cX2_delayLeft 57 = .ok (.iconst 4, 1) := by decide +kernel
theorem dX2_delayLeft_58 : decode cX2_delayLeft 58 = .ok (.invokevirtual 43, 3) := by decide +kernel
theorem dX2_delayLeft_61 : decode cX2_delayLeft 61 = .ok (.isub, 1) := by decide +kernel
theorem dX2_delayLeft_62 : decode cX2_delayLeft 62 = .ok (.istore 4, 2) := by decide +kernel
theorem dX2_delayLeft_64 : decode cX2_delayLeft 64 = .ok (.iload 4, 2) := by decide +kernel
theorem dX2_delayLeft_66 : decode cX2_delayLeft 66 = .ok (.ifCond .lt 14, 3) := by decide +kernel
theorem dX2_delayLeft_69 : decode cX2_delayLeft 69 = .ok (.iload 4, 2) := by decide +kernel
theorem dX2_delayLeft_71 : decode cX2_delayLeft 71 = .ok (.sipush 999, 3) := by decide +kernel
theorem dX2_delayLeft_74 : decode cX2_delayLeft 74 = .ok (.invokestatic 78, 3) := by decide +kernel
theorem dX2_delayLeft_77 : decode cX2_delayLeft 77 = .ok (.goto 5, 3) := by decide +kernel
theorem dX2_delayLeft_80 : decode cX2_delayLeft 80 = .ok (.bipush (-9), 2) := by decide +kernel
theorem dX2_delayLeft_82 : decode cX2_delayLeft 82 = .ok (.ireturn, 1) := by decide +kernel
theorem dX2_hintsLeft_0 : decode cX2_hintsLeft 0 = .ok (.aload_n 0, 1) := by decide +kernel
theorem dX2_hintsLeft_1 : decode cX2_hintsLeft 1 = .ok (.getfield 21, 3) := by decide +kernel
theorem dX2_hintsLeft_4 : decode cX2_hintsLeft 4 = .ok (.aload_n 0, 1) := by decide +kernel
theorem dX2_hintsLeft_5 : decode cX2_hintsLeft 5 = .ok (.getfield 25, 3) := by decide +kernel
theorem dX2_hintsLeft_8 : decode cX2_hintsLeft 8 = .ok (.iload_n 1, 1) := by decide +kernel
theorem dX2_hintsLeft_9 : decode cX2_hintsLeft 9 = .ok (.iconst 0, 1) := by decide +kernel
theorem dX2_hintsLeft_10 : decode cX2_hintsLeft 10 = .ok (.invokevirtual 43, 3) := by decide +kernel
theorem dX2_hintsLeft_13 : decode cX2_hintsLeft 13 = .ok (.iconst 0, 1) := by decide +kernel
theorem dX2_hintsLeft_14 : decode cX2_hintsLeft 14 = .ok (.invokevirtual 43, 3) := by decide +kernel
theorem dX2_hintsLeft_17 : decode cX2_hintsLeft 17 = .ok (.istore_n 3, 1) := by decide +kernel
theorem dX2_hintsLeft_18 : decode cX2_hintsLeft 18 = .ok (.aload_n 0, 1) := by decide +kernel
theorem dX2_hintsLeft_19 : decode cX2_hintsLeft 19 = .ok (.getfield 25, 3) := by decide +kernel
theorem dX2_hintsLeft_22 : decode cX2_hintsLeft 22 = .ok (.iload_n 1, 1) := by decide +kernel
theorem dX2_hintsLeft_23 : decode cX2_hintsLeft 23 = .ok (.invokevirtual 26, 3) := by decide +kernel
theorem dX2_hintsLeft_26 : decode cX2_hintsLeft 26 = .ok (.ifCond .eq 12, 3) := by decide +kernel
theorem dX2_hintsLeft_29 : decode cX2_hintsLeft 29 = .ok (.iload_n 2, 1) := by decide +kernel
theorem dX2_hintsLeft_30 : decode cX2_hintsLeft 30 = .ok (.iconst 1, 1) := by decide +kernel
theorem dX2_hintsLeft_31 : decode cX2_hintsLeft 31 = .ok (.iload_n 3, 1) := by decide +kernel
theorem dX2_hintsLeft_32 : decode cX2_hintsLeft 32 = .ok (.invokestatic 32, 3) := by decide +kernel
theorem dX2_hintsLeft_35 : decode cX2_hintsLeft 35 = .ok (.ifCond .ne 5, 3) := by decide +kernel
theorem dX2_hintsLeft_38 : decode cX2_hintsLeft 38 = .ok (.iconst (-1), 1) := by decide +kernel
theorem dX2_hintsLeft_39 : decode cX2_hintsLeft 39 = .ok (.ireturn, 1) := by decide +kernel
theorem dX2_hintsLeft_40 : decode cX2_hintsLeft 40 = .ok (.aload_n 0, 1) := by decide +kernel
theorem dX2_hintsLeft_41 : decode cX2_hintsLeft 41 = .ok (.getfield 9, 3) := by decide +kernel
theorem dX2_hintsLeft_44 : decode cX2_hintsLeft 44 = .ok (.iload_n 1, 1) := by decide +kernel
theorem dX2_hintsLeft_45 : decode cX2_hintsLeft 45 = .ok (.invokevirtual 36, 3) := by decide +kernel
theorem dX2_hintsLeft_48 : decode cX2_hintsLeft 48 = .ok (.ifCond .ne 6, 3) := by decide +kernel
theorem dX2_hintsLeft_51 : decode cX2_hintsLeft 51 = .ok (.bipush (-2), 2) := by decide +kernel
theorem dX2_hintsLeft_53 : decode cX2_hintsLeft 53 = .ok (.ireturn, 1) := by decide +kernel
theorem dX2_hintsLeft_54 : decode cX2_hintsLeft 54 = .ok (.aload_n 0, 1) := by decide +kernel
theorem dX2_hintsLeft_55 : decode cX2_hintsLeft 55 = .ok (.getfield 9, 3) := by decide +kernel
theorem dX2_hintsLeft_58 : decode cX2_hintsLeft 58 = .ok (.iconst 0, 1) := by decide +kernel
theorem dX2_hintsLeft_59 : decode cX2_hintsLeft 59 = .ok (.invokevirtual 75, 3) := by decide +kernel
theorem dX2_hintsLeft_62 : decode cX2_hintsLeft 62 = .ok (.istore 4, 2) := by decide +kernel
theorem dX2_hintsLeft_64 : decode cX2_hintsLeft 64 = .ok (.iload 4, 2) := by decide +kernel
theorem dX2_hintsLeft_66 : decode cX2_hintsLeft 66 = .ok (.ifCond .gt 6, 3) := by decide +kernel
theorem dX2_hintsLeft_69 : decode cX2_hintsLeft 69 = .ok (.bipush 20, 2) := by decide +kernel
theorem dX2_hintsLeft_71 : decode cX2_hintsLeft 71 = .ok (.ireturn, 1) := by decide +kernel
theorem dX2_hintsLeft_72 : decode cX2_hintsLeft 72 = .ok (.bipush 20, 2) := by decide +kernel
theorem dX2_hintsLeft_74 : decode cX2_hintsLeft 74 = .ok (.iload_n 3, 1) := by decide +kernel
theorem dX2_hintsLeft_75 : decode cX2_hintsLeft 75 = .ok (.aload_n 0, 1) := by decide +kernel
theorem dX2_hintsLeft_76 : decode cX2_hintsLeft 76 = .ok (.getfield 9, 3) := by decide +kernel
theorem dX2_hintsLeft_79 : decode cX2_hintsLeft 79 = .ok (.iconst 1, 1) := by decide +kernel
theorem dX2_hintsLeft_80 : decode cX2_hintsLeft 80 = .ok (.invokevirtual 75, 3) := by decide +kernel
theorem dX2_hintsLeft_83 : decode cX2_hintsLeft 83 = .ok (.iadd, 1) := by decide +kernel
theorem dX2_hintsLeft_84 : decode cX2_hintsLeft 84 = .ok (.iload_n 2, 1) := by decide +kernel
theorem dX2_hintsLeft_85 : decode cX2_hintsLeft 85 = .ok (.isub, 1) := by decide +kernel
theorem dX2_hintsLeft_86 : decode cX2_hintsLeft 86 = .ok (.iload 4, 2) := by decide +kernel
theorem dX2_hintsLeft_88 : decode cX2_hintsLeft 88 = .ok (.idiv, 1) := by decide +kernel
theorem dX2_hintsLeft_89 : decode cX2_hintsLeft 89 = .ok (.invokestatic 78, 3) := by decide +kernel
theorem dX2_hintsLeft_92 : decode cX2_hintsLeft 92 = .ok (.ireturn, 1) := by decide +kernel
theorem dX2_roomByUse_0 : decode cX2_roomByUse 0 = .ok (.iload_n 1, 1) := by decide +kernel
theorem dX2_roomByUse_1 : decode cX2_roomByUse 1 = .ok (.ifCond .ge 5, 3) := by decide +kernel
theorem dX2_roomByUse_4 : decode cX2_roomByUse 4 = .ok (.iconst (-1), 1) := by decide +kernel
theorem dX2_roomByUse_5 : decode cX2_roomByUse 5 = .ok (.ireturn, 1) := by decide +kernel
theorem dX2_roomByUse_6 : decode cX2_roomByUse 6 = .ok (.iconst 0, 1) := by decide +kernel
theorem dX2_roomByUse_7 : decode cX2_roomByUse 7 = .ok (.istore_n 2, 1) := by decide +kernel
theorem dX2_roomByUse_8 : decode cX2_roomByUse 8 = .ok (.iload_n 2, 1) := by decide +kernel
theorem dX2_roomByUse_9 : decode cX2_roomByUse 9 = .ok (.aload_n 0, 1) := by decide +kernel
theorem dX2_roomByUse_10 : decode cX2_roomByUse 10 = .ok (.getfield 21, 3) := by decide +kernel
theorem dX2_roomByUse_13 : decode cX2_roomByUse 13 = .ok (.invokevirtual 65, 3) := by decide +kernel
theorem dX2_roomByUse_16 : decode cX2_roomByUse 16 = .ok (.if_icmp .ge 20, 3) := by decide +kernel
theorem dX2_roomByUse_19 : decode cX2_roomByUse 19 = .ok (.aload_n 0, 1) := by decide +kernel
theorem dX2_roomByUse_20 : decode cX2_roomByUse 20 = .ok (.iload_n 2, 1) := by decide +kernel
theorem dX2_roomByUse_21 : decode cX2_roomByUse 21 = .ok (.invokevirtual 81, 3) := by decide +kernel
theorem dX2_roomByUse_24 : decode cX2_roomByUse 24 = .ok (.iload_n 1, 1) := by decide +kernel
theorem dX2_roomByUse_25 : decode cX2_roomByUse 25 = .ok (.if_icmp .ne 5, 3) := by decide +kernel
theorem dX2_roomByUse_28 : decode cX2_roomByUse 28 = .ok (.iload_n 2, 1) := by decide +kernel
theorem dX2_roomByUse_29 : decode cX2_roomByUse 29 = .ok (.ireturn, 1) := by decide +kernel
theorem dX2_roomByUse_30 : decode cX2_roomByUse 30 = .ok (.iinc 2 1, 3) := by decide +kernel
theorem dX2_roomByUse_33 : decode cX2_roomByUse 33 = .ok (.goto (-25), 3) := by decide +kernel
theorem dX2_roomByUse_36 : decode cX2_roomByUse 36 = .ok (.bipush (-9), 2) := by decide +kernel
theorem dX2_roomByUse_38 : decode cX2_roomByUse 38 = .ok (.ireturn, 1) := by decide +kernel
theorem dX2_roomsAheadOf_0 : decode cX2_roomsAheadOf 0 = .ok (.aload_n 0, 1) := by decide +kernel
theorem dX2_roomsAheadOf_1 : decode cX2_roomsAheadOf 1 = .ok (.getfield 21, 3) := by decide +kernel
theorem dX2_roomsAheadOf_4 : decode cX2_roomsAheadOf 4 = .ok (.iload_n 1, 1) := by decide +kernel
theorem dX2_roomsAheadOf_5 : decode cX2_roomsAheadOf 5 = .ok (.bipush 8, 2) := by decide +kernel
theorem dX2_roomsAheadOf_7 : decode cX2_roomsAheadOf 7 = .ok (.invokevirtual 43, 3) := by decide +kernel
theorem dX2_roomsAheadOf_10 : decode cX2_roomsAheadOf 10 = .ok (.istore_n 2, 1) := by decide +kernel
theorem dX2_roomsAheadOf_11 : decode cX2_roomsAheadOf 11 = .ok (.iconst 0, 1) := by decide +kernel
theorem dX2_roomsAheadOf_12 : decode cX2_roomsAheadOf 12 = .ok (.istore_n 3, 1) := by decide +kernel
theorem dX2_roomsAheadOf_13 : decode cX2_roomsAheadOf 13 = .ok (.iconst 0, 1) := by decide +kernel
theorem dX2_roomsAheadOf_14 : decode cX2_roomsAheadOf 14 = .ok (.istore 4, 2) := by decide +kernel
theorem dX2_roomsAheadOf_16 : decode cX2_roomsAheadOf 16 = .ok (.iload 4, 2) := by decide +kernel
theorem dX2_roomsAheadOf_18 : decode cX2_roomsAheadOf 18 = .ok (.aload_n 0, 1) := by decide +kernel
theorem dX2_roomsAheadOf_19 : decode cX2_roomsAheadOf 19 = .ok (.getfield 21, 3) := by decide +kernel
theorem dX2_roomsAheadOf_22 : decode cX2_roomsAheadOf 22 = .ok (.invokevirtual 65, 3) := by decide +kernel
theorem dX2_roomsAheadOf_25 : decode cX2_roomsAheadOf 25 = .ok (.if_icmp .ge 43, 3) := by decide +kernel
theorem dX2_roomsAheadOf_28 : decode cX2_roomsAheadOf 28 = .ok (.aload_n 0, 1) := by decide +kernel
theorem dX2_roomsAheadOf_29 : decode cX2_roomsAheadOf 29 = .ok (.getfield 21, 3) := by decide +kernel
theorem dX2_roomsAheadOf_32 : decode cX2_roomsAheadOf 32 = .ok (.iload 4, 2) := by decide +kernel
theorem dX2_roomsAheadOf_34 : decode cX2_roomsAheadOf 34 = .ok (.bipush 8, 2) := by decide +kernel
theorem dX2_roomsAheadOf_36 : decode cX2_roomsAheadOf 36 = .ok (.invokevirtual 43, 3) := by decide +kernel
theorem dX2_roomsAheadOf_39 : decode cX2_roomsAheadOf 39 = .ok (.istore 5, 2) := by decide +kernel
theorem dX2_roomsAheadOf_41 : decode cX2_roomsAheadOf 41 = .ok (.iload 5, 2) := by decide +kernel
theorem dX2_roomsAheadOf_43 : decode cX2_roomsAheadOf 43 = .ok (.iload_n 2, 1) := by decide +kernel
theorem dX2_roomsAheadOf_44 : decode cX2_roomsAheadOf 44 = .ok (.if_icmp .gt 15, 3) := by decide +kernel
theorem dX2_roomsAheadOf_47 : decode cX2_roomsAheadOf 47 = .ok (.iload 5, 2) := by decide +kernel
theorem dX2_roomsAheadOf_49 : decode cX2_roomsAheadOf 49 = .ok (.iload_n 2, 1) := by decide +kernel
theorem dX2_roomsAheadOf_50 : decode cX2_roomsAheadOf 50 = .ok (.if_icmp .ne 12, 3) := by decide +kernel
theorem dX2_roomsAheadOf_53 : decode cX2_roomsAheadOf 53 = .ok (.iload 4, 2) := by decide +kernel
theorem dX2_roomsAheadOf_55 : decode cX2_roomsAheadOf 55 = .ok (.iload_n 1, 1) := by decide +kernel
theorem dX2_roomsAheadOf_56 : decode cX2_roomsAheadOf 56 = .ok (.if_icmp .ge 6, 3) := by decide +kernel
theorem dX2_roomsAheadOf_59 : decode cX2_roomsAheadOf 59 = .ok (.iinc 3 1, 3) := by decide +kernel
theorem dX2_roomsAheadOf_62 : decode cX2_roomsAheadOf 62 = .ok (.iinc 4 1, 3) := by decide +kernel
theorem dX2_roomsAheadOf_65 : decode cX2_roomsAheadOf 65 = .ok (.goto (-49), 3) := by decide +kernel
theorem dX2_roomsAheadOf_68 : decode cX2_roomsAheadOf 68 = .ok (.iload_n 3, 1) := by decide +kernel
theorem dX2_roomsAheadOf_69 : decode cX2_roomsAheadOf 69 = .ok (.ireturn, 1) := by decide +kernel
theorem dX3_init_0 : decode cX3_init 0 = .ok (.aload_n 0, 1) := by decide +kernel
theorem dX3_init_1 : decode cX3_init 1 = .ok (.invokespecial 3, 3) := by decide +kernel
theorem dX3_init_4 : decode cX3_init 4 = .ok (.aload_n 0, 1) := by decide +kernel
theorem dX3_init_5 : decode cX3_init 5 = .ok (.sipush 140, 3) := by decide +kernel
theorem dX3_init_8 : decode cX3_init 8 = .ok (.newarray .int, 2) := by decide +kernel
theorem dX3_init_10 : decode cX3_init 10 = .ok (.putfield 9, 3) := by decide +kernel
theorem dX3_init_13 : decode cX3_init 13 = .ok (.aload_n 0, 1) := by decide +kernel
theorem dX3_init_14 : decode cX3_init 14 = .ok (.iconst 4, 1) := by decide +kernel
theorem dX3_init_15 : decode cX3_init 15 = .ok (.newarray .int, 2) := by decide +kernel
theorem dX3_init_17 : decode cX3_init 17 = .ok (.putfield 15, 3) := by decide +kernel
theorem dX3_init_20 : decode cX3_init 20 = .ok (.return_, 1) := by decide +kernel
theorem dX3_size_0 : decode cX3_size 0 = .ok (.aload_n 0, 1) := by decide +kernel
theorem dX3_size_1 : decode cX3_size 1 = .ok (.getfield 18, 3) := by decide +kernel
theorem dX3_size_4 : decode cX3_size 4 = .ok (.ireturn, 1) := by decide +kernel
theorem dX3_add_0 : decode cX3_add 0 = .ok (.iload_n 1, 1) := by decide +kernel
theorem dX3_add_1 : decode cX3_add 1 = .ok (.iconst 1, 1) := by decide +kernel
theorem dX3_add_2 : decode cX3_add 2 = .ok (.sipush 255, 3) := by decide +kernel
theorem dX3_add_5 : decode cX3_add 5 = .ok (.invokestatic 22, 3) := by decide +kernel
theorem dX3_add_8 : decode cX3_add 8 = .ok (.ifCond .ne 5, 3) := by decide +kernel
theorem dX3_add_11 : decode cX3_add 11 = .ok (.iconst (-1), 1) := by decide +kernel
theorem dX3_add_12 : decode cX3_add 12 = .ok (.ireturn, 1) := by decide +kernel
theorem dX3_add_13 : decode cX3_add 13 = .ok (.aload_n 0, 1) := by decide +kernel
theorem dX3_add_14 : decode cX3_add 14 = .ok (.getfield 18, 3) := by decide +kernel
theorem dX3_add_17 : decode cX3_add 17 = .ok (.ifCond .lt 15, 3) := by decide +kernel
theorem dX3_add_20 : decode cX3_add 20 = .ok (.aload_n 0, 1) := by decide +kernel
theorem dX3_add_21 : decode cX3_add 21 = .ok (.getfield 18, 3) := by decide +kernel
theorem dX3_add_24 : decode cX3_add 24 = .ok (.aload_n 0, 1) := by decide +kernel
theorem dX3_add_25 : decode cX3_add 25 = .ok (.getfield 9, 3) := by decide +kernel
theorem dX3_add_28 : decode cX3_add 28 = .ok (.arraylength, 1) := by decide +kernel
theorem dX3_add_29 : decode cX3_add 29 = .ok (.if_icmp .lt 6, 3) := by decide +kernel
theorem dX3_add_32 : decode cX3_add 32 = .ok (.bipush (-3), 2) := by decide +kernel
theorem dX3_add_34 : decode cX3_add 34 = .ok (.ireturn, 1) := by decide +kernel
theorem dX3_add_35 : decode cX3_add 35 = .ok (.aload_n 0, 1) := by decide +kernel
theorem dX3_add_36 : decode cX3_add 36 = .ok (.getfield 9, 3) := by decide +kernel
theorem dX3_add_39 : decode cX3_add 39 = .ok (.aload_n 0, 1) := by decide +kernel
theorem dX3_add_40 : decode cX3_add 40 = .ok (.getfield 18, 3) := by decide +kernel
theorem dX3_add_43 : decode cX3_add 43 = .ok (.iload_n 1, 1) := by decide +kernel
theorem dX3_add_44 : decode cX3_add 44 = .ok (.iastore, 1) := by decide +kernel
theorem dX3_add_45 : decode cX3_add 45 = .ok (.aload_n 0, 1) := by decide +kernel
theorem dX3_add_46 : decode cX3_add 46 = .ok (.dup, 1) := by decide +kernel
theorem dX3_add_47 : decode cX3_add 47 = .ok (.getfield 18, 3) := by decide +kernel
theorem dX3_add_50 : decode cX3_add 50 = .ok (.iconst 1, 1) := by decide +kernel
theorem dX3_add_51 : decode cX3_add 51 = .ok (.iadd, 1) := by decide +kernel
theorem dX3_add_52 : decode cX3_add 52 = .ok (.putfield 18, 3) := by decide +kernel
theorem dX3_add_55 : decode cX3_add 55 = .ok (.aload_n 0, 1) := by decide +kernel
theorem dX3_add_56 : decode cX3_add 56 = .ok (.getfield 18, 3) := by decide +kernel
theorem dX3_add_59 : decode cX3_add 59 = .ok (.ireturn, 1) := by decide +kernel
theorem dX3_empty_0 : decode cX3_empty 0 = .ok (.aload_n 0, 1) := by decide +kernel
theorem dX3_empty_1 : decode cX3_empty 1 = .ok (.getfield 18, 3) := by decide +kernel
theorem dX3_empty_4 : decode cX3_empty 4 = .ok (.istore_n 1, 1) := by decide +kernel
theorem dX3_empty_5 : decode cX3_empty 5 = .ok (.aload_n 0, 1) := by decide +kernel
theorem dX3_empty_6 : decode cX3_empty 6 = .ok (.iconst 0, 1) := by decide +kernel
theorem dX3_empty_7 : decode cX3_empty 7 = .ok (.putfield 18, 3) := by decide +kernel
theorem dX3_empty_10 : decode cX3_empty 10 = .ok (.iload_n 1, 1) := by decide +kernel
theorem dX3_empty_11 : decode cX3_empty 11 = .ok (.ireturn, 1) := by decide +kernel
theorem dX3_perform_0 : decode cX3_perform 0 = .ok (.aload_n 0, 1) := by decide +kernel
theorem dX3_perform_1 : decode cX3_perform 1 = .ok (.iconst 0, 1) := by decide +kernel
theorem dX3_perform_2 : decode cX3_perform 2 = .ok (.putfield 26, 3) := by decide +kernel
theorem dX3_perform_5 : decode cX3_perform 5 = .ok (.iconst 0, 1) := by decide +kernel
theorem dX3_perform_6 : decode cX3_perform 6 = .ok (.istore_n 2, 1) := by decide +kernel
theorem dX3_perform_7 : decode cX3_perform 7 = .ok (.iload_n 2, 1) := by decide +kernel
theorem dX3_perform_8 : decode cX3_perform 8 = .ok (.sipush 140, 3) := by decide +kernel
theorem dX3_perform_11 : decode cX3_perform 11 = .ok (.if_icmp .gt 93, 3) := by decide +kernel
theorem dX3_perform_14 : decode cX3_perform 14 = .ok (.aload_n 0, 1) := by decide +kernel
theorem dX3_perform_15 : decode cX3_perform 15 = .ok (.invokevirtual 29, 3) := by decide +kernel
theorem dX3_perform_18 : decode cX3_perform 18 = .ok (.aload_n 0, 1) := by decide +kernel
theorem dX3_perform_19 : decode cX3_perform 19 = .ok (.getfield 32, 3) := by decide +kernel
theorem dX3_perform_22 : decode cX3_perform 22 = .ok (.ifCond .ne 5, 3) := by decide +kernel
theorem dX3_perform_25 : decode cX3_perform 25 = .ok (.iload_n 2, 1) := by decide +kernel
theorem dX3_perform_26 : decode cX3_perform 26 = .ok (.ireturn, 1) := by decide +kernel
theorem dX3_perform_27 : decode cX3_perform 27 = .ok (.aload_n 0, 1) := by decide +kernel
theorem dX3_perform_28 : decode cX3_perform 28 = .ok (.getfield 35, 3) := by decide +kernel
theorem dX3_perform_31 : decode cX3_perform 31 = .ok (.istore_n 3, 1) := by decide +kernel
theorem dX3_perform_32 : decode cX3_perform 32 = .ok (.aload_n 0, 1) := by decide +kernel
theorem dX3_perform_33 : decode cX3_perform 33 = .ok (.invokevirtual 38, 3) := by decide +kernel
theorem dX3_perform_36 : decode cX3_perform 36 = .ok (.istore 4, 2) := by decide +kernel
theorem dX3_perform_38 : decode cX3_perform 38 = .ok (.iload 4, 2) := by decide +kernel
theorem dX3_perform_40 : decode cX3_perform 40 = .ok (.iconst (-1), 1) := by decide +kernel
theorem dX3_perform_41 : decode cX3_perform 41 = .ok (.if_icmp .eq 12, 3) := by decide +kernel
theorem dX3_perform_44 : decode cX3_perform 44 = .ok (.aload_n 0, 1) := by decide +kernel
theorem dX3_perform_45 : decode cX3_perform 45 = .ok (.iload 4, 2) := by decide +kernel
theorem dX3_perform_47 : decode cX3_perform 47 = .ok (.invokevirtual 42, 3) := by decide +kernel
theorem dX3_perform_50 : decode cX3_perform 50 = .ok (.ifCond .ne 12, 3) := by decide +kernel
theorem dX3_perform_53 : decode cX3_perform 53 = .ok (.sipush (-1000), 3) := by decide +kernel
theorem dX3_perform_56 : decode cX3_perform 56 = .ok (.aload_n 0, 1) := by decide +kernel
theorem dX3_perform_57 : decode cX3_perform 57 = .ok (.getfield 35, 3) := by decide +kernel
theorem dX3_perform_60 : decode cX3_perform 60 = .ok (.isub, 1) := by decide +kernel
theorem dX3_perform_61 : decode cX3_perform 61 = .ok (.ireturn, 1) := by decide +kernel
theorem dX3_perform_62 : decode cX3_perform 62 = .ok (.aload_n 0, 1) := by decide +kernel
theorem dX3_perform_63 : decode cX3_perform 63 = .ok (.invokevirtual 29, 3) := by decide +kernel
theorem dX3_perform_66 : decode cX3_perform 66 = .ok (.aload_n 0, 1) := by decide +kernel
theorem dX3_perform_67 : decode cX3_perform 67 = .ok (.invokevirtual 46, 3) := by decide +kernel
theorem dX3_perform_70 : decode cX3_perform 70 = .ok (.ifCond .ne 12, 3) := by decide +kernel
theorem dX3_perform_73 : decode cX3_perform 73 = .ok (.sipush (-1000), 3) := by decide +kernel
theorem dX3_perform_76 : decode cX3_perform 76 = .ok (.aload_n 0, 1) := by decide +kernel
theorem dX3_perform_77 : decode cX3_perform 77 = .ok (.getfield 35, 3) := by decide +kernel
theorem dX3_perform_80 : decode cX3_perform 80 = .ok (.isub, 1) := by decide +kernel
theorem dX3_perform_81 : decode cX3_perform 81 = .ok (.ireturn, 1) := by decide +kernel
theorem dX3_perform_82 : decode cX3_perform 82 = .ok (.aload_n 0, 1) := by decide +kernel
theorem dX3_perform_83 : decode cX3_perform 83 = .ok (.aload_n 1, 1) := by decide +kernel
theorem dX3_perform_84 : decode cX3_perform 84 = .ok (.iload 4, 2) := by decide +kernel
theorem dX3_perform_86 : decode cX3_perform 86 = .ok (.invokevirtual 50, 3) := by decide +kernel
theorem dX3_perform_89 : decode cX3_perform 89 = .ok (.ifCond .ge 9, 3) := by decide +kernel
theorem dX3_perform_92 : decode cX3_perform 92 = .ok (.sipush (-1000), 3) := by decide +kernel
theorem dX3_perform_95 : decode cX3_perform 95 = .ok (.iload_n 3, 1) := by decide +kernel
theorem dX3_perform_96 : decode cX3_perform 96 = .ok (.isub, 1) := by decide +kernel
theorem dX3_perform_97 : decode cX3_perform 97 = .ok (.ireturn, 1) := by decide +kernel
theorem dX3_perform_98 : decode cX3_perform 98 = .ok (.iinc 2 1, 3) := by decide +kernel
theorem dX3_perform_101 : decode cX3_perform 101 = .ok (.goto (-94), 3) := by decide +kernel
theorem dX3_perform_104 : decode cX3_perform 104 = .ok (.sipush (-1000), 3) := by decide +kernel
theorem dX3_perform_107 : decode cX3_perform 107 = .ok (.aload_n 0, 1) := by decide +kernel
theorem dX3_perform_108 : decode cX3_perform 108 = .ok (.getfield 18, 3) := by decide +kernel
theorem dX3_perform_111 : decode cX3_perform 111 = .ok (.isub, 1) := by decide +kernel
theorem dX3_perform_112 : decode cX3_perform 112 = .ok (.ireturn, 1) := by decide +kernel
theorem dX3_obey_0 : decode cX3_obey 0 = .ok (.aload_n 0, 1) := by decide +kernel
theorem dX3_obey_1 : decode cX3_obey 1 = .ok (.getfield 15, 3) := by decide +kernel
theorem dX3_obey_4 : decode cX3_obey 4 = .ok (.arraylength, 1) := by decide +kernel
theorem dX3_obey_5 : decode cX3_obey 5 = .ok (.ifCond .le 12, 3) := by decide +kernel
theorem dX3_obey_8 : decode cX3_obey 8 = .ok (.aload_n 0, 1) := by decide +kernel
theorem dX3_obey_9 : decode cX3_obey 9 = .ok (.getfield 15, 3) := by decide +kernel
theorem dX3_obey_12 : decode cX3_obey 12 = .ok (.iconst 0, 1) := by decide +kernel
theorem dX3_obey_13 : decode cX3_obey 13 = .ok (.iaload, 1) := by decide +kernel
theorem dX3_obey_14 : decode cX3_obey 14 = .ok (.goto 4, 3) := by decide +kernel
theorem dX3_obey_17 : decode cX3_obey 17 = .ok (.iconst 0, 1) := by decide +kernel
theorem dX3_obey_18 : decode cX3_obey 18 = .ok (.istore_n 3, 1) := by decide +kernel
theorem dX3_obey_19 : decode cX3_obey 19 = .ok (.aload_n 0, 1) := by decide +kernel
theorem dX3_obey_20 : decode cX3_obey 20 = .ok (.getfield 15, 3) := by decide +kernel
theorem dX3_obey_23 : decode cX3_obey 23 = .ok (.arraylength, 1) := by decide +kernel
theorem dX3_obey_24 : decode cX3_obey 24 = .ok (.iconst 1, 1) := by decide +kernel
theorem dX3_obey_25 : decode cX3_obey 25 = .ok (.if_icmp .le 12, 3) := by decide +kernel
theorem dX3_obey_28 : decode cX3_obey 28 = .ok (.aload_n 0, 1) := by decide +kernel
theorem dX3_obey_29 : decode cX3_obey 29 = .ok (.getfield 15, 3) := by decide +kernel
theorem dX3_obey_32 : decode cX3_obey 32 = .ok (.iconst 1, 1) := by decide +kernel
theorem dX3_obey_33 : decode cX3_obey 33 = .ok (.iaload, 1) := by decide +kernel
theorem dX3_obey_34 : decode cX3_obey 34 = .ok (.goto 4, 3) := by decide +kernel
theorem dX3_obey_37 : decode cX3_obey 37 = .ok (.iconst 0, 1) := by decide +kernel
theorem dX3_obey_38 : decode cX3_obey 38 = .ok (.istore 4, 2) := by decide +kernel
theorem dX3_obey_40 : decode cX3_obey 40 = .ok (.aload_n 0, 1) := by decide +kernel
theorem dX3_obey_41 : decode cX3_obey 41 = .ok (.getfield 15, 3) := by decide +kernel
theorem dX3_obey_44 : decode cX3_obey 44 = .ok (.arraylength, 1) := by decide +kernel
theorem dX3_obey_45 : decode cX3_obey 45 = .ok (.iconst 2, 1) := by decide +kernel
theorem dX3_obey_46 : decode cX3_obey 46 = .ok (.if_icmp .le 12, 3) := by decide +kernel
theorem dX3_obey_49 : decode cX3_obey 49 = .ok (.aload_n 0, 1) := by decide +kernel
theorem dX3_obey_50 : decode cX3_obey 50 = .ok (.getfield 15, 3) := by decide +kernel
theorem dX3_obey_53 : decode cX3_obey 53 = .ok (.iconst 2, 1) := by decide +kernel
theorem dX3_obey_54 : decode cX3_obey 54 = .ok (.iaload, 1) := by decide +kernel
theorem dX3_obey_55 : decode cX3_obey 55 = .ok (.goto 4, 3) := by decide +kernel
theorem dX3_obey_58 : decode cX3_obey 58 = .ok (.iconst 0, 1) := by decide +kernel
theorem dX3_obey_59 : decode cX3_obey 59 = .ok (.istore 5, 2) := by decide +kernel
theorem dX3_obey_61 : decode cX3_obey 61 = .ok (.aload_n 0, 1) := by decide +kernel
theorem dX3_obey_62 : decode cX3_obey 62 = .ok (.getfield 15, 3) := by decide +kernel
theorem dX3_obey_65 : decode cX3_obey 65 = .ok (.arraylength, 1) := by decide +kernel
theorem dX3_obey_66 : decode cX3_obey 66 = .ok (.iconst 3, 1) := by decide +kernel
theorem dX3_obey_67 : decode cX3_obey 67 = .ok (.if_icmp .le 12, 3) := by decide +kernel
theorem dX3_obey_70 : decode cX3_obey 70 = .ok (.aload_n 0, 1) := by decide +kernel
theorem dX3_obey_71 : decode cX3_obey 71 = .ok (.getfield 15, 3) := by decide +kernel
theorem dX3_obey_74 : decode cX3_obey 74 = .ok (.iconst 3, 1) := by decide +kernel
theorem dX3_obey_75 : decode cX3_obey 75 = .ok (.iaload, 1) := by decide +kernel
theorem dX3_obey_76 : decode cX3_obey 76 = .ok (.goto 4, 3) := by decide +kernel
theorem dX3_obey_79 : decode cX3_obey 79 = .ok (.iconst 0, 1) := by decide +kernel
theorem dX3_obey_80 : decode cX3_obey 80 = .ok (.istore 6, 2) := by decide +kernel
theorem dX3_obey_82 : decode cX3_obey 82 = .ok (.iload_n 2, 1) := by decide +kernel
theorem dX3_obey_83 : decode cX3_obey 83 = .ok (.tableswitch 108 0 6 #[41, 53, 59, 70, 82, 94, 100], 41) := by decide +kernel
theorem dX3_obey_124 : decode cX3_obey 124 = .ok (.aload_n 1, 1) := by decide +kernel
theorem dX3_obey_125 : decode cX3_obey 125 = .ok (.iload_n 3, 1) := by decide +kernel
theorem dX3_obey_126 : decode cX3_obey 126 = .ok (.iload 4, 2) := by decide +kernel
theorem dX3_obey_128 : decode cX3_obey 128 = .ok (.iload 5, 2) := by decide +kernel
theorem dX3_obey_130 : decode cX3_obey 130 = .ok (.iload 6, 2) := by decide +kernel
theorem dX3_obey_132 : decode cX3_obey 132 = .ok (.invokevirtual 54, 3) := by decide +kernel
theorem dX3_obey_135 : decode cX3_obey 135 = .ok (.ireturn, 1) := by decide +kernel
theorem dX3_obey_136 : decode cX3_obey 136 = .ok (.aload_n 1, 1) := by decide +kernel
theorem dX3_obey_137 : decode cX3_obey 137 = .ok (.iload_n 3, 1) := by decide +kernel
theorem dX3_obey_138 : decode cX3_obey 138 = .ok (.invokevirtual 60, 3) := by decide +kernel
theorem dX3_obey_141 : decode cX3_obey 141 = .ok (.ireturn, 1) := by decide +kernel
theorem dX3_obey_142 : decode cX3_obey 142 = .ok (.aload_n 1, 1) := by decide +kernel
theorem dX3_obey_143 : decode cX3_obey 143 = .ok (.iload_n 3, 1) := by decide +kernel
theorem dX3_obey_144 : decode cX3_obey 144 = .ok (.iload 4, 2) := by decide +kernel
theorem dX3_obey_146 : decode cX3_obey 146 = .ok (.iload 5, 2) := by decide +kernel
theorem dX3_obey_148 : decode cX3_obey 148 = .ok (.iconst (-1), 1) := by decide +kernel
theorem dX3_obey_149 : decode cX3_obey 149 = .ok (.invokevirtual 64, 3) := by decide +kernel
theorem dX3_obey_152 : decode cX3_obey 152 = .ok (.ireturn, 1) := by decide +kernel
theorem dX3_obey_153 : decode cX3_obey 153 = .ok (.aload_n 1, 1) := by decide +kernel
theorem dX3_obey_154 : decode cX3_obey 154 = .ok (.iload_n 3, 1) := by decide +kernel
theorem dX3_obey_155 : decode cX3_obey 155 = .ok (.iload 4, 2) := by decide +kernel
theorem dX3_obey_157 : decode cX3_obey 157 = .ok (.iload 5, 2) := by decide +kernel
theorem dX3_obey_159 : decode cX3_obey 159 = .ok (.iload 6, 2) := by decide +kernel
theorem dX3_obey_161 : decode cX3_obey 161 = .ok (.invokevirtual 64, 3) := by decide +kernel
theorem dX3_obey_164 : decode cX3_obey 164 = .ok (.ireturn, 1) := by decide +kernel
theorem dX3_obey_165 : decode cX3_obey 165 = .ok (.aload_n 1, 1) := by decide +kernel
theorem dX3_obey_166 : decode cX3_obey 166 = .ok (.iload_n 3, 1) := by decide +kernel
theorem dX3_obey_167 : decode cX3_obey 167 = .ok (.iload 4, 2) := by decide +kernel
theorem dX3_obey_169 : decode cX3_obey 169 = .ok (.iload 5, 2) := by decide +kernel
theorem dX3_obey_171 : decode cX3_obey 171 = .ok (.iload 6, 2) := by decide +kernel
theorem dX3_obey_173 : decode cX3_obey 173 = .ok (.invokevirtual 67, 3) := by decide +kernel
theorem dX3_obey_176 : decode cX3_obey 176 = .ok (.ireturn, 1) := by decide +kernel
theorem dX3_obey_177 : decode cX3_obey 177 = .ok (.aload_n 1, 1) := by decide +kernel
theorem dX3_obey_178 : decode cX3_obey 178 = .ok (.iload_n 3, 1) := by decide +kernel
theorem dX3_obey_179 : decode cX3_obey 179 = .ok (.invokevirtual 70, 3) := by decide +kernel
theorem dX3_obey_182 : decode cX3_obey 182 = .ok (.ireturn, 1) := by decide +kernel
theorem dX3_obey_183 : decode cX3_obey 183 = .ok (.aload_n 1, 1) := by decide +kernel
theorem dX3_obey_184 : decode cX3_obey 184 = .ok (.iload_n 3, 1) := by decide +kernel
theorem dX3_obey_185 : decode cX3_obey 185 = .ok (.iload 4, 2) := by decide +kernel
theorem dX3_obey_187 : decode cX3_obey 187 = .ok (.invokevirtual 73, 3) := by decide +kernel
theorem dX3_obey_190 : decode cX3_obey 190 = .ok (.ireturn, 1) := by decide +kernel
theorem dX3_obey_191 : decode cX3_obey 191 = .ok (.iconst (-1), 1) := by decide +kernel
theorem dX3_obey_192 : decode cX3_obey 192 = .ok (.ireturn, 1) := by decide +kernel
theorem dX3_readNumbers_0 : decode cX3_readNumbers 0 = .ok (.iload_n 1, 1) := by decide +kernel
theorem dX3_readNumbers_1 : decode cX3_readNumbers 1 = .ok (.ifCond .lt 19, 3) := by decide +kernel
theorem dX3_readNumbers_4 : decode cX3_readNumbers 4 = .ok (.iload_n 1, 1) := by decide +kernel
theorem dX3_readNumbers_5 : decode cX3_readNumbers 5 = .ok (.getstatic 77, 3) := by decide +kernel
theorem dX3_readNumbers_8 : decode cX3_readNumbers 8 = .ok (.arraylength, 1) := by decide +kernel
theorem dX3_readNumbers_9 : decode cX3_readNumbers 9 = .ok (.if_icmp .ge 11, 3) := by decide +kernel
theorem dX3_readNumbers_12 : decode cX3_readNumbers 12 = .ok (.getstatic 77, 3) := by decide +kernel
theorem dX3_readNumbers_15 : decode cX3_readNumbers 15 = .ok (.iload_n 1, 1) := by decide +kernel
theorem dX3_readNumbers_16 : decode cX3_readNumbers 16 = .ok (.iaload, 1) := by decide +kernel
theorem dX3_readNumbers_17 : decode cX3_readNumbers 17 = .ok (.goto 4, 3) := by decide +kernel
theorem dX3_readNumbers_20 : decode cX3_readNumbers 20 = .ok (.iconst 0, 1) := by decide +kernel
theorem dX3_readNumbers_21 : decode cX3_readNumbers 21 = .ok (.istore_n 2, 1) := by decide +kernel
theorem dX3_readNumbers_22 : decode cX3_readNumbers 22 = .ok (.iconst 0, 1) := by decide +kernel
theorem dX3_readNumbers_23 : decode cX3_readNumbers 23 = .ok (.istore_n 3, 1) := by decide +kernel
theorem dX3_readNumbers_24 : decode cX3_readNumbers 24 = .ok (.iload_n 3, 1) := by decide +kernel
theorem dX3_readNumbers_25 : decode cX3_readNumbers 25 = .ok (.iload_n 2, 1) := by decide +kernel
theorem dX3_readNumbers_26 : decode cX3_readNumbers 26 = .ok (.if_icmp .ge 41, 3) := by decide +kernel
theorem dX3_readNumbers_29 : decode cX3_readNumbers 29 = .ok (.iload_n 3, 1) := by decide +kernel
theorem dX3_readNumbers_30 : decode cX3_readNumbers 30 = .ok (.aload_n 0, 1) := by decide +kernel
theorem dX3_readNumbers_31 : decode cX3_readNumbers 31 = .ok (.getfield 15, 3) := by decide +kernel
theorem dX3_readNumbers_34 : decode cX3_readNumbers 34 = .ok (.arraylength, 1) := by decide +kernel
theorem dX3_readNumbers_35 : decode cX3_readNumbers 35 = .ok (.if_icmp .ge 32, 3) := by decide +kernel
theorem dX3_readNumbers_38 : decode cX3_readNumbers 38 = .ok (.aload_n 0, 1) := by decide +kernel
theorem dX3_readNumbers_39 : decode cX3_readNumbers 39 = .ok (.invokevirtual 29, 3) := by decide +kernel
theorem dX3_readNumbers_42 : decode cX3_readNumbers 42 = .ok (.aload_n 0, 1) := by decide +kernel
theorem dX3_readNumbers_43 : decode cX3_readNumbers 43 = .ok (.invokevirtual 80, 3) := by decide +kernel
theorem dX3_readNumbers_46 : decode cX3_readNumbers 46 = .ok (.ifCond .ne 5, 3) := by decide +kernel
theorem dX3_readNumbers_49 : decode cX3_readNumbers 49 = .ok (.iconst 0, 1) := by decide +kernel
theorem dX3_readNumbers_50 : decode cX3_readNumbers 50 = .ok (.ireturn, 1) := by decide +kernel
theorem dX3_readNumbers_51 : decode cX3_readNumbers 51 = .ok (.aload_n 0, 1) := by decide +kernel
theorem dX3_readNumbers_52 : decode cX3_readNumbers 52 = .ok (.getfield 15, 3) := by decide +kernel
theorem dX3_readNumbers_55 : decode cX3_readNumbers 55 = .ok (.iload_n 3, 1) := by decide +kernel
theorem dX3_readNumbers_56 : decode cX3_readNumbers 56 = .ok (.aload_n 0, 1) := by decide +kernel
theorem dX3_readNumbers_57 : decode cX3_readNumbers 57 = .ok (.invokevirtual 83, 3) := by decide +kernel
theorem dX3_readNumbers_60 : decode cX3_readNumbers 60 = .ok (.iastore, 1) := by decide +kernel
theorem dX3_readNumbers_61 : decode cX3_readNumbers 61 = .ok (.iinc 3 1, 3) := by decide +kernel
theorem dX3_readNumbers_64 : decode cX3_readNumbers 64 = .ok (.goto (-40), 3) := by decide +kernel
theorem dX3_readNumbers_67 : decode cX3_readNumbers 67 = .ok (.iconst 1, 1) := by decide +kernel
theorem dX3_readNumbers_68 : decode cX3_readNumbers 68 = .ok (.ireturn, 1) := by decide +kernel
theorem dX3_readToken_0 : decode cX3_readToken 0 = .ok (.aload_n 0, 1) := by decide +kernel
theorem dX3_readToken_1 : decode cX3_readToken 1 = .ok (.aload_n 0, 1) := by decide +kernel
theorem dX3_readToken_2 : decode cX3_readToken 2 = .ok (.getfield 26, 3) := by decide +kernel
theorem dX3_readToken_5 : decode cX3_readToken 5 = .ok (.putfield 35, 3) := by decide +kernel
theorem dX3_readToken_8 : decode cX3_readToken 8 = .ok (.aload_n 0, 1) := by decide +kernel
theorem dX3_readToken_9 : decode cX3_readToken 9 = .ok (.getfield 35, 3) := by decide +kernel
theorem dX3_readToken_12 : decode cX3_readToken 12 = .ok (.aload_n 0, 1) := by decide +kernel
theorem dX3_readToken_13 : decode cX3_readToken 13 = .ok (.getfield 18, 3) := by decide +kernel
theorem dX3_readToken_16 : decode cX3_readToken 16 = .ok (.if_icmp .ge 29, 3) := by decide +kernel
theorem dX3_readToken_19 : decode cX3_readToken 19 = .ok (.aload_n 0, 1) := by decide +kernel
theorem dX3_readToken_20 : decode cX3_readToken 20 = .ok (.aload_n 0, 1) := by decide +kernel
theorem dX3_readToken_21 : decode cX3_readToken 21 = .ok (.getfield 35, 3) := by decide +kernel
theorem dX3_readToken_24 : decode cX3_readToken 24 = .ok (.invokevirtual 86, 3) := by decide +kernel
theorem dX3_readToken_27 : decode cX3_readToken 27 = .ok (.bipush 32, 2) := by decide +kernel
theorem dX3_readToken_29 : decode cX3_readToken 29 = .ok (.if_icmp .ne 16, 3) := by decide +kernel
theorem dX3_readToken_32 : decode cX3_readToken 32 = .ok (.aload_n 0, 1) := by decide +kernel
theorem dX3_readToken_33 : decode cX3_readToken 33 = .ok (.dup, 1) := by decide +kernel
theorem dX3_readToken_34 : decode cX3_readToken 34 = .ok (.getfield 35, 3) := by decide +kernel
theorem dX3_readToken_37 : decode cX3_readToken 37 = .ok (.iconst 1, 1) := by decide +kernel
theorem dX3_readToken_38 : decode cX3_readToken 38 = .ok (.iadd, 1) := by decide +kernel
theorem dX3_readToken_39 : decode cX3_readToken 39 = .ok (.putfield 35, 3) := by decide +kernel
theorem dX3_readToken_42 : decode cX3_readToken 42 = .ok (.goto (-34), 3) := by decide +kernel
theorem dX3_readToken_45 : decode cX3_readToken 45 = .ok (.aload_n 0, 1) := by decide +kernel
theorem dX3_readToken_46 : decode cX3_readToken 46 = .ok (.aload_n 0, 1) := by decide +kernel
theorem dX3_readToken_47 : decode cX3_readToken 47 = .ok (.getfield 35, 3) := by decide +kernel
theorem dX3_readToken_50 : decode cX3_readToken 50 = .ok (.putfield 26, 3) := by decide +kernel
theorem dX3_readToken_53 : decode cX3_readToken 53 = .ok (.aload_n 0, 1) := by decide +kernel
theorem dX3_readToken_54 : decode cX3_readToken 54 = .ok (.iconst 0, 1) := by decide +kernel
theorem dX3_readToken_55 : decode cX3_readToken 55 = .ok (.putfield 32, 3) := by decide +kernel
theorem dX3_readToken_58 : decode cX3_readToken 58 = .ok (.aload_n 0, 1) := by decide +kernel
theorem dX3_readToken_59 : decode cX3_readToken 59 = .ok (.getfield 35, 3) := by decide +kernel
theorem dX3_readToken_62 : decode cX3_readToken 62 = .ok (.aload_n 0, 1) := by decide +kernel
theorem dX3_readToken_63 : decode cX3_readToken 63 = .ok (.getfield 18, 3) := by decide +kernel
theorem dX3_readToken_66 : decode cX3_readToken 66 = .ok (.if_icmp .ge 80, 3) := by decide +kernel
theorem dX3_readToken_69 : decode cX3_readToken 69 = .ok (.aload_n 0, 1) := by decide +kernel
theorem dX3_readToken_70 : decode cX3_readToken 70 = .ok (.aload_n 0, 1) := by decide +kernel
theorem dX3_readToken_71 : decode cX3_readToken 71 = .ok (.aload_n 0, 1) := by decide +kernel
theorem dX3_readToken_72 : decode cX3_readToken 72 = .ok (.aload_n 0, 1) := by decide +kernel
theorem dX3_readToken_73 : decode cX3_readToken 73 = .ok (.getfield 35, 3) := by decide +kernel
theorem dX3_readToken_76 : decode cX3_readToken 76 = .ok (.invokevirtual 86, 3) := by decide +kernel
theorem dX3_readToken_79 : decode cX3_readToken 79 = .ok (.invokevirtual 89, 3) := by decide +kernel
theorem dX3_readToken_82 : decode cX3_readToken 82 = .ok (.putfield 32, 3) := by decide +kernel
theorem dX3_readToken_85 : decode cX3_readToken 85 = .ok (.aload_n 0, 1) := by decide +kernel
theorem dX3_readToken_86 : decode cX3_readToken 86 = .ok (.aload_n 0, 1) := by decide +kernel
theorem dX3_readToken_87 : decode cX3_readToken 87 = .ok (.getfield 35, 3) := by decide +kernel
theorem dX3_readToken_90 : decode cX3_readToken 90 = .ok (.iconst 1, 1) := by decide +kernel
theorem dX3_readToken_91 : decode cX3_readToken 91 = .ok (.iadd, 1) := by decide +kernel
theorem dX3_readToken_92 : decode cX3_readToken 92 = .ok (.putfield 26, 3) := by decide +kernel
theorem dX3_readToken_95 : decode cX3_readToken 95 = .ok (.aload_n 0, 1) := by decide +kernel
theorem dX3_readToken_96 : decode cX3_readToken 96 = .ok (.getfield 26, 3) := by decide +kernel
theorem dX3_readToken_99 : decode cX3_readToken 99 = .ok (.aload_n 0, 1) := by decide +kernel
theorem dX3_readToken_100 : decode cX3_readToken 100 = .ok (.getfield 18, 3) := by decide +kernel
theorem dX3_readToken_103 : decode cX3_readToken 103 = .ok (.if_icmp .ge 43, 3) := by decide +kernel
theorem dX3_readToken_106 : decode cX3_readToken 106 = .ok (.aload_n 0, 1) := by decide +kernel
theorem dX3_readToken_107 : decode cX3_readToken 107 = .ok (.getfield 32, 3) := by decide +kernel
theorem dX3_readToken_110 : decode cX3_readToken 110 = .ok (.iconst 3, 1) := by decide +kernel
theorem dX3_readToken_111 : decode cX3_readToken 111 = .ok (.if_icmp .eq 35, 3) := by decide +kernel
theorem dX3_readToken_114 : decode cX3_readToken 114 = .ok (.aload_n 0, 1) := by decide +kernel
theorem dX3_readToken_115 : decode cX3_readToken 115 = .ok (.aload_n 0, 1) := by decide +kernel
theorem dX3_readToken_116 : decode cX3_readToken 116 = .ok (.aload_n 0, 1) := by decide +kernel
theorem dX3_readToken_117 : decode cX3_readToken 117 = .ok (.getfield 26, 3) := by decide +kernel
theorem dX3_readToken_120 : decode cX3_readToken 120 = .ok (.invokevirtual 86, 3) := by decide +kernel
theorem dX3_readToken_123 : decode cX3_readToken 123 = .ok (.invokevirtual 89, 3) := by decide +kernel
theorem dX3_readToken_126 : decode cX3_readToken 126 = .ok (.aload_n 0, 1) := by decide +kernel
