theorem dX7_paidByVouchers_29 : decode cX7_paidByVouchers 29 = .ok (.aload_n 0, 1) := by decide +kernel
theorem dX7_paidByVouchers_30 : decode cX7_paidByVouchers 30 = .ok (.getfield 26, 3) := by decide +kernel
theorem dX7_paidByVouchers_33 : decode cX7_paidByVouchers 33 = .ok (.iload_n 3, 1) := by decide +kernel
theorem dX7_paidByVouchers_34 : decode cX7_paidByVouchers 34 = .ok (.iconst 2, 1) := by decide +kernel
theorem dX7_paidByVouchers_35 : decode cX7_paidByVouchers 35 = .ok (.invokevirtual 52, 3) := by decide +kernel
theorem dX7_paidByVouchers_38 : decode cX7_paidByVouchers 38 = .ok (.iadd, 1) := by decide +kernel
theorem dX7_paidByVouchers_39 : decode cX7_paidByVouchers 39 = .ok (.istore_n 2, 1) := by decide +kernel
theorem dX7_paidByVouchers_40 : decode cX7_paidByVouchers 40 = .ok (.iinc 3 1, 3) := by decide +kernel
theorem dX7_paidByVouchers_43 : decode cX7_paidByVouchers 43 = .ok (.goto (-39), 3) := by decide +kernel
theorem dX7_paidByVouchers_46 : decode cX7_paidByVouchers 46 = .ok (.iload_n 2, 1) := by decide +kernel
theorem dX7_paidByVouchers_47 : decode cX7_paidByVouchers 47 = .ok (.ireturn, 1) := by decide +kernel
theorem dX7_paymentsLeft_0 : decode cX7_paymentsLeft 0 = .ok (.iconst 0, 1) := by decide +kernel
theorem dX7_paymentsLeft_1 : decode cX7_paymentsLeft 1 = .ok (.istore_n 2, 1) := by decide +kernel
theorem dX7_paymentsLeft_2 : decode cX7_paymentsLeft 2 = .ok (.iconst 0, 1) := by decide +kernel
theorem dX7_paymentsLeft_3 : decode cX7_paymentsLeft 3 = .ok (.istore_n 3, 1) := by decide +kernel
theorem dX7_paymentsLeft_4 : decode cX7_paymentsLeft 4 = .ok (.iload_n 3, 1) := by decide +kernel
theorem dX7_paymentsLeft_5 : decode cX7_paymentsLeft 5 = .ok (.aload_n 0, 1) := by decide +kernel
theorem dX7_paymentsLeft_6 : decode cX7_paymentsLeft 6 = .ok (.getfield 26, 3) := by decide +kernel
theorem dX7_paymentsLeft_9 : decode cX7_paymentsLeft 9 = .ok (.invokevirtual 60, 3) := by decide +kernel
theorem dX7_paymentsLeft_12 : decode cX7_paymentsLeft 12 = .ok (.if_icmp .ge 37, 3) := by decide +kernel
theorem dX7_paymentsLeft_15 : decode cX7_paymentsLeft 15 = .ok (.aload_n 0, 1) := by decide +kernel
theorem dX7_paymentsLeft_16 : decode cX7_paymentsLeft 16 = .ok (.getfield 26, 3) := by decide +kernel
theorem dX7_paymentsLeft_19 : decode cX7_paymentsLeft 19 = .ok (.iload_n 3, 1) := by decide +kernel
theorem dX7_paymentsLeft_20 : decode cX7_paymentsLeft 20 = .ok (.iconst 0, 1) := by decide +kernel
theorem dX7_paymentsLeft_21 : decode cX7_paymentsLeft 21 = .ok (.invokevirtual 52, 3) := by decide +kernel
theorem dX7_paymentsLeft_24 : decode cX7_paymentsLeft 24 = .ok (.iload_n 1, 1) := by decide +kernel
theorem dX7_paymentsLeft_25 : decode cX7_paymentsLeft 25 = .ok (.if_icmp .ne 18, 3) := by decide +kernel
theorem dX7_paymentsLeft_28 : decode cX7_paymentsLeft 28 = .ok (.aload_n 0, 1) := by decide +kernel
theorem dX7_paymentsLeft_29 : decode cX7_paymentsLeft 29 = .ok (.getfield 26, 3) := by decide +kernel
theorem dX7_paymentsLeft_32 : decode cX7_paymentsLeft 32 = .ok (.iload_n 3, 1) := by decide +kernel
theorem dX7_paymentsLeft_33 : decode cX7_paymentsLeft 33 = .ok (.iconst 2, 1) := by decide +kernel
theorem dX7_paymentsLeft_34 : decode cX7_paymentsLeft 34 = .ok (.invokevirtual 52, 3) := by decide +kernel
theorem dX7_paymentsLeft_37 : decode cX7_paymentsLeft 37 = .ok (.ifCond .le 6, 3) := by decide +kernel
theorem dX7_paymentsLeft_40 : decode cX7_paymentsLeft 40 = .ok (.iinc 2 1, 3) := by decide +kernel
theorem dX7_paymentsLeft_43 : decode cX7_paymentsLeft 43 = .ok (.iinc 3 1, 3) := by decide +kernel
theorem dX7_paymentsLeft_46 : decode cX7_paymentsLeft 46 = .ok (.goto (-42), 3) := by decide +kernel
theorem dX7_paymentsLeft_49 : decode cX7_paymentsLeft 49 = .ok (.iload_n 2, 1) := by decide +kernel
theorem dX7_paymentsLeft_50 : decode cX7_paymentsLeft 50 = .ok (.ireturn, 1) := by decide +kernel
theorem dX7_bookingsPaidWith_0 : decode cX7_bookingsPaidWith 0 = .ok (.iconst 0, 1) := by decide +kernel
theorem dX7_bookingsPaidWith_1 : decode cX7_bookingsPaidWith 1 = .ok (.istore_n 2, 1) := by decide +kernel
theorem dX7_bookingsPaidWith_2 : decode cX7_bookingsPaidWith 2 = .ok (.iconst 0, 1) := by decide +kernel
theorem dX7_bookingsPaidWith_3 : decode cX7_bookingsPaidWith 3 = .ok (.istore_n 3, 1) := by decide +kernel
theorem dX7_bookingsPaidWith_4 : decode cX7_bookingsPaidWith 4 = .ok (.iload_n 3, 1) := by decide +kernel
theorem dX7_bookingsPaidWith_5 : decode cX7_bookingsPaidWith 5 = .ok (.aload_n 0, 1) := by decide +kernel
theorem dX7_bookingsPaidWith_6 : decode cX7_bookingsPaidWith 6 = .ok (.getfield 20, 3) := by decide +kernel
theorem dX7_bookingsPaidWith_9 : decode cX7_bookingsPaidWith 9 = .ok (.invokevirtual 60, 3) := by decide +kernel
theorem dX7_bookingsPaidWith_12 : decode cX7_bookingsPaidWith 12 = .ok (.if_icmp .ge 21, 3) := by decide +kernel
theorem dX7_bookingsPaidWith_15 : decode cX7_bookingsPaidWith 15 = .ok (.aload_n 0, 1) := by decide +kernel
theorem dX7_bookingsPaidWith_16 : decode cX7_bookingsPaidWith 16 = .ok (.iload_n 3, 1) := by decide +kernel
theorem dX7_bookingsPaidWith_17 : decode cX7_bookingsPaidWith 17 = .ok (.iload_n 1, 1) := by decide +kernel
theorem dX7_bookingsPaidWith_18 : decode cX7_bookingsPaidWith 18 = .ok (.invokevirtual 91, 3) := by decide +kernel
theorem dX7_bookingsPaidWith_21 : decode cX7_bookingsPaidWith 21 = .ok (.ifCond .eq 6, 3) := by decide +kernel
theorem dX7_bookingsPaidWith_24 : decode cX7_bookingsPaidWith 24 = .ok (.iinc 2 1, 3) := by decide +kernel
theorem dX7_bookingsPaidWith_27 : decode cX7_bookingsPaidWith 27 = .ok (.iinc 3 1, 3) := by decide +kernel
theorem dX7_bookingsPaidWith_30 : decode cX7_bookingsPaidWith 30 = .ok (.goto (-26), 3) := by decide +kernel
theorem dX7_bookingsPaidWith_33 : decode cX7_bookingsPaidWith 33 = .ok (.iload_n 2, 1) := by decide +kernel
theorem dX7_bookingsPaidWith_34 : decode cX7_bookingsPaidWith 34 = .ok (.ireturn, 1) := by decide +kernel
theorem dX7_isPaidWith_0 : decode cX7_isPaidWith 0 = .ok (.iconst 0, 1) := by decide +kernel
theorem dX7_isPaidWith_1 : decode cX7_isPaidWith 1 = .ok (.istore_n 3, 1) := by decide +kernel
theorem dX7_isPaidWith_2 : decode cX7_isPaidWith 2 = .ok (.iload_n 3, 1) := by decide +kernel
theorem dX7_isPaidWith_3 : decode cX7_isPaidWith 3 = .ok (.aload_n 0, 1) := by decide +kernel
theorem dX7_isPaidWith_4 : decode cX7_isPaidWith 4 = .ok (.getfield 26, 3) := by decide +kernel
theorem dX7_isPaidWith_7 : decode cX7_isPaidWith 7 = .ok (.invokevirtual 60, 3) := by decide +kernel
theorem dX7_isPaidWith_10 : decode cX7_isPaidWith 10 = .ok (.if_icmp .ge 49, 3) := by decide +kernel
theorem dX7_isPaidWith_13 : decode cX7_isPaidWith 13 = .ok (.aload_n 0, 1) := by decide +kernel
theorem dX7_isPaidWith_14 : decode cX7_isPaidWith 14 = .ok (.getfield 26, 3) := by decide +kernel
theorem dX7_isPaidWith_17 : decode cX7_isPaidWith 17 = .ok (.iload_n 3, 1) := by decide +kernel
theorem dX7_isPaidWith_18 : decode cX7_isPaidWith 18 = .ok (.iconst 0, 1) := by decide +kernel
theorem dX7_isPaidWith_19 : decode cX7_isPaidWith 19 = .ok (.invokevirtual 52, 3) := by decide +kernel
theorem dX7_isPaidWith_22 : decode cX7_isPaidWith 22 = .ok (.iload_n 1, 1) := by decide +kernel
theorem dX7_isPaidWith_23 : decode cX7_isPaidWith 23 = .ok (.if_icmp .ne 30, 3) := by decide +kernel
theorem dX7_isPaidWith_26 : decode cX7_isPaidWith 26 = .ok (.aload_n 0, 1) := by decide +kernel
theorem dX7_isPaidWith_27 : decode cX7_isPaidWith 27 = .ok (.getfield 26, 3) := by decide +kernel
theorem dX7_isPaidWith_30 : decode cX7_isPaidWith 30 = .ok (.iload_n 3, 1) := by decide +kernel
theorem dX7_isPaidWith_31 : decode cX7_isPaidWith 31 = .ok (.iconst 1, 1) := by decide +kernel
theorem dX7_isPaidWith_32 : decode cX7_isPaidWith 32 = .ok (.invokevirtual 52, 3) := by decide +kernel
theorem dX7_isPaidWith_35 : decode cX7_isPaidWith 35 = .ok (.iload_n 2, 1) := by decide +kernel
theorem dX7_isPaidWith_36 : decode cX7_isPaidWith 36 = .ok (.if_icmp .ne 17, 3) := by decide +kernel
theorem dX7_isPaidWith_39 : decode cX7_isPaidWith 39 = .ok (.aload_n 0, 1) := by decide +kernel
theorem dX7_isPaidWith_40 : decode cX7_isPaidWith 40 = .ok (.getfield 26, 3) := by decide +kernel
theorem dX7_isPaidWith_43 : decode cX7_isPaidWith 43 = .ok (.iload_n 3, 1) := by decide +kernel
theorem dX7_isPaidWith_44 : decode cX7_isPaidWith 44 = .ok (.iconst 2, 1) := by decide +kernel
theorem dX7_isPaidWith_45 : decode cX7_isPaidWith 45 = .ok (.invokevirtual 52, 3) := by decide +kernel
theorem dX7_isPaidWith_48 : decode cX7_isPaidWith 48 = .ok (.ifCond .le 5, 3) := by decide +kernel
theorem dX7_isPaidWith_51 : decode cX7_isPaidWith 51 = .ok (.iconst 1, 1) := by decide +kernel
theorem dX7_isPaidWith_52 : decode cX7_isPaidWith 52 = .ok (.ireturn, 1) := by decide +kernel
theorem dX7_isPaidWith_53 : decode cX7_isPaidWith 53 = .ok (.iinc 3 1, 3) := by decide +kernel
theorem dX7_isPaidWith_56 : decode cX7_isPaidWith 56 = .ok (.goto (-54), 3) := by decide +kernel
theorem dX7_isPaidWith_59 : decode cX7_isPaidWith 59 = .ok (.iconst 0, 1) := by decide +kernel
theorem dX7_isPaidWith_60 : decode cX7_isPaidWith 60 = .ok (.ireturn, 1) := by decide +kernel
theorem dX7_paymentAt_0 : decode cX7_paymentAt 0 = .ok (.iconst 0, 1) := by decide +kernel
theorem dX7_paymentAt_1 : decode cX7_paymentAt 1 = .ok (.istore_n 3, 1) := by decide +kernel
theorem dX7_paymentAt_2 : decode cX7_paymentAt 2 = .ok (.iload_n 3, 1) := by decide +kernel
theorem dX7_paymentAt_3 : decode cX7_paymentAt 3 = .ok (.aload_n 0, 1) := by decide +kernel
theorem dX7_paymentAt_4 : decode cX7_paymentAt 4 = .ok (.getfield 26, 3) := by decide +kernel
theorem dX7_paymentAt_7 : decode cX7_paymentAt 7 = .ok (.invokevirtual 60, 3) := by decide +kernel
theorem dX7_paymentAt_10 : decode cX7_paymentAt 10 = .ok (.if_icmp .ge 37, 3) := by decide +kernel
theorem dX7_paymentAt_13 : decode cX7_paymentAt 13 = .ok (.aload_n 0, 1) := by decide +kernel
theorem dX7_paymentAt_14 : decode cX7_paymentAt 14 = .ok (.getfield 26, 3) := by decide +kernel
theorem dX7_paymentAt_17 : decode cX7_paymentAt 17 = .ok (.iload_n 3, 1) := by decide +kernel
theorem dX7_paymentAt_18 : decode cX7_paymentAt 18 = .ok (.iconst 0, 1) := by decide +kernel
theorem dX7_paymentAt_19 : decode cX7_paymentAt 19 = .ok (.invokevirtual 52, 3) := by decide +kernel
theorem dX7_paymentAt_22 : decode cX7_paymentAt 22 = .ok (.iload_n 1, 1) := by decide +kernel
theorem dX7_paymentAt_23 : decode cX7_paymentAt 23 = .ok (.if_icmp .ne 18, 3) := by decide +kernel
theorem dX7_paymentAt_26 : decode cX7_paymentAt 26 = .ok (.aload_n 0, 1) := by decide +kernel
theorem dX7_paymentAt_27 : decode cX7_paymentAt 27 = .ok (.getfield 26, 3) := by decide +kernel
theorem dX7_paymentAt_30 : decode cX7_paymentAt 30 = .ok (.iload_n 3, 1) := by decide +kernel
theorem dX7_paymentAt_31 : decode cX7_paymentAt 31 = .ok (.iconst 3, 1) := by decide +kernel
theorem dX7_paymentAt_32 : decode cX7_paymentAt 32 = .ok (.invokevirtual 52, 3) := by decide +kernel
theorem dX7_paymentAt_35 : decode cX7_paymentAt 35 = .ok (.iload_n 2, 1) := by decide +kernel
theorem dX7_paymentAt_36 : decode cX7_paymentAt 36 = .ok (.if_icmp .ne 5, 3) := by decide +kernel
theorem dX7_paymentAt_39 : decode cX7_paymentAt 39 = .ok (.iload_n 3, 1) := by decide +kernel
theorem dX7_paymentAt_40 : decode cX7_paymentAt 40 = .ok (.ireturn, 1) := by decide +kernel
theorem dX7_paymentAt_41 : decode cX7_paymentAt 41 = .ok (.iinc 3 1, 3) := by decide +kernel
theorem dX7_paymentAt_44 : decode cX7_paymentAt 44 = .ok (.goto (-42), 3) := by decide +kernel
theorem dX7_paymentAt_47 : decode cX7_paymentAt 47 = .ok (.bipush (-9), 2) := by decide +kernel
theorem dX7_paymentAt_49 : decode cX7_paymentAt 49 = .ok (.ireturn, 1) := by decide +kernel
theorem dX8_init_0 : decode cX8_init 0 = .ok (.aload_n 0, 1) := by decide +kernel
theorem dX8_init_1 : decode cX8_init 1 = .ok (.invokespecial 1, 3) := by decide +kernel
theorem dX8_init_4 : decode cX8_init 4 = .ok (.aload_n 0, 1) := by decide +kernel
theorem dX8_init_5 : decode cX8_init 5 = .ok (.new 7, 3) := by decide +kernel
theorem dX8_init_8 : decode cX8_init 8 = .ok (.dup, 1) := by decide +kernel
theorem dX8_init_9 : decode cX8_init 9 = .ok (.invokespecial 9, 3) := by decide +kernel
theorem dX8_init_12 : decode cX8_init 12 = .ok (.putfield 10, 3) := by decide +kernel
theorem dX8_init_15 : decode cX8_init 15 = .ok (.aload_n 0, 1) := by decide +kernel
theorem dX8_init_16 : decode cX8_init 16 = .ok (.aload_n 0, 1) := by decide +kernel
theorem dX8_init_17 : decode cX8_init 17 = .ok (.getfield 10, 3) := by decide +kernel
theorem dX8_init_20 : decode cX8_init 20 = .ok (.getfield 16, 3) := by decide +kernel
theorem dX8_init_23 : decode cX8_init 23 = .ok (.putfield 20, 3) := by decide +kernel
theorem dX8_init_26 : decode cX8_init 26 = .ok (.aload_n 0, 1) := by decide +kernel
theorem dX8_init_27 : decode cX8_init 27 = .ok (.new 21, 3) := by decide +kernel
theorem dX8_init_30 : decode cX8_init 30 = .ok (.dup, 1) := by decide +kernel
theorem dX8_init_31 : decode cX8_init 31 = .ok (.aload_n 0, 1) := by decide +kernel
theorem dX8_init_32 : decode cX8_init 32 = .ok (.getfield 20, 3) := by decide +kernel
theorem dX8_init_35 : decode cX8_init 35 = .ok (.invokespecial 23, 3) := by decide +kernel
theorem dX8_init_38 : decode cX8_init 38 = .ok (.putfield 26, 3) := by decide +kernel
theorem dX8_init_41 : decode cX8_init 41 = .ok (.aload_n 0, 1) := by decide +kernel
theorem dX8_init_42 : decode cX8_init 42 = .ok (.new 30, 3) := by decide +kernel
theorem dX8_init_45 : decode cX8_init 45 = .ok (.dup, 1) := by decide +kernel
theorem dX8_init_46 : decode cX8_init 46 = .ok (.aload_n 0, 1) := by decide +kernel
theorem dX8_init_47 : decode cX8_init 47 = .ok (.getfield 20, 3) := by decide +kernel
theorem dX8_init_50 : decode cX8_init 50 = .ok (.invokespecial 32, 3) := by decide +kernel
theorem dX8_init_53 : decode cX8_init 53 = .ok (.putfield 33, 3) := by decide +kernel
theorem dX8_init_56 : decode cX8_init 56 = .ok (.aload_n 0, 1) := by decide +kernel
theorem dX8_init_57 : decode cX8_init 57 = .ok (.new 37, 3) := by decide +kernel
theorem dX8_init_60 : decode cX8_init 60 = .ok (.dup, 1) := by decide +kernel
theorem dX8_init_61 : decode cX8_init 61 = .ok (.invokespecial 39, 3) := by decide +kernel
theorem dX8_init_64 : decode cX8_init 64 = .ok (.putfield 40, 3) := by decide +kernel
theorem dX8_init_67 : decode cX8_init 67 = .ok (.aload_n 0, 1) := by decide +kernel
theorem dX8_init_68 : decode cX8_init 68 = .ok (.new 44, 3) := by decide +kernel
theorem dX8_init_71 : decode cX8_init 71 = .ok (.dup, 1) := by decide +kernel
theorem dX8_init_72 : decode cX8_init 72 = .ok (.invokespecial 46, 3) := by decide +kernel
theorem dX8_init_75 : decode cX8_init 75 = .ok (.putfield 47, 3) := by decide +kernel
theorem dX8_init_78 : decode cX8_init 78 = .ok (.return_, 1) := by decide +kernel
theorem dX8_addRoom_0 : decode cX8_addRoom 0 = .ok (.aload_n 0, 1) := by decide +kernel
theorem dX8_addRoom_1 : decode cX8_addRoom 1 = .ok (.getfield 40, 3) := by decide +kernel
theorem dX8_addRoom_4 : decode cX8_addRoom 4 = .ok (.aload_n 0, 1) := by decide +kernel
theorem dX8_addRoom_5 : decode cX8_addRoom 5 = .ok (.getfield 10, 3) := by decide +kernel
theorem dX8_addRoom_8 : decode cX8_addRoom 8 = .ok (.invokevirtual 51, 3) := by decide +kernel
theorem dX8_addRoom_11 : decode cX8_addRoom 11 = .ok (.aload_n 0, 1) := by decide +kernel
theorem dX8_addRoom_12 : decode cX8_addRoom 12 = .ok (.getfield 40, 3) := by decide +kernel
theorem dX8_addRoom_15 : decode cX8_addRoom 15 = .ok (.aload_n 0, 1) := by decide +kernel
theorem dX8_addRoom_16 : decode cX8_addRoom 16 = .ok (.getfield 26, 3) := by decide +kernel
theorem dX8_addRoom_19 : decode cX8_addRoom 19 = .ok (.iload_n 1, 1) := by decide +kernel
theorem dX8_addRoom_20 : decode cX8_addRoom 20 = .ok (.iload_n 2, 1) := by decide +kernel
theorem dX8_addRoom_21 : decode cX8_addRoom 21 = .ok (.iload_n 3, 1) := by decide +kernel
theorem dX8_addRoom_22 : decode cX8_addRoom 22 = .ok (.iload 4, 2) := by decide +kernel
theorem dX8_addRoom_24 : decode cX8_addRoom 24 = .ok (.invokevirtual 55, 3) := by decide +kernel
theorem dX8_addRoom_27 : decode cX8_addRoom 27 = .ok (.invokevirtual 59, 3) := by decide +kernel
theorem dX8_addRoom_30 : decode cX8_addRoom 30 = .ok (.ireturn, 1) := by decide +kernel
theorem dX8_setPrice_0 : decode cX8_setPrice 0 = .ok (.aload_n 0, 1) := by decide +kernel
theorem dX8_setPrice_1 : decode cX8_setPrice 1 = .ok (.getfield 40, 3) := by decide +kernel
theorem dX8_setPrice_4 : decode cX8_setPrice 4 = .ok (.aload_n 0, 1) := by decide +kernel
theorem dX8_setPrice_5 : decode cX8_setPrice 5 = .ok (.getfield 10, 3) := by decide +kernel
theorem dX8_setPrice_8 : decode cX8_setPrice 8 = .ok (.invokevirtual 51, 3) := by decide +kernel
theorem dX8_setPrice_11 : decode cX8_setPrice 11 = .ok (.aload_n 0, 1) := by decide +kernel
theorem dX8_setPrice_12 : decode cX8_setPrice 12 = .ok (.getfield 40, 3) := by decide +kernel
theorem dX8_setPrice_15 : decode cX8_setPrice 15 = .ok (.aload_n 0, 1) := by decide +kernel
theorem dX8_setPrice_16 : decode cX8_setPrice 16 = .ok (.getfield 26, 3) := by decide +kernel
theorem dX8_setPrice_19 : decode cX8_setPrice 19 = .ok (.iload_n 1, 1) := by decide +kernel
theorem dX8_setPrice_20 : decode cX8_setPrice 20 = .ok (.iload_n 2, 1) := by decide +kernel
theorem dX8_setPrice_21 : decode cX8_setPrice 21 = .ok (.invokevirtual 63, 3) := by decide +kernel
theorem dX8_setPrice_24 : decode cX8_setPrice 24 = .ok (.invokevirtual 59, 3) := by decide +kernel
theorem dX8_setPrice_27 : decode cX8_setPrice 27 = .ok (.ireturn, 1) := by decide +kernel
theorem dX8_set_0 : decode cX8_set 0 = .ok (.aload_n 0, 1) := by decide +kernel
theorem dX8_set_1 : decode cX8_set 1 = .ok (.getfield 40, 3) := by decide +kernel
theorem dX8_set_4 : decode cX8_set 4 = .ok (.aload_n 0, 1) := by decide +kernel
theorem dX8_set_5 : decode cX8_set 5 = .ok (.getfield 10, 3) := by decide +kernel
theorem dX8_set_8 : decode cX8_set 8 = .ok (.invokevirtual 51, 3) := by decide +kernel
theorem dX8_set_11 : decode cX8_set 11 = .ok (.aload_n 0, 1) := by decide +kernel
theorem dX8_set_12 : decode cX8_set 12 = .ok (.getfield 40, 3) := by decide +kernel
theorem dX8_set_15 : decode cX8_set 15 = .ok (.aload_n 0, 1) := by decide +kernel
theorem dX8_set_16 : decode cX8_set 16 = .ok (.getfield 26, 3) := by decide +kernel
theorem dX8_set_19 : decode cX8_set 19 = .ok (.iload_n 1, 1) := by decide +kernel
theorem dX8_set_20 : decode cX8_set 20 = .ok (.iload_n 2, 1) := by decide +kernel
theorem dX8_set_21 : decode cX8_set 21 = .ok (.invokevirtual 67, 3) := by decide +kernel
theorem dX8_set_24 : decode cX8_set 24 = .ok (.invokevirtual 59, 3) := by decide +kernel
theorem dX8_set_27 : decode cX8_set 27 = .ok (.ireturn, 1) := by decide +kernel
theorem dX8_sellVoucher_0 : decode cX8_sellVoucher 0 = .ok (.aload_n 0, 1) := by decide +kernel
theorem dX8_sellVoucher_1 : decode cX8_sellVoucher 1 = .ok (.getfield 40, 3) := by decide +kernel
theorem dX8_sellVoucher_4 : decode cX8_sellVoucher 4 = .ok (.aload_n 0, 1) := by decide +kernel
theorem dX8_sellVoucher_5 : decode cX8_sellVoucher 5 = .ok (.getfield 10, 3) := by decide +kernel
theorem dX8_sellVoucher_8 : decode cX8_sellVoucher 8 = .ok (.invokevirtual 51, 3) := by decide +kernel
theorem dX8_sellVoucher_11 : decode cX8_sellVoucher 11 = .ok (.aload_n 0, 1) := by decide +kernel
theorem dX8_sellVoucher_12 : decode cX8_sellVoucher 12 = .ok (.getfield 40, 3) := by decide +kernel
theorem dX8_sellVoucher_15 : decode cX8_sellVoucher 15 = .ok (.aload_n 0, 1) := by decide +kernel
theorem dX8_sellVoucher_16 : decode cX8_sellVoucher 16 = .ok (.getfield 26, 3) := by decide +kernel
theorem dX8_sellVoucher_19 : decode cX8_sellVoucher 19 = .ok (.iload_n 1, 1) := by decide +kernel
theorem dX8_sellVoucher_20 : decode cX8_sellVoucher 20 = .ok (.invokevirtual 70, 3) := by decide +kernel
theorem dX8_sellVoucher_23 : decode cX8_sellVoucher 23 = .ok (.invokevirtual 59, 3) := by decide +kernel
theorem dX8_sellVoucher_26 : decode cX8_sellVoucher 26 = .ok (.ireturn, 1) := by decide +kernel
theorem dX8_book_0 : decode cX8_book 0 = .ok (.aload_n 0, 1) := by decide +kernel
theorem dX8_book_1 : decode cX8_book 1 = .ok (.getfield 40, 3) := by decide +kernel
theorem dX8_book_4 : decode cX8_book 4 = .ok (.aload_n 0, 1) := by decide +kernel
theorem dX8_book_5 : decode cX8_book 5 = .ok (.getfield 10, 3) := by decide +kernel
theorem dX8_book_8 : decode cX8_book 8 = .ok (.invokevirtual 51, 3) := by decide +kernel
theorem dX8_book_11 : decode cX8_book 11 = .ok (.aload_n 0, 1) := by decide +kernel
theorem dX8_book_12 : decode cX8_book 12 = .ok (.getfield 40, 3) := by decide +kernel
theorem dX8_book_15 : decode cX8_book 15 = .ok (.aload_n 0, 1) := by decide +kernel
theorem dX8_book_16 : decode cX8_book 16 = .ok (.getfield 26, 3) := by decide +kernel
theorem dX8_book_19 : decode cX8_book 19 = .ok (.iload_n 1, 1) := by decide +kernel
theorem dX8_book_20 : decode cX8_book 20 = .ok (.iload_n 2, 1) := by decide +kernel
theorem dX8_book_21 : decode cX8_book 21 = .ok (.iload_n 3, 1) := by decide +kernel
theorem dX8_book_22 : decode cX8_book 22 = .ok (.iload 4, 2) := by decide +kernel
theorem dX8_book_24 : decode cX8_book 24 = .ok (.invokevirtual 73, 3) := by decide +kernel
theorem dX8_book_27 : decode cX8_book 27 = .ok (.invokevirtual 59, 3) := by decide +kernel
theorem dX8_book_30 : decode cX8_book 30 = .ok (.ireturn, 1) := by decide +kernel
theorem dX8_move_0 : decode cX8_move 0 = .ok (.aload_n 0, 1) := by decide +kernel
theorem dX8_move_1 : decode cX8_move 1 = .ok (.getfield 40, 3) := by decide +kernel
theorem dX8_move_4 : decode cX8_move 4 = .ok (.aload_n 0, 1) := by decide +kernel
theorem dX8_move_5 : decode cX8_move 5 = .ok (.getfield 10, 3) := by decide +kernel
theorem dX8_move_8 : decode cX8_move 8 = .ok (.invokevirtual 51, 3) := by decide +kernel
theorem dX8_move_11 : decode cX8_move 11 = .ok (.aload_n 0, 1) := by decide +kernel
theorem dX8_move_12 : decode cX8_move 12 = .ok (.getfield 40, 3) := by decide +kernel
theorem dX8_move_15 : decode cX8_move 15 = .ok (.aload_n 0, 1) := by decide +kernel
theorem dX8_move_16 : decode cX8_move 16 = .ok (.getfield 26, 3) := by decide +kernel
theorem dX8_move_19 : decode cX8_move 19 = .ok (.iload_n 1, 1) := by decide +kernel
theorem dX8_move_20 : decode cX8_move 20 = .ok (.iload_n 2, 1) := by decide +kernel
theorem dX8_move_21 : decode cX8_move 21 = .ok (.invokevirtual 76, 3) := by decide +kernel
theorem dX8_move_24 : decode cX8_move 24 = .ok (.invokevirtual 59, 3) := by decide +kernel
theorem dX8_move_27 : decode cX8_move 27 = .ok (.ireturn, 1) := by decide +kernel
theorem dX8_cancel_0 : decode cX8_cancel 0 = .ok (.aload_n 0, 1) := by decide +kernel
theorem dX8_cancel_1 : decode cX8_cancel 1 = .ok (.getfield 40, 3) := by decide +kernel
theorem dX8_cancel_4 : decode cX8_cancel 4 = .ok (.aload_n 0, 1) := by decide +kernel
theorem dX8_cancel_5 : decode cX8_cancel 5 = .ok (.getfield 10, 3) := by decide +kernel
theorem dX8_cancel_8 : decode cX8_cancel 8 = .ok (.invokevirtual 51, 3) := by decide +kernel
theorem dX8_cancel_11 : decode cX8_cancel 11 = .ok (.aload_n 0, 1) := by decide +kernel
theorem dX8_cancel_12 : decode cX8_cancel 12 = .ok (.getfield 40, 3) := by decide +kernel
theorem dX8_cancel_15 : decode cX8_cancel 15 = .ok (.aload_n 0, 1) := by decide +kernel
theorem dX8_cancel_16 : decode cX8_cancel 16 = .ok (.getfield 26, 3) := by decide +kernel
theorem dX8_cancel_19 : decode cX8_cancel 19 = .ok (.iload_n 1, 1) := by decide +kernel
theorem dX8_cancel_20 : decode cX8_cancel 20 = .ok (.invokevirtual 79, 3) := by decide +kernel
theorem dX8_cancel_23 : decode cX8_cancel 23 = .ok (.invokevirtual 59, 3) := by decide +kernel
theorem dX8_cancel_26 : decode cX8_cancel 26 = .ok (.ireturn, 1) := by decide +kernel
theorem dX8_merge_0 : decode cX8_merge 0 = .ok (.aload_n 0, 1) := by decide +kernel
theorem dX8_merge_1 : decode cX8_merge 1 = .ok (.getfield 40, 3) := by decide +kernel
theorem dX8_merge_4 : decode cX8_merge 4 = .ok (.aload_n 0, 1) := by decide +kernel
theorem dX8_merge_5 : decode cX8_merge 5 = .ok (.getfield 10, 3) := by decide +kernel
theorem dX8_merge_8 : decode cX8_merge 8 = .ok (.invokevirtual 51, 3) := by decide +kernel
theorem dX8_merge_11 : decode cX8_merge 11 = .ok (.aload_n 0, 1) := by decide +kernel
theorem dX8_merge_12 : decode cX8_merge 12 = .ok (.getfield 40, 3) := by decide +kernel
theorem dX8_merge_15 : decode cX8_merge 15 = .ok (.aload_n 0, 1) := by decide +kernel
theorem dX8_merge_16 : decode cX8_merge 16 = .ok (.getfield 26, 3) := by decide +kernel
theorem dX8_merge_19 : decode cX8_merge 19 = .ok (.iload_n 1, 1) := by decide +kernel
theorem dX8_merge_20 : decode cX8_merge 20 = .ok (.iload_n 2, 1) := by decide +kernel
theorem dX8_merge_21 : decode cX8_merge 21 = .ok (.invokevirtual 82, 3) := by decide +kernel
theorem dX8_merge_24 : decode cX8_merge 24 = .ok (.invokevirtual 59, 3) := by decide +kernel
theorem dX8_merge_27 : decode cX8_merge 27 = .ok (.ireturn, 1) := by decide +kernel
theorem dX8_play_0 : decode cX8_play 0 = .ok (.aload_n 0, 1) := by decide +kernel
theorem dX8_play_1 : decode cX8_play 1 = .ok (.getfield 40, 3) := by decide +kernel
theorem dX8_play_4 : decode cX8_play 4 = .ok (.aload_n 0, 1) := by decide +kernel
theorem dX8_play_5 : decode cX8_play 5 = .ok (.getfield 10, 3) := by decide +kernel
theorem dX8_play_8 : decode cX8_play 8 = .ok (.invokevirtual 51, 3) := by decide +kernel
theorem dX8_play_11 : decode cX8_play 11 = .ok (.aload_n 0, 1) := by decide +kernel
theorem dX8_play_12 : decode cX8_play 12 = .ok (.getfield 40, 3) := by decide +kernel
theorem dX8_play_15 : decode cX8_play 15 = .ok (.aload_n 0, 1) := by decide +kernel
theorem dX8_play_16 : decode cX8_play 16 = .ok (.getfield 26, 3) := by decide +kernel
theorem dX8_play_19 : decode cX8_play 19 = .ok (.iload_n 1, 1) := by decide +kernel
theorem dX8_play_20 : decode cX8_play 20 = .ok (.iload_n 2, 1) := by decide +kernel
theorem dX8_play_21 : decode cX8_play 21 = .ok (.iload_n 3, 1) := by decide +kernel
theorem dX8_play_22 : decode cX8_play 22 = .ok (.iload 4, 2) := by decide +kernel
theorem dX8_play_24 : decode cX8_play 24 = .ok (.invokevirtual 85, 3) := by decide +kernel
theorem dX8_play_27 : decode cX8_play 27 = .ok (.invokevirtual 59, 3) := by decide +kernel
theorem dX8_play_30 : decode cX8_play 30 = .ok (.ireturn, 1) := by decide +kernel
theorem dX8_count_0 : decode cX8_count 0 = .ok (.iload_n 1, 1) := by decide +kernel
theorem dX8_count_1 : decode cX8_count 1 = .ok (.bipush 6, 2) := by decide +kernel
theorem dX8_count_3 : decode cX8_count 3 = .ok (.bipush 10, 2) := by decide +kernel
theorem dX8_count_5 : decode cX8_count 5 = .ok (.invokestatic 88, 3) := by decide +kernel
theorem dX8_count_8 : decode cX8_count 8 = .ok (.ifCond .eq 15, 3) := by decide +kernel
theorem dX8_count_11 : decode cX8_count 11 = .ok (.aload_n 0, 1) := by decide +kernel
theorem dX8_count_12 : decode cX8_count 12 = .ok (.getfield 20, 3) := by decide +kernel
theorem dX8_count_15 : decode cX8_count 15 = .ok (.iload_n 1, 1) := by decide +kernel
theorem dX8_count_16 : decode cX8_count 16 = .ok (.bipush 6, 2) := by decide +kernel
theorem dX8_count_18 : decode cX8_count 18 = .ok (.isub, 1) := by decide +kernel
theorem dX8_count_19 : decode cX8_count 19 = .ok (.invokevirtual 135, 3) := by decide +kernel
theorem dX8_count_22 : decode cX8_count 22 = .ok (.ireturn, 1) := by decide +kernel
theorem dX8_count_23 : decode cX8_count 23 = .ok (.iload_n 1, 1) := by decide +kernel
theorem dX8_count_24 : decode cX8_count 24 = .ok (.bipush 11, 2) := by decide +kernel
theorem dX8_count_26 : decode cX8_count 26 = .ok (.bipush 14, 2) := by decide +kernel
theorem dX8_count_28 : decode cX8_count 28 = .ok (.invokestatic 88, 3) := by decide +kernel
theorem dX8_count_31 : decode cX8_count 31 = .ok (.ifCond .eq 15, 3) := by decide +kernel
theorem dX8_count_34 : decode cX8_count 34 = .ok (.aload_n 0, 1) := by decide +kernel
theorem dX8_count_35 : decode cX8_count 35 = .ok (.getfield 20, 3) := by decide +kernel
theorem dX8_count_38 : decode cX8_count 38 = .ok (.iload_n 1, 1) := by decide +kernel
theorem dX8_count_39 : decode cX8_count 39 = .ok (.bipush 11, 2) := by decide +kernel
theorem dX8_count_41 : decode cX8_count 41 = .ok (.isub, 1) := by decide +kernel
theorem dX8_count_42 : decode cX8_count 42 = .ok (.invokevirtual 138, 3) := by decide +kernel
theorem dX8_count_45 : decode cX8_count 45 = .ok (.ireturn, 1) := by decide +kernel
theorem dX8_count_46 : decode cX8_count 46 = .ok (.iload_n 1, 1) := by decide +kernel
theorem dX8_count_47 : decode cX8_count 47 = .ok (.tableswitch 94 0 5 #[37, 48, 59, 70, 78, 86], 37) := by decide +kernel
theorem dX8_count_84 : decode cX8_count 84 = .ok (.aload_n 0, 1) := by decide +kernel
theorem dX8_count_85 : decode cX8_count 85 = .ok (.getfield 20, 3) := by decide +kernel
theorem dX8_count_88 : decode cX8_count 88 = .ok (.getfield 141, 3) := by decide +kernel
theorem dX8_count_91 : decode cX8_count 91 = .ok (.invokevirtual 145, 3) := by decide +kernel
theorem dX8_count_94 : decode cX8_count 94 = .ok (.ireturn, 1) := by decide +kernel
theorem dX8_count_95 : decode cX8_count 95 = .ok (.aload_n 0, 1) := by decide +kernel
theorem dX8_count_96 : decode cX8_count 96 = .ok (.getfield 20, 3) := by decide +kernel
theorem dX8_count_99 : decode cX8_count 99 = .ok (.getfield 150, 3) := by decide +kernel
theorem dX8_count_102 : decode cX8_count 102 = .ok (.invokevirtual 145, 3) := by decide +kernel
theorem dX8_count_105 : decode cX8_count 105 = .ok (.ireturn, 1) := by decide +kernel
theorem dX8_count_106 : decode cX8_count 106 = .ok (.aload_n 0, 1) := by decide +kernel
theorem dX8_count_107 : decode cX8_count 107 = .ok (.getfield 20, 3) := by decide +kernel
theorem dX8_count_110 : decode cX8_count 110 = .ok (.getfield 153, 3) := by decide +kernel
theorem dX8_count_113 : decode cX8_count 113 = .ok (.invokevirtual 145, 3) := by decide +kernel
theorem dX8_count_116 : decode cX8_count 116 = .ok (.ireturn, 1) := by decide +kernel
theorem dX8_count_117 : decode cX8_count 117 = .ok (.aload_n 0, 1) := by decide +kernel
theorem dX8_count_118 : decode cX8_count 118 = .ok (.getfield 10, 3) := by decide +kernel
theorem dX8_count_121 : decode cX8_count 121 = .ok (.invokevirtual 156, 3) := by decide +kernel
theorem dX8_count_124 : decode cX8_count 124 = .ok (.ireturn, 1) := by decide +kernel
theorem dX8_count_125 : decode cX8_count 125 = .ok (.aload_n 0, 1) := by decide +kernel
theorem dX8_count_126 : decode cX8_count 126 = .ok (.getfield 40, 3) := by decide +kernel
theorem dX8_count_129 : decode cX8_count 129 = .ok (.invokevirtual 159, 3) := by decide +kernel
theorem dX8_count_132 : decode cX8_count 132 = .ok (.ireturn, 1) := by decide +kernel
theorem dX8_count_133 : decode cX8_count 133 = .ok (.aload_n 0, 1) := by decide +kernel
theorem dX8_count_134 : decode cX8_count 134 = .ok (.getfield 47, 3) := by decide +kernel
theorem dX8_count_137 : decode cX8_count 137 = .ok (.invokevirtual 160, 3) := by decide +kernel
theorem dX8_count_140 : decode cX8_count 140 = .ok (.ireturn, 1) := by decide +kernel
theorem dX8_count_141 : decode cX8_count 141 = .ok (.iconst (-1), 1) := by decide +kernel
theorem dX8_count_142 : decode cX8_count 142 = .ok (.ireturn, 1) := by decide +kernel
theorem dX8_room_0 : decode cX8_room 0 = .ok (.aload_n 0, 1) := by decide +kernel
theorem dX8_room_1 : decode cX8_room 1 = .ok (.getfield 20, 3) := by decide +kernel
theorem dX8_room_4 : decode cX8_room 4 = .ok (.getfield 141, 3) := by decide +kernel
theorem dX8_room_7 : decode cX8_room 7 = .ok (.iload_n 1, 1) := by decide +kernel
theorem dX8_room_8 : decode cX8_room 8 = .ok (.invokevirtual 161, 3) := by decide +kernel
theorem dX8_room_11 : decode cX8_room 11 = .ok (.ifCond .eq 13, 3) := by decide +kernel
theorem dX8_room_14 : decode cX8_room 14 = .ok (.iload_n 2, 1) := by decide +kernel
theorem dX8_room_15 : decode cX8_room 15 = .ok (.iconst 0, 1) := by decide +kernel
theorem dX8_room_16 : decode cX8_room 16 = .ok (.bipush 11, 2) := by decide +kernel
theorem dX8_room_18 : decode cX8_room 18 = .ok (.invokestatic 88, 3) := by decide +kernel
theorem dX8_room_21 : decode cX8_room 21 = .ok (.ifCond .ne 5, 3) := by decide +kernel
theorem dX8_room_24 : decode cX8_room 24 = .ok (.iconst (-1), 1) := by decide +kernel
theorem dX8_room_25 : decode cX8_room 25 = .ok (.ireturn, 1) := by decide +kernel
theorem dX8_room_26 : decode cX8_room 26 = .ok (.iload_n 2, 1) := by decide +kernel
theorem dX8_room_27 : decode cX8_room 27 = .ok (.bipush 11, 2) := by decide +kernel
theorem dX8_room_29 : decode cX8_room 29 = .ok (.if_icmp .ne 15, 3) := by decide +kernel
theorem dX8_room_32 : decode cX8_room 32 = .ok (.aload_n 0, 1) := by decide +kernel
theorem dX8_room_33 : decode cX8_room 33 = .ok (.getfield 20, 3) := by decide +kernel
theorem dX8_room_36 : decode cX8_room 36 = .ok (.iload_n 1, 1) := by decide +kernel
theorem dX8_room_37 : decode cX8_room 37 = .ok (.iconst (-1), 1) := by decide +kernel
theorem dX8_room_38 : decode cX8_room 38 = .ok (.invokevirtual 165, 3) := by decide +kernel
theorem dX8_room_41 : decode cX8_room 41 = .ok (.goto 15, 3) := by decide +kernel
theorem dX8_room_44 : decode cX8_room 44 = .ok (.aload_n 0, 1) := by decide +kernel
theorem dX8_room_45 : decode cX8_room 45 = .ok (.getfield 20, 3) := by decide +kernel
theorem dX8_room_48 : decode cX8_room 48 = .ok (.getfield 141, 3) := by decide +kernel
theorem dX8_room_51 : decode cX8_room 51 = .ok (.iload_n 1, 1) := by decide +kernel
theorem dX8_room_52 : decode cX8_room 52 = .ok (.iload_n 2, 1) := by decide +kernel
theorem dX8_room_53 : decode cX8_room 53 = .ok (.invokevirtual 168, 3) := by decide +kernel
theorem dX8_room_56 : decode cX8_room 56 = .ok (.ireturn, 1) := by decide +kernel
theorem dX8_booking_0 : decode cX8_booking 0 = .ok (.aload_n 0, 1) := by decide +kernel
theorem dX8_booking_1 : decode cX8_booking 1 = .ok (.getfield 20, 3) := by decide +kernel
theorem dX8_booking_4 : decode cX8_booking 4 = .ok (.getfield 150, 3) := by decide +kernel
theorem dX8_booking_7 : decode cX8_booking 7 = .ok (.iload_n 1, 1) := by decide +kernel
theorem dX8_booking_8 : decode cX8_booking 8 = .ok (.invokevirtual 161, 3) := by decide +kernel
theorem dX8_booking_11 : decode cX8_booking 11 = .ok (.ifCond .eq 13, 3) := by decide +kernel
theorem dX8_booking_14 : decode cX8_booking 14 = .ok (.iload_n 2, 1) := by decide +kernel
theorem dX8_booking_15 : decode cX8_booking 15 = .ok (.iconst 0, 1) := by decide +kernel
theorem dX8_booking_16 : decode cX8_booking 16 = .ok (.bipush 10, 2) := by decide +kernel
theorem dX8_booking_18 : decode cX8_booking 18 = .ok (.invokestatic 88, 3) := by decide +kernel
theorem dX8_booking_21 : decode cX8_booking 21 = .ok (.ifCond .ne 5, 3) := by decide +kernel
theorem dX8_booking_24 : decode cX8_booking 24 = .ok (.iconst (-1), 1) := by decide +kernel
theorem dX8_booking_25 : decode cX8_booking 25 = .ok (.ireturn, 1) := by decide +kernel
theorem dX8_booking_26 : decode cX8_booking 26 = .ok (.iload_n 2, 1) := by decide +kernel
theorem dX8_booking_27 : decode cX8_booking 27 = .ok (.lookupswitch 43 #[(6, 25), (10, 34)], 25) := by decide +kernel
theorem dX8_booking_52 : decode cX8_booking 52 = .ok (.aload_n 0, 1) := by decide +kernel
theorem dX8_booking_53 : decode cX8_booking 53 = .ok (.getfield 20, 3) := by decide +kernel
theorem dX8_booking_56 : decode cX8_booking 56 = .ok (.iload_n 1, 1) := by decide +kernel
theorem dX8_booking_57 : decode cX8_booking 57 = .ok (.invokevirtual 171, 3) := by decide +kernel
theorem dX8_booking_60 : decode cX8_booking 60 = .ok (.ireturn, 1) := by decide +kernel
theorem dX8_booking_61 : decode cX8_booking 61 = .ok (.aload_n 0, 1) := by decide +kernel
theorem dX8_booking_62 : decode cX8_booking 62 = .ok (.getfield 20, 3) := by decide +kernel
theorem dX8_booking_65 : decode cX8_booking 65 = .ok (.iload_n 1, 1) := by decide +kernel
theorem dX8_booking_66 : decode cX8_booking 66 = .ok (.invokevirtual 174, 3) := by decide +kernel
theorem dX8_booking_69 : decode cX8_booking 69 = .ok (.ireturn, 1) := by decide +kernel
theorem dX8_booking_70 : decode cX8_booking 70 = .ok (.aload_n 0, 1) := by decide +kernel
theorem dX8_booking_71 : decode cX8_booking 71 = .ok (.getfield 20, 3) := by decide +kernel
theorem dX8_booking_74 : decode cX8_booking 74 = .ok (.getfield 150, 3) := by decide +kernel
theorem dX8_booking_77 : decode cX8_booking 77 = .ok (.iload_n 1, 1) := by decide +kernel
theorem dX8_booking_78 : decode cX8_booking 78 = .ok (.iload_n 2, 1) := by decide +kernel
theorem dX8_booking_79 : decode cX8_booking 79 = .ok (.invokevirtual 168, 3) := by decide +kernel
theorem dX8_booking_82 : decode cX8_booking 82 = .ok (.ireturn, 1) := by decide +kernel
theorem dX8_voucher_0 : decode cX8_voucher 0 = .ok (.aload_n 0, 1) := by decide +kernel
theorem dX8_voucher_1 : decode cX8_voucher 1 = .ok (.getfield 20, 3) := by decide +kernel
theorem dX8_voucher_4 : decode cX8_voucher 4 = .ok (.getfield 153, 3) := by decide +kernel
theorem dX8_voucher_7 : decode cX8_voucher 7 = .ok (.iload_n 1, 1) := by decide +kernel
theorem dX8_voucher_8 : decode cX8_voucher 8 = .ok (.invokevirtual 161, 3) := by decide +kernel
theorem dX8_voucher_11 : decode cX8_voucher 11 = .ok (.ifCond .eq 12, 3) := by decide +kernel
theorem dX8_voucher_14 : decode cX8_voucher 14 = .ok (.iload_n 2, 1) := by decide +kernel
theorem dX8_voucher_15 : decode cX8_voucher 15 = .ok (.iconst 0, 1) := by decide +kernel
theorem dX8_voucher_16 : decode cX8_voucher 16 = .ok (.iconst 2, 1) := by decide +kernel
theorem dX8_voucher_17 : decode cX8_voucher 17 = .ok (.invokestatic 88, 3) := by decide +kernel
theorem dX8_voucher_20 : decode cX8_voucher 20 = .ok (.ifCond .ne 5, 3) := by decide +kernel
theorem dX8_voucher_23 : decode cX8_voucher 23 = .ok (.iconst (-1), 1) := by decide +kernel
theorem dX8_voucher_24 : decode cX8_voucher 24 = .ok (.ireturn, 1) := by decide +kernel
theorem dX8_voucher_25 : decode cX8_voucher 25 = .ok (.iload_n 2, 1) := by decide +kernel
theorem dX8_voucher_26 : decode cX8_voucher 26 = .ok (.iconst 2, 1) := by decide +kernel
theorem dX8_voucher_27 : decode cX8_voucher 27 = .ok (.if_icmp .ne 14, 3) := by decide +kernel
theorem dX8_voucher_30 : decode cX8_voucher 30 = .ok (.aload_n 0, 1) := by decide +kernel
theorem dX8_voucher_31 : decode cX8_voucher 31 = .ok (.getfield 20, 3) := by decide +kernel
theorem dX8_voucher_34 : decode cX8_voucher 34 = .ok (.iload_n 1, 1) := by decide +kernel
theorem dX8_voucher_35 : decode cX8_voucher 35 = .ok (.invokevirtual 177, 3) := by decide +kernel
theorem dX8_voucher_38 : decode cX8_voucher 38 = .ok (.goto 15, 3) := by decide +kernel
theorem dX8_voucher_41 : decode cX8_voucher 41 = .ok (.aload_n 0, 1) := by decide +kernel
theorem dX8_voucher_42 : decode cX8_voucher 42 = .ok (.getfield 20, 3) := by decide +kernel
theorem dX8_voucher_45 : decode cX8_voucher 45 = .ok (.getfield 153, 3) := by decide +kernel
theorem dX8_voucher_48 : decode cX8_voucher 48 = .ok (.iload_n 1, 1) := by decide +kernel
theorem dX8_voucher_49 : decode cX8_voucher 49 = .ok (.iload_n 2, 1) := by decide +kernel
theorem dX8_voucher_50 : decode cX8_voucher 50 = .ok (.invokevirtual 168, 3) := by decide +kernel
theorem dX8_voucher_53 : decode cX8_voucher 53 = .ok (.ireturn, 1) := by decide +kernel
theorem dX8_money_0 : decode cX8_money 0 = .ok (.iload_n 1, 1) := by decide +kernel
theorem dX8_money_1 : decode cX8_money 1 = .ok (.tableswitch 124 0 6 #[43, 51, 63, 75, 88, 100, 112], 43) := by decide +kernel
theorem dX8_money_44 : decode cX8_money 44 = .ok (.aload_n 0, 1) := by decide +kernel
theorem dX8_money_45 : decode cX8_money 45 = .ok (.getfield 20, 3) := by decide +kernel
theorem dX8_money_48 : decode cX8_money 48 = .ok (.getfield 101, 3) := by decide +kernel
theorem dX8_money_51 : decode cX8_money 51 = .ok (.ireturn, 1) := by decide +kernel
theorem dX8_money_52 : decode cX8_money 52 = .ok (.aload_n 0, 1) := by decide +kernel
theorem dX8_money_53 : decode cX8_money 53 = .ok (.getfield 20, 3) := by decide +kernel
theorem dX8_money_56 : decode cX8_money 56 = .ok (.getfield 153, 3) := by decide +kernel
theorem dX8_money_59 : decode cX8_money 59 = .ok (.iconst 1, 1) := by decide +kernel
theorem dX8_money_60 : decode cX8_money 60 = .ok (.invokevirtual 180, 3) := by decide +kernel
theorem dX8_money_63 : decode cX8_money 63 = .ok (.ireturn, 1) := by decide +kernel
theorem dX8_money_64 : decode cX8_money 64 = .ok (.aload_n 0, 1) := by decide +kernel
theorem dX8_money_65 : decode cX8_money 65 = .ok (.getfield 20, 3) := by decide +kernel
theorem dX8_money_68 : decode cX8_money 68 = .ok (.getfield 150, 3) := by decide +kernel
theorem dX8_money_71 : decode cX8_money 71 = .ok (.iconst 4, 1) := by decide +kernel
theorem dX8_money_72 : decode cX8_money 72 = .ok (.invokevirtual 180, 3) := by decide +kernel
theorem dX8_money_75 : decode cX8_money 75 = .ok (.ireturn, 1) := by decide +kernel
theorem dX8_money_76 : decode cX8_money 76 = .ok (.aload_n 0, 1) := by decide +kernel
theorem dX8_money_77 : decode cX8_money 77 = .ok (.getfield 20, 3) := by decide +kernel
theorem dX8_money_80 : decode cX8_money 80 = .ok (.getfield 150, 3) := by decide +kernel
theorem dX8_money_83 : decode cX8_money 83 = .ok (.bipush 7, 2) := by decide +kernel
theorem dX8_money_85 : decode cX8_money 85 = .ok (.invokevirtual 180, 3) := by decide +kernel
theorem dX8_money_88 : decode cX8_money 88 = .ok (.ireturn, 1) := by decide +kernel
theorem dX8_money_89 : decode cX8_money 89 = .ok (.aload_n 0, 1) := by decide +kernel
theorem dX8_money_90 : decode cX8_money 90 = .ok (.getfield 20, 3) := by decide +kernel
theorem dX8_money_93 : decode cX8_money 93 = .ok (.getfield 150, 3) := by decide +kernel
theorem dX8_money_96 : decode cX8_money 96 = .ok (.iconst 5, 1) := by decide +kernel
theorem dX8_money_97 : decode cX8_money 97 = .ok (.invokevirtual 180, 3) := by decide +kernel
theorem dX8_money_100 : decode cX8_money 100 = .ok (.ireturn, 1) := by decide +kernel
theorem dX8_money_101 : decode cX8_money 101 = .ok (.aload_n 0, 1) := by decide +kernel
theorem dX8_money_102 : decode cX8_money 102 = .ok (.getfield 20, 3) := by decide +kernel
theorem dX8_money_105 : decode cX8_money 105 = .ok (.getfield 183, 3) := by decide +kernel
theorem dX8_money_108 : decode cX8_money 108 = .ok (.iconst 2, 1) := by decide +kernel
theorem dX8_money_109 : decode cX8_money 109 = .ok (.invokevirtual 180, 3) := by decide +kernel
theorem dX8_money_112 : decode cX8_money 112 = .ok (.ireturn, 1) := by decide +kernel
theorem dX8_money_113 : decode cX8_money 113 = .ok (.aload_n 0, 1) := by decide +kernel
theorem dX8_money_114 : decode cX8_money 114 = .ok (.getfield 20, 3) := by decide +kernel
theorem dX8_money_117 : decode cX8_money 117 = .ok (.getfield 153, 3) := by decide +kernel
theorem dX8_money_120 : decode cX8_money 120 = .ok (.iconst 0, 1) := by decide +kernel
theorem dX8_money_121 : decode cX8_money 121 = .ok (.invokevirtual 180, 3) := by decide +kernel
theorem dX8_money_124 : decode cX8_money 124 = .ok (.ireturn, 1) := by decide +kernel
theorem dX8_money_125 : decode cX8_money 125 = .ok (.iconst (-1), 1) := by decide +kernel
theorem dX8_money_126 : decode cX8_money 126 = .ok (.ireturn, 1) := by decide +kernel
theorem dX8_inRange_0 : decode cX8_inRange 0 = .ok (.iload_n 0, 1) := by decide +kernel
theorem dX8_inRange_1 : decode cX8_inRange 1 = .ok (.iload_n 1, 1) := by decide +kernel
theorem dX8_inRange_2 : decode cX8_inRange 2 = .ok (.if_icmp .lt 12, 3) := by decide +kernel
theorem dX8_inRange_5 : decode cX8_inRange 5 = .ok (.iload_n 0, 1) := by decide +kernel
theorem dX8_inRange_6 : decode cX8_inRange 6 = .ok (.iload_n 2, 1) := by decide +kernel
theorem dX8_inRange_7 : decode cX8_inRange 7 = .ok (.if_icmp .gt 7, 3) := by decide +kernel
theorem dX8_inRange_10 : decode cX8_inRange 10 = .ok (.iconst 1, 1) := by decide +kernel
theorem dX8_inRange_11 : decode cX8_inRange 11 = .ok (.goto 4, 3) := by decide +kernel
theorem dX8_inRange_14 : decode cX8_inRange 14 = .ok (.iconst 0, 1) := by decide +kernel
theorem dX8_inRange_15 : decode cX8_inRange 15 = .ok (.ireturn, 1) := by decide +kernel
theorem dJ9_abs_0f7a4_0 : decode cJ9_abs_0f7a4 0 = .ok (.iload_n 0, 1) := by decide +kernel
theorem dJ9_abs_0f7a4_1 : decode cJ9_abs_0f7a4 1 = .ok (.ifCond .ge 8, 3) := by decide +kernel
theorem dJ9_abs_0f7a4_4 : decode cJ9_abs_0f7a4 4 = .ok (.iload_n 0, 1) := by decide +kernel
theorem dJ9_abs_0f7a4_5 : decode cJ9_abs_0f7a4 5 = .ok (.ineg, 1) := by decide +kernel
theorem dJ9_abs_0f7a4_6 : decode cJ9_abs_0f7a4 6 = .ok (.goto 4, 3) := by decide +kernel
theorem dJ9_abs_0f7a4_9 : decode cJ9_abs_0f7a4 9 = .ok (.iload_n 0, 1) := by decide +kernel
theorem dJ9_abs_0f7a4_10 : decode cJ9_abs_0f7a4 10 = .ok (.ireturn, 1) := by decide +kernel
theorem dJ9_max_7cf53_0 : decode cJ9_max_7cf53 0 = .ok (.iload_n 0, 1) := by decide +kernel
theorem dJ9_max_7cf53_1 : decode cJ9_max_7cf53 1 = .ok (.iload_n 1, 1) := by decide +kernel
theorem dJ9_max_7cf53_2 : decode cJ9_max_7cf53 2 = .ok (.if_icmp .lt 7, 3) := by decide +kernel
theorem dJ9_max_7cf53_5 : decode cJ9_max_7cf53 5 = .ok (.iload_n 0, 1) := by decide +kernel
theorem dJ9_max_7cf53_6 : decode cJ9_max_7cf53 6 = .ok (.goto 4, 3) := by decide +kernel
theorem dJ9_max_7cf53_9 : decode cJ9_max_7cf53 9 = .ok (.iload_n 1, 1) := by decide +kernel
theorem dJ9_max_7cf53_10 : decode cJ9_max_7cf53 10 = .ok (.ireturn, 1) := by decide +kernel
theorem dJ9_min_7cf53_0 : decode cJ9_min_7cf53 0 = .ok (.iload_n 0, 1) := by decide +kernel
theorem dJ9_min_7cf53_1 : decode cJ9_min_7cf53 1 = .ok (.iload_n 1, 1) := by decide +kernel
theorem dJ9_min_7cf53_2 : decode cJ9_min_7cf53 2 = .ok (.if_icmp .gt 7, 3) := by decide +kernel
theorem dJ9_min_7cf53_5 : decode cJ9_min_7cf53 5 = .ok (.iload_n 0, 1) := by decide +kernel
theorem dJ9_min_7cf53_6 : decode cJ9_min_7cf53 6 = .ok (.goto 4, 3) := by decide +kernel
theorem dJ9_min_7cf53_9 : decode cJ9_min_7cf53 9 = .ok (.iload_n 1, 1) := by decide +kernel
theorem dJ9_min_7cf53_10 : decode cJ9_min_7cf53 10 = .ok (.ireturn, 1) := by decide +kernel
theorem dL_cell_0 : decode cL_cell 0 = .ok (.iload_n 1, 1) := by decide +kernel
theorem dL_cell_1 : decode cL_cell 1 = .ok (.aload_n 0, 1) := by decide +kernel
theorem dL_cell_2 : decode cL_cell 2 = .ok (.arraylength, 1) := by decide +kernel
theorem dL_cell_3 : decode cL_cell 3 = .ok (.if_icmp .ge 9, 3) := by decide +kernel
theorem dL_cell_6 : decode cL_cell 6 = .ok (.aload_n 0, 1) := by decide +kernel
theorem dL_cell_7 : decode cL_cell 7 = .ok (.iload_n 1, 1) := by decide +kernel
theorem dL_cell_8 : decode cL_cell 8 = .ok (.iaload, 1) := by decide +kernel
theorem dL_cell_9 : decode cL_cell 9 = .ok (.goto 9, 3) := by decide +kernel
theorem dL_cell_12 : decode cL_cell 12 = .ok (.ldc 7, 2) := by decide +kernel
theorem dL_cell_14 : decode cL_cell 14 = .ok (.iload_n 1, 1) := by decide +kernel
theorem dL_cell_15 : decode cL_cell 15 = .ok (.iconst 3, 1) := by decide +kernel
theorem dL_cell_16 : decode cL_cell 16 = .ok (.iadd, 1) := by decide +kernel
theorem dL_cell_17 : decode cL_cell 17 = .ok (.imul, 1) := by decide +kernel
theorem dL_cell_18 : decode cL_cell 18 = .ok (.ireturn, 1) := by decide +kernel
theorem dL_low_0 : decode cL_low 0 = .ok (.iload_n 0, 1) := by decide +kernel
theorem dL_low_1 : decode cL_low 1 = .ok (.ldc 8, 2) := by decide +kernel
theorem dL_low_3 : decode cL_low 3 = .ok (.iand, 1) := by decide +kernel
theorem dL_low_4 : decode cL_low 4 = .ok (.iload_n 1, 1) := by decide +kernel
theorem dL_low_5 : decode cL_low 5 = .ok (.irem, 1) := by decide +kernel
theorem dL_low_6 : decode cL_low 6 = .ok (.ireturn, 1) := by decide +kernel
theorem dL_may_0 : decode cL_may 0 = .ok (.iconst 1, 1) := by decide +kernel
theorem dL_may_1 : decode cL_may 1 = .ok (.istore 6, 2) := by decide +kernel
theorem dL_may_3 : decode cL_may 3 = .ok (.aload_n 1, 1) := by decide +kernel
theorem dL_may_4 : decode cL_may 4 = .ok (.bipush 11, 2) := by decide +kernel
theorem dL_may_6 : decode cL_may 6 = .ok (.iload_n 3, 1) := by decide +kernel
theorem dL_may_7 : decode cL_may 7 = .ok (.imul, 1) := by decide +kernel
theorem dL_may_8 : decode cL_may 8 = .ok (.iaload, 1) := by decide +kernel
theorem dL_may_9 : decode cL_may 9 = .ok (.aload_n 1, 1) := by decide +kernel
theorem dL_may_10 : decode cL_may 10 = .ok (.bipush 11, 2) := by decide +kernel
theorem dL_may_12 : decode cL_may 12 = .ok (.iload_n 3, 1) := by decide +kernel
theorem dL_may_13 : decode cL_may 13 = .ok (.imul, 1) := by decide +kernel
theorem dL_may_14 : decode cL_may 14 = .ok (.iconst 1, 1) := by decide +kernel
theorem dL_may_15 : decode cL_may 15 = .ok (.iadd, 1) := by decide +kernel
theorem dL_may_16 : decode cL_may 16 = .ok (.iaload, 1) := by decide +kernel
theorem dL_may_17 : decode cL_may 17 = .ok (.iadd, 1) := by decide +kernel
theorem dL_may_18 : decode cL_may 18 = .ok (.istore 7, 2) := by decide +kernel
theorem dL_may_20 : decode cL_may 20 = .ok (.iconst 0, 1) := by decide +kernel
theorem dL_may_21 : decode cL_may 21 = .ok (.istore 8, 2) := by decide +kernel
theorem dL_may_23 : decode cL_may 23 = .ok (.iload 8, 2) := by decide +kernel
theorem dL_may_25 : decode cL_may 25 = .ok (.aload_n 0, 1) := by decide +kernel
theorem dL_may_26 : decode cL_may 26 = .ok (.iconst 1, 1) := by decide +kernel
theorem dL_may_27 : decode cL_may 27 = .ok (.iaload, 1) := by decide +kernel
theorem dL_may_28 : decode cL_may 28 = .ok (.if_icmp .ge 114, 3) := by decide +kernel
theorem dL_may_31 : decode cL_may 31 = .ok (.aload_n 2, 1) := by decide +kernel
theorem dL_may_32 : decode cL_may 32 = .ok (.bipush 9, 2) := by decide +kernel
theorem dL_may_34 : decode cL_may 34 = .ok (.iload 8, 2) := by decide +kernel
theorem dL_may_36 : decode cL_may 36 = .ok (.imul, 1) := by decide +kernel
theorem dL_may_37 : decode cL_may 37 = .ok (.iconst 1, 1) := by decide +kernel
theorem dL_may_38 : decode cL_may 38 = .ok (.iadd, 1) := by decide +kernel
theorem dL_may_39 : decode cL_may 39 = .ok (.iaload, 1) := by decide +kernel
theorem dL_may_40 : decode cL_may 40 = .ok (.istore 9, 2) := by decide +kernel
theorem dL_may_42 : decode cL_may 42 = .ok (.iload 8, 2) := by decide +kernel
theorem dL_may_44 : decode cL_may 44 = .ok (.iload 5, 2) := by decide +kernel
theorem dL_may_46 : decode cL_may 46 = .ok (.if_icmp .eq 31, 3) := by decide +kernel
theorem dL_may_49 : decode cL_may 49 = .ok (.aload_n 2, 1) := by decide +kernel
theorem dL_may_50 : decode cL_may 50 = .ok (.bipush 9, 2) := by decide +kernel
theorem dL_may_52 : decode cL_may 52 = .ok (.iload 8, 2) := by decide +kernel
theorem dL_may_54 : decode cL_may 54 = .ok (.imul, 1) := by decide +kernel
theorem dL_may_55 : decode cL_may 55 = .ok (.iaload, 1) := by decide +kernel
theorem dL_may_56 : decode cL_may 56 = .ok (.iload_n 3, 1) := by decide +kernel
theorem dL_may_57 : decode cL_may 57 = .ok (.if_icmp .ne 20, 3) := by decide +kernel
theorem dL_may_60 : decode cL_may 60 = .ok (.aload_n 2, 1) := by decide +kernel
theorem dL_may_61 : decode cL_may 61 = .ok (.bipush 9, 2) := by decide +kernel
theorem dL_may_63 : decode cL_may 63 = .ok (.iload 8, 2) := by decide +kernel
theorem dL_may_65 : decode cL_may 65 = .ok (.imul, 1) := by decide +kernel
theorem dL_may_66 : decode cL_may 66 = .ok (.iconst 3, 1) := by decide +kernel
theorem dL_may_67 : decode cL_may 67 = .ok (.iadd, 1) := by decide +kernel
theorem dL_may_68 : decode cL_may 68 = .ok (.iaload, 1) := by decide +kernel
theorem dL_may_69 : decode cL_may 69 = .ok (.iconst 2, 1) := by decide +kernel
theorem dL_may_70 : decode cL_may 70 = .ok (.if_icmp .ge 7, 3) := by decide +kernel
theorem dL_may_73 : decode cL_may 73 = .ok (.iconst 1, 1) := by decide +kernel
theorem dL_may_74 : decode cL_may 74 = .ok (.goto 4, 3) := by decide +kernel
theorem dL_may_77 : decode cL_may 77 = .ok (.iconst 0, 1) := by decide +kernel
theorem dL_may_78 : decode cL_may 78 = .ok (.istore 10, 2) := by decide +kernel
theorem dL_may_80 : decode cL_may 80 = .ok (.iload 6, 2) := by decide +kernel
theorem dL_may_82 : decode cL_may 82 = .ok (.ifCond .eq 51, 3) := by decide +kernel
theorem dL_may_85 : decode cL_may 85 = .ok (.iload 10, 2) := by decide +kernel
theorem dL_may_87 : decode cL_may 87 = .ok (.ifCond .eq 42, 3) := by decide +kernel
theorem dL_may_90 : decode cL_may 90 = .ok (.iload 4, 2) := by decide +kernel
theorem dL_may_92 : decode cL_may 92 = .ok (.iload 9, 2) := by decide +kernel
theorem dL_may_94 : decode cL_may 94 = .ok (.iload 7, 2) := by decide +kernel
theorem dL_may_96 : decode cL_may 96 = .ok (.iadd, 1) := by decide +kernel
theorem dL_may_97 : decode cL_may 97 = .ok (.if_icmp .ge 13, 3) := by decide +kernel
theorem dL_may_100 : decode cL_may 100 = .ok (.iload 4, 2) := by decide +kernel
theorem dL_may_102 : decode cL_may 102 = .ok (.iload 7, 2) := by decide +kernel
theorem dL_may_104 : decode cL_may 104 = .ok (.iadd, 1) := by decide +kernel
theorem dL_may_105 : decode cL_may 105 = .ok (.iload 9, 2) := by decide +kernel
theorem dL_may_107 : decode cL_may 107 = .ok (.if_icmp .gt 26, 3) := by decide +kernel
theorem dL_may_110 : decode cL_may 110 = .ok (.aload_n 2, 1) := by decide +kernel
theorem dL_may_111 : decode cL_may 111 = .ok (.bipush 9, 2) := by decide +kernel
theorem dL_may_113 : decode cL_may 113 = .ok (.iload 8, 2) := by decide +kernel
theorem dL_may_115 : decode cL_may 115 = .ok (.imul, 1) := by decide +kernel
theorem dL_may_116 : decode cL_may 116 = .ok (.iconst 3, 1) := by decide +kernel
theorem dL_may_117 : decode cL_may 117 = .ok (.iadd, 1) := by decide +kernel
theorem dL_may_118 : decode cL_may 118 = .ok (.iaload, 1) := by decide +kernel
theorem dL_may_119 : decode cL_may 119 = .ok (.ifCond .eq 10, 3) := by decide +kernel
theorem dL_may_122 : decode cL_may 122 = .ok (.iload 4, 2) := by decide +kernel
theorem dL_may_124 : decode cL_may 124 = .ok (.iload 9, 2) := by decide +kernel
theorem dL_may_126 : decode cL_may 126 = .ok (.if_icmp .le 7, 3) := by decide +kernel
theorem dL_may_129 : decode cL_may 129 = .ok (.iconst 1, 1) := by decide +kernel
theorem dL_may_130 : decode cL_may 130 = .ok (.goto 4, 3) := by decide +kernel
theorem dL_may_133 : decode cL_may 133 = .ok (.iconst 0, 1) := by decide +kernel
theorem dL_may_134 : decode cL_may 134 = .ok (.istore 6, 2) := by decide +kernel
theorem dL_may_136 : decode cL_may 136 = .ok (.iinc 8 1, 3) := by decide +kernel
theorem dL_may_139 : decode cL_may 139 = .ok (.goto (-116), 3) := by decide +kernel
theorem dL_may_142 : decode cL_may 142 = .ok (.iload 6, 2) := by decide +kernel
theorem dL_may_144 : decode cL_may 144 = .ok (.ireturn, 1) := by decide +kernel
theorem dL_next_0 : decode cL_next 0 = .ok (.iconst (-1), 1) := by decide +kernel
theorem dL_next_1 : decode cL_next 1 = .ok (.istore 4, 2) := by decide +kernel
theorem dL_next_3 : decode cL_next 3 = .ok (.aload_n 0, 1) := by decide +kernel
theorem dL_next_4 : decode cL_next 4 = .ok (.iconst 1, 1) := by decide +kernel
theorem dL_next_5 : decode cL_next 5 = .ok (.iaload, 1) := by decide +kernel
theorem dL_next_6 : decode cL_next 6 = .ok (.iconst 1, 1) := by decide +kernel
theorem dL_next_7 : decode cL_next 7 = .ok (.isub, 1) := by decide +kernel
theorem dL_next_8 : decode cL_next 8 = .ok (.istore 5, 2) := by decide +kernel
theorem dL_next_10 : decode cL_next 10 = .ok (.iload 5, 2) := by decide +kernel
theorem dL_next_12 : decode cL_next 12 = .ok (.ifCond .lt 92, 3) := by decide +kernel
theorem dL_next_15 : decode cL_next 15 = .ok (.aload_n 1, 1) := by decide +kernel
theorem dL_next_16 : decode cL_next 16 = .ok (.bipush 9, 2) := by decide +kernel
theorem dL_next_18 : decode cL_next 18 = .ok (.iload 5, 2) := by decide +kernel
theorem dL_next_20 : decode cL_next 20 = .ok (.imul, 1) := by decide +kernel
theorem dL_next_21 : decode cL_next 21 = .ok (.iaload, 1) := by decide +kernel
theorem dL_next_22 : decode cL_next 22 = .ok (.iload_n 2, 1) := by decide +kernel
theorem dL_next_23 : decode cL_next 23 = .ok (.if_icmp .ne 32, 3) := by decide +kernel
theorem dL_next_26 : decode cL_next 26 = .ok (.aload_n 1, 1) := by decide +kernel
theorem dL_next_27 : decode cL_next 27 = .ok (.bipush 9, 2) := by decide +kernel
theorem dL_next_29 : decode cL_next 29 = .ok (.iload 5, 2) := by decide +kernel
theorem dL_next_31 : decode cL_next 31 = .ok (.imul, 1) := by decide +kernel
theorem dL_next_32 : decode cL_next 32 = .ok (.iconst 3, 1) := by decide +kernel
theorem dL_next_33 : decode cL_next 33 = .ok (.iadd, 1) := by decide +kernel
theorem dL_next_34 : decode cL_next 34 = .ok (.iaload, 1) := by decide +kernel
theorem dL_next_35 : decode cL_next 35 = .ok (.ifCond .ne 20, 3) := by decide +kernel
theorem dL_next_38 : decode cL_next 38 = .ok (.aload_n 1, 1) := by decide +kernel
theorem dL_next_39 : decode cL_next 39 = .ok (.bipush 9, 2) := by decide +kernel
theorem dL_next_41 : decode cL_next 41 = .ok (.iload 5, 2) := by decide +kernel
theorem dL_next_43 : decode cL_next 43 = .ok (.imul, 1) := by decide +kernel
theorem dL_next_44 : decode cL_next 44 = .ok (.iconst 1, 1) := by decide +kernel
theorem dL_next_45 : decode cL_next 45 = .ok (.iadd, 1) := by decide +kernel
theorem dL_next_46 : decode cL_next 46 = .ok (.iaload, 1) := by decide +kernel
theorem dL_next_47 : decode cL_next 47 = .ok (.iload_n 3, 1) := by decide +kernel
theorem dL_next_48 : decode cL_next 48 = .ok (.if_icmp .lt 7, 3) := by decide +kernel
theorem dL_next_51 : decode cL_next 51 = .ok (.iconst 1, 1) := by decide +kernel
theorem dL_next_52 : decode cL_next 52 = .ok (.goto 4, 3) := by decide +kernel
theorem dL_next_55 : decode cL_next 55 = .ok (.iconst 0, 1) := by decide +kernel
theorem dL_next_56 : decode cL_next 56 = .ok (.istore 6, 2) := by decide +kernel
theorem dL_next_58 : decode cL_next 58 = .ok (.iload 6, 2) := by decide +kernel
theorem dL_next_60 : decode cL_next 60 = .ok (.ifCond .eq 34, 3) := by decide +kernel
theorem dL_next_63 : decode cL_next 63 = .ok (.iload 4, 2) := by decide +kernel
theorem dL_next_65 : decode cL_next 65 = .ok (.ifCond .lt 24, 3) := by decide +kernel
theorem dL_next_68 : decode cL_next 68 = .ok (.aload_n 1, 1) := by decide +kernel
theorem dL_next_69 : decode cL_next 69 = .ok (.bipush 9, 2) := by decide +kernel
theorem dL_next_71 : decode cL_next 71 = .ok (.iload 5, 2) := by decide +kernel
theorem dL_next_73 : decode cL_next 73 = .ok (.imul, 1) := by decide +kernel
theorem dL_next_74 : decode cL_next 74 = .ok (.iconst 1, 1) := by decide +kernel
theorem dL_next_75 : decode cL_next 75 = .ok (.iadd, 1) := by decide +kernel
theorem dL_next_76 : decode cL_next 76 = .ok (.iaload, 1) := by decide +kernel
theorem dL_next_77 : decode cL_next 77 = .ok (.aload_n 1, 1) := by decide +kernel
theorem dL_next_78 : decode cL_next 78 = .ok (.bipush 9, 2) := by decide +kernel
theorem dL_next_80 : decode cL_next 80 = .ok (.iload 4, 2) := by decide +kernel
theorem dL_next_82 : decode cL_next 82 = .ok (.imul, 1) := by decide +kernel
theorem dL_next_83 : decode cL_next 83 = .ok (.iconst 1, 1) := by decide +kernel
theorem dL_next_84 : decode cL_next 84 = .ok (.iadd, 1) := by decide +kernel
theorem dL_next_85 : decode cL_next 85 = .ok (.iaload, 1) := by decide +kernel
theorem dL_next_86 : decode cL_next 86 = .ok (.if_icmp .ge 8, 3) := by decide +kernel
theorem dL_next_89 : decode cL_next 89 = .ok (.iload 5, 2) := by decide +kernel
theorem dL_next_91 : decode cL_next 91 = .ok (.goto 5, 3) := by decide +kernel
theorem dL_next_94 : decode cL_next 94 = .ok (.iload 4, 2) := by decide +kernel
theorem dL_next_96 : decode cL_next 96 = .ok (.istore 4, 2) := by decide +kernel
theorem dL_next_98 : decode cL_next 98 = .ok (.iinc 5 (-1), 3) := by decide +kernel
theorem dL_next_101 : decode cL_next 101 = .ok (.goto (-91), 3) := by decide +kernel
theorem dL_next_104 : decode cL_next 104 = .ok (.iload 4, 2) := by decide +kernel
theorem dL_next_106 : decode cL_next 106 = .ok (.ireturn, 1) := by decide +kernel
theorem dL_late_0 : decode cL_late 0 = .ok (.aload_n 2, 1) := by decide +kernel
theorem dL_late_1 : decode cL_late 1 = .ok (.bipush 9, 2) := by decide +kernel
theorem dL_late_3 : decode cL_late 3 = .ok (.iload_n 3, 1) := by decide +kernel
theorem dL_late_4 : decode cL_late 4 = .ok (.imul, 1) := by decide +kernel
theorem dL_late_5 : decode cL_late 5 = .ok (.iaload, 1) := by decide +kernel
theorem dL_late_6 : decode cL_late 6 = .ok (.istore 5, 2) := by decide +kernel
theorem dL_late_8 : decode cL_late 8 = .ok (.aload_n 1, 1) := by decide +kernel
theorem dL_late_9 : decode cL_late 9 = .ok (.bipush 11, 2) := by decide +kernel
theorem dL_late_11 : decode cL_late 11 = .ok (.iload 5, 2) := by decide +kernel
theorem dL_late_13 : decode cL_late 13 = .ok (.imul, 1) := by decide +kernel
theorem dL_late_14 : decode cL_late 14 = .ok (.iconst 4, 1) := by decide +kernel
theorem dL_late_15 : decode cL_late 15 = .ok (.iadd, 1) := by decide +kernel
theorem dL_late_16 : decode cL_late 16 = .ok (.iaload, 1) := by decide +kernel
theorem dL_late_17 : decode cL_late 17 = .ok (.iload 4, 2) := by decide +kernel
theorem dL_late_19 : decode cL_late 19 = .ok (.iadd, 1) := by decide +kernel
theorem dL_late_20 : decode cL_late 20 = .ok (.istore 6, 2) := by decide +kernel
theorem dL_late_22 : decode cL_late 22 = .ok (.iconst 0, 1) := by decide +kernel
theorem dL_late_23 : decode cL_late 23 = .ok (.istore 7, 2) := by decide +kernel
theorem dL_late_25 : decode cL_late 25 = .ok (.iconst 1, 1) := by decide +kernel
theorem dL_late_26 : decode cL_late 26 = .ok (.istore 8, 2) := by decide +kernel
theorem dL_late_28 : decode cL_late 28 = .ok (.aload_n 0, 1) := by decide +kernel
theorem dL_late_29 : decode cL_late 29 = .ok (.aload_n 2, 1) := by decide +kernel
theorem dL_late_30 : decode cL_late 30 = .ok (.iload 5, 2) := by decide +kernel
theorem dL_late_32 : decode cL_late 32 = .ok (.iconst 0, 1) := by decide +kernel
theorem dL_late_33 : decode cL_late 33 = .ok (.invokestatic 9, 3) := by decide +kernel
theorem dL_late_36 : decode cL_late 36 = .ok (.istore 9, 2) := by decide +kernel
theorem dL_late_38 : decode cL_late 38 = .ok (.iload 8, 2) := by decide +kernel
theorem dL_late_40 : decode cL_late 40 = .ok (.ifCond .eq 103, 3) := by decide +kernel
theorem dL_late_43 : decode cL_late 43 = .ok (.aload_n 2, 1) := by decide +kernel
theorem dL_late_44 : decode cL_late 44 = .ok (.bipush 9, 2) := by decide +kernel
theorem dL_late_46 : decode cL_late 46 = .ok (.iload 9, 2) := by decide +kernel
theorem dL_late_48 : decode cL_late 48 = .ok (.imul, 1) := by decide +kernel
theorem dL_late_49 : decode cL_late 49 = .ok (.iconst 1, 1) := by decide +kernel
theorem dL_late_50 : decode cL_late 50 = .ok (.iadd, 1) := by decide +kernel
theorem dL_late_51 : decode cL_late 51 = .ok (.iaload, 1) := by decide +kernel
theorem dL_late_52 : decode cL_late 52 = .ok (.istore 10, 2) := by decide +kernel
theorem dL_late_54 : decode cL_late 54 = .ok (.iload 6, 2) := by decide +kernel
theorem dL_late_56 : decode cL_late 56 = .ok (.iload 10, 2) := by decide +kernel
theorem dL_late_58 : decode cL_late 58 = .ok (.if_icmp .le 11, 3) := by decide +kernel
theorem dL_late_61 : decode cL_late 61 = .ok (.iload 6, 2) := by decide +kernel
theorem dL_late_63 : decode cL_late 63 = .ok (.iload 10, 2) := by decide +kernel
theorem dL_late_65 : decode cL_late 65 = .ok (.isub, 1) := by decide +kernel
theorem dL_late_66 : decode cL_late 66 = .ok (.goto 4, 3) := by decide +kernel
theorem dL_late_69 : decode cL_late 69 = .ok (.iconst 0, 1) := by decide +kernel
theorem dL_late_70 : decode cL_late 70 = .ok (.istore 7, 2) := by decide +kernel
theorem dL_late_72 : decode cL_late 72 = .ok (.iload 10, 2) := by decide +kernel
theorem dL_late_74 : decode cL_late 74 = .ok (.iload 7, 2) := by decide +kernel
theorem dL_late_76 : decode cL_late 76 = .ok (.iadd, 1) := by decide +kernel
theorem dL_late_77 : decode cL_late 77 = .ok (.aload_n 1, 1) := by decide +kernel
theorem dL_late_78 : decode cL_late 78 = .ok (.bipush 11, 2) := by decide +kernel
theorem dL_late_80 : decode cL_late 80 = .ok (.iload 5, 2) := by decide +kernel
theorem dL_late_82 : decode cL_late 82 = .ok (.imul, 1) := by decide +kernel
theorem dL_late_83 : decode cL_late 83 = .ok (.iaload, 1) := by decide +kernel
theorem dL_late_84 : decode cL_late 84 = .ok (.iadd, 1) := by decide +kernel
theorem dL_late_85 : decode cL_late 85 = .ok (.aload_n 1, 1) := by decide +kernel
theorem dL_late_86 : decode cL_late 86 = .ok (.bipush 11, 2) := by decide +kernel
theorem dL_late_88 : decode cL_late 88 = .ok (.iload 5, 2) := by decide +kernel
theorem dL_late_90 : decode cL_late 90 = .ok (.imul, 1) := by decide +kernel
theorem dL_late_91 : decode cL_late 91 = .ok (.iconst 1, 1) := by decide +kernel
theorem dL_late_92 : decode cL_late 92 = .ok (.iadd, 1) := by decide +kernel
theorem dL_late_93 : decode cL_late 93 = .ok (.iaload, 1) := by decide +kernel
theorem dL_late_94 : decode cL_late 94 = .ok (.iadd, 1) := by decide +kernel
theorem dL_late_95 : decode cL_late 95 = .ok (.istore 6, 2) := by decide +kernel
theorem dL_late_97 : decode cL_late 97 = .ok (.iload 9, 2) := by decide +kernel
theorem dL_late_99 : decode cL_late 99 = .ok (.iload_n 3, 1) := by decide +kernel
theorem dL_late_100 : decode cL_late 100 = .ok (.if_icmp .eq 7, 3) := by decide +kernel
theorem dL_late_103 : decode cL_late 103 = .ok (.iconst 1, 1) := by decide +kernel
theorem dL_late_104 : decode cL_late 104 = .ok (.goto 4, 3) := by decide +kernel
theorem dL_late_107 : decode cL_late 107 = .ok (.iconst 0, 1) := by decide +kernel
theorem dL_late_108 : decode cL_late 108 = .ok (.istore 8, 2) := by decide +kernel
theorem dL_late_110 : decode cL_late 110 = .ok (.iload 8, 2) := by decide +kernel
theorem dL_late_112 : decode cL_late 112 = .ok (.ifCond .eq 24, 3) := by decide +kernel
theorem dL_late_115 : decode cL_late 115 = .ok (.aload_n 0, 1) := by decide +kernel
theorem dL_late_116 : decode cL_late 116 = .ok (.aload_n 2, 1) := by decide +kernel
theorem dL_late_117 : decode cL_late 117 = .ok (.iload 5, 2) := by decide +kernel
theorem dL_late_119 : decode cL_late 119 = .ok (.aload_n 2, 1) := by decide +kernel
theorem dL_late_120 : decode cL_late 120 = .ok (.bipush 9, 2) := by decide +kernel
theorem dL_late_122 : decode cL_late 122 = .ok (.iload 9, 2) := by decide +kernel
theorem dL_late_124 : decode cL_late 124 = .ok (.imul, 1) := by decide +kernel
theorem dL_late_125 : decode cL_late 125 = .ok (.iconst 1, 1) := by decide +kernel
theorem dL_late_126 : decode cL_late 126 = .ok (.iadd, 1) := by decide +kernel
theorem dL_late_127 : decode cL_late 127 = .ok (.iaload, 1) := by decide +kernel
theorem dL_late_128 : decode cL_late 128 = .ok (.iconst 1, 1) := by decide +kernel
theorem dL_late_129 : decode cL_late 129 = .ok (.iadd, 1) := by decide +kernel
theorem dL_late_130 : decode cL_late 130 = .ok (.invokestatic 9, 3) := by decide +kernel
theorem dL_late_133 : decode cL_late 133 = .ok (.goto 5, 3) := by decide +kernel
theorem dL_late_136 : decode cL_late 136 = .ok (.iload 9, 2) := by decide +kernel
theorem dL_late_138 : decode cL_late 138 = .ok (.istore 9, 2) := by decide +kernel
theorem dL_late_140 : decode cL_late 140 = .ok (.goto (-102), 3) := by decide +kernel
theorem dL_late_143 : decode cL_late 143 = .ok (.iload 7, 2) := by decide +kernel
theorem dL_late_145 : decode cL_late 145 = .ok (.ireturn, 1) := by decide +kernel
theorem dL_share_0 : decode cL_share 0 = .ok (.iconst 0, 1) := by decide +kernel
theorem dL_share_1 : decode cL_share 1 = .ok (.istore_n 3, 1) := by decide +kernel
theorem dL_share_2 : decode cL_share 2 = .ok (.iload_n 2, 1) := by decide +kernel
theorem dL_share_3 : decode cL_share 3 = .ok (.aload_n 0, 1) := by decide +kernel
theorem dL_share_4 : decode cL_share 4 = .ok (.iconst 3, 1) := by decide +kernel
theorem dL_share_5 : decode cL_share 5 = .ok (.iaload, 1) := by decide +kernel
theorem dL_share_6 : decode cL_share 6 = .ok (.isub, 1) := by decide +kernel
theorem dL_share_7 : decode cL_share 7 = .ok (.istore 4, 2) := by decide +kernel
theorem dL_share_9 : decode cL_share 9 = .ok (.iload 4, 2) := by decide +kernel
theorem dL_share_11 : decode cL_share 11 = .ok (.ifCond .le 12, 3) := by decide +kernel
theorem dL_share_14 : decode cL_share 14 = .ok (.iinc 3 1, 3) := by decide +kernel
theorem dL_share_17 : decode cL_share 17 = .ok (.iinc 4 (-10), 3) := by decide +kernel
theorem dL_share_20 : decode cL_share 20 = .ok (.goto (-11), 3) := by decide +kernel
theorem dL_share_23 : decode cL_share 23 = .ok (.iload_n 3, 1) := by decide +kernel
theorem dL_share_24 : decode cL_share 24 = .ok (.aload_n 0, 1) := by decide +kernel
theorem dL_share_25 : decode cL_share 25 = .ok (.iconst 4, 1) := by decide +kernel
theorem dL_share_26 : decode cL_share 26 = .ok (.iaload, 1) := by decide +kernel
theorem dL_share_27 : decode cL_share 27 = .ok (.imul, 1) := by decide +kernel
theorem dL_share_28 : decode cL_share 28 = .ok (.bipush 100, 2) := by decide +kernel
theorem dL_share_30 : decode cL_share 30 = .ok (.if_icmp .le 8, 3) := by decide +kernel
theorem dL_share_33 : decode cL_share 33 = .ok (.bipush 100, 2) := by decide +kernel
theorem dL_share_35 : decode cL_share 35 = .ok (.goto 8, 3) := by decide +kernel
theorem dL_share_38 : decode cL_share 38 = .ok (.iload_n 3, 1) := by decide +kernel
theorem dL_share_39 : decode cL_share 39 = .ok (.aload_n 0, 1) := by decide +kernel
theorem dL_share_40 : decode cL_share 40 = .ok (.iconst 4, 1) := by decide +kernel
theorem dL_share_41 : decode cL_share 41 = .ok (.iaload, 1) := by decide +kernel
theorem dL_share_42 : decode cL_share 42 = .ok (.imul, 1) := by decide +kernel
theorem dL_share_43 : decode cL_share 43 = .ok (.istore 4, 2) := by decide +kernel
theorem dL_share_45 : decode cL_share 45 = .ok (.iload_n 1, 1) := by decide +kernel
theorem dL_share_46 : decode cL_share 46 = .ok (.iload 4, 2) := by decide +kernel
theorem dL_share_48 : decode cL_share 48 = .ok (.imul, 1) := by decide +kernel
theorem dL_share_49 : decode cL_share 49 = .ok (.bipush 100, 2) := by decide +kernel
theorem dL_share_51 : decode cL_share 51 = .ok (.idiv, 1) := by decide +kernel
theorem dL_share_52 : decode cL_share 52 = .ok (.ireturn, 1) := by decide +kernel
theorem dL_paid_0 : decode cL_paid 0 = .ok (.aload_n 1, 1) := by decide +kernel
theorem dL_paid_1 : decode cL_paid 1 = .ok (.bipush 9, 2) := by decide +kernel
theorem dL_paid_3 : decode cL_paid 3 = .ok (.iload_n 3, 1) := by decide +kernel
theorem dL_paid_4 : decode cL_paid 4 = .ok (.imul, 1) := by decide +kernel
theorem dL_paid_5 : decode cL_paid 5 = .ok (.iconst 5, 1) := by decide +kernel
theorem dL_paid_6 : decode cL_paid 6 = .ok (.iadd, 1) := by decide +kernel
theorem dL_paid_7 : decode cL_paid 7 = .ok (.iaload, 1) := by decide +kernel
theorem dL_paid_8 : decode cL_paid 8 = .ok (.istore 4, 2) := by decide +kernel
theorem dL_paid_10 : decode cL_paid 10 = .ok (.iconst 0, 1) := by decide +kernel
theorem dL_paid_11 : decode cL_paid 11 = .ok (.istore 5, 2) := by decide +kernel
theorem dL_paid_13 : decode cL_paid 13 = .ok (.iload 5, 2) := by decide +kernel
theorem dL_paid_15 : decode cL_paid 15 = .ok (.aload_n 0, 1) := by decide +kernel
theorem dL_paid_16 : decode cL_paid 16 = .ok (.iconst 1, 1) := by decide +kernel
theorem dL_paid_17 : decode cL_paid 17 = .ok (.iaload, 1) := by decide +kernel
theorem dL_paid_18 : decode cL_paid 18 = .ok (.if_icmp .ge 38, 3) := by decide +kernel
theorem dL_paid_21 : decode cL_paid 21 = .ok (.iload 4, 2) := by decide +kernel
theorem dL_paid_23 : decode cL_paid 23 = .ok (.aload_n 2, 1) := by decide +kernel
theorem dL_paid_24 : decode cL_paid 24 = .ok (.iconst 4, 1) := by decide +kernel
theorem dL_paid_25 : decode cL_paid 25 = .ok (.iload 5, 2) := by decide +kernel
theorem dL_paid_27 : decode cL_paid 27 = .ok (.imul, 1) := by decide +kernel
theorem dL_paid_28 : decode cL_paid 28 = .ok (.iconst 2, 1) := by decide +kernel
theorem dL_paid_29 : decode cL_paid 29 = .ok (.iadd, 1) := by decide +kernel
theorem dL_paid_30 : decode cL_paid 30 = .ok (.iaload, 1) := by decide +kernel
theorem dL_paid_31 : decode cL_paid 31 = .ok (.iload_n 3, 1) := by decide +kernel
theorem dL_paid_32 : decode cL_paid 32 = .ok (.if_icmp .ne 14, 3) := by decide +kernel
theorem dL_paid_35 : decode cL_paid 35 = .ok (.aload_n 2, 1) := by decide +kernel
theorem dL_paid_36 : decode cL_paid 36 = .ok (.iconst 4, 1) := by decide +kernel
theorem dL_paid_37 : decode cL_paid 37 = .ok (.iload 5, 2) := by decide +kernel
theorem dL_paid_39 : decode cL_paid 39 = .ok (.imul, 1) := by decide +kernel
theorem dL_paid_40 : decode cL_paid 40 = .ok (.iconst 1, 1) := by decide +kernel
theorem dL_paid_41 : decode cL_paid 41 = .ok (.iadd, 1) := by decide +kernel
theorem dL_paid_42 : decode cL_paid 42 = .ok (.iaload, 1) := by decide +kernel
theorem dL_paid_43 : decode cL_paid 43 = .ok (.goto 4, 3) := by decide +kernel
theorem dL_paid_46 : decode cL_paid 46 = .ok (.iconst 0, 1) := by decide +kernel
theorem dL_paid_47 : decode cL_paid 47 = .ok (.iadd, 1) := by decide +kernel
theorem dL_paid_48 : decode cL_paid 48 = .ok (.istore 4, 2) := by decide +kernel
theorem dL_paid_50 : decode cL_paid 50 = .ok (.iinc 5 1, 3) := by decide +kernel
theorem dL_paid_53 : decode cL_paid 53 = .ok (.goto (-40), 3) := by decide +kernel
theorem dL_paid_56 : decode cL_paid 56 = .ok (.iload 4, 2) := by decide +kernel
theorem dL_paid_58 : decode cL_paid 58 = .ok (.ireturn, 1) := by decide +kernel
theorem dL_refunds_0 : decode cL_refunds 0 = .ok (.iload 5, 2) := by decide +kernel
theorem dL_refunds_2 : decode cL_refunds 2 = .ok (.istore 6, 2) := by decide +kernel
theorem dL_refunds_4 : decode cL_refunds 4 = .ok (.aload_n 1, 1) := by decide +kernel
theorem dL_refunds_5 : decode cL_refunds 5 = .ok (.bipush 9, 2) := by decide +kernel
theorem dL_refunds_7 : decode cL_refunds 7 = .ok (.iload 4, 2) := by decide +kernel
theorem dL_refunds_9 : decode cL_refunds 9 = .ok (.imul, 1) := by decide +kernel
theorem dL_refunds_10 : decode cL_refunds 10 = .ok (.iconst 5, 1) := by decide +kernel
theorem dL_refunds_11 : decode cL_refunds 11 = .ok (.iadd, 1) := by decide +kernel
theorem dL_refunds_12 : decode cL_refunds 12 = .ok (.iaload, 1) := by decide +kernel
theorem dL_refunds_13 : decode cL_refunds 13 = .ok (.iload 6, 2) := by decide +kernel
theorem dL_refunds_15 : decode cL_refunds 15 = .ok (.if_icmp .ge 15, 3) := by decide +kernel
theorem dL_refunds_18 : decode cL_refunds 18 = .ok (.aload_n 1, 1) := by decide +kernel
theorem dL_refunds_19 : decode cL_refunds 19 = .ok (.bipush 9, 2) := by decide +kernel
theorem dL_refunds_21 : decode cL_refunds 21 = .ok (.iload 4, 2) := by decide +kernel
theorem dL_refunds_23 : decode cL_refunds 23 = .ok (.imul, 1) := by decide +kernel
theorem dL_refunds_24 : decode cL_refunds 24 = .ok (.iconst 5, 1) := by decide +kernel
theorem dL_refunds_25 : decode cL_refunds 25 = .ok (.iadd, 1) := by decide +kernel
theorem dL_refunds_26 : decode cL_refunds 26 = .ok (.iaload, 1) := by decide +kernel
theorem dL_refunds_27 : decode cL_refunds 27 = .ok (.goto 5, 3) := by decide +kernel
theorem dL_refunds_30 : decode cL_refunds 30 = .ok (.iload 6, 2) := by decide +kernel
theorem dL_refunds_32 : decode cL_refunds 32 = .ok (.istore 7, 2) := by decide +kernel
theorem dL_refunds_34 : decode cL_refunds 34 = .ok (.aload_n 1, 1) := by decide +kernel
theorem dL_refunds_35 : decode cL_refunds 35 = .ok (.bipush 9, 2) := by decide +kernel
theorem dL_refunds_37 : decode cL_refunds 37 = .ok (.iload 4, 2) := by decide +kernel
theorem dL_refunds_39 : decode cL_refunds 39 = .ok (.imul, 1) := by decide +kernel
theorem dL_refunds_40 : decode cL_refunds 40 = .ok (.iconst 5, 1) := by decide +kernel
theorem dL_refunds_41 : decode cL_refunds 41 = .ok (.iadd, 1) := by decide +kernel
theorem dL_refunds_42 : decode cL_refunds 42 = .ok (.dup2, 1) := by decide +kernel
theorem dL_refunds_43 : decode cL_refunds 43 = .ok (.iaload, 1) := by decide +kernel
theorem dL_refunds_44 : decode cL_refunds 44 = .ok (.iload 7, 2) := by decide +kernel
theorem dL_refunds_46 : decode cL_refunds 46 = .ok (.isub, 1) := by decide +kernel
theorem dL_refunds_47 : decode cL_refunds 47 = .ok (.iastore, 1) := by decide +kernel
theorem dL_refunds_48 : decode cL_refunds 48 = .ok (.aload_n 1, 1) := by decide +kernel
theorem dL_refunds_49 : decode cL_refunds 49 = .ok (.bipush 9, 2) := by decide +kernel
theorem dL_refunds_51 : decode cL_refunds 51 = .ok (.iload 4, 2) := by decide +kernel
theorem dL_refunds_53 : decode cL_refunds 53 = .ok (.imul, 1) := by decide +kernel
theorem dL_refunds_54 : decode cL_refunds 54 = .ok (.bipush 6, 2) := by decide +kernel
theorem dL_refunds_56 : decode cL_refunds 56 = .ok (.iadd, 1) := by decide +kernel
theorem dL_refunds_57 : decode cL_refunds 57 = .ok (.dup2, 1) := by decide +kernel
theorem dL_refunds_58 : decode cL_refunds 58 = .ok (.iaload, 1) := by decide +kernel
theorem dL_refunds_59 : decode cL_refunds 59 = .ok (.iload 5, 2) := by decide +kernel
theorem dL_refunds_61 : decode cL_refunds 61 = .ok (.iadd, 1) := by decide +kernel
theorem dL_refunds_62 : decode cL_refunds 62 = .ok (.iastore, 1) := by decide +kernel
theorem dL_refunds_63 : decode cL_refunds 63 = .ok (.aload_n 0, 1) := by decide +kernel
theorem dL_refunds_64 : decode cL_refunds 64 = .ok (.iconst 3, 1) := by decide +kernel
theorem dL_refunds_65 : decode cL_refunds 65 = .ok (.dup2, 1) := by decide +kernel
theorem dL_refunds_66 : decode cL_refunds 66 = .ok (.iaload, 1) := by decide +kernel
theorem dL_refunds_67 : decode cL_refunds 67 = .ok (.iload 7, 2) := by decide +kernel
theorem dL_refunds_69 : decode cL_refunds 69 = .ok (.isub, 1) := by decide +kernel
theorem dL_refunds_70 : decode cL_refunds 70 = .ok (.iastore, 1) := by decide +kernel
theorem dL_refunds_71 : decode cL_refunds 71 = .ok (.iload 6, 2) := by decide +kernel
theorem dL_refunds_73 : decode cL_refunds 73 = .ok (.iload 7, 2) := by decide +kernel
theorem dL_refunds_75 : decode cL_refunds 75 = .ok (.isub, 1) := by decide +kernel
theorem dL_refunds_76 : decode cL_refunds 76 = .ok (.istore 6, 2) := by decide +kernel
theorem dL_refunds_78 : decode cL_refunds 78 = .ok (.aload_n 0, 1) := by decide +kernel
theorem dL_refunds_79 : decode cL_refunds 79 = .ok (.iconst 4, 1) := by decide +kernel
theorem dL_refunds_80 : decode cL_refunds 80 = .ok (.iaload, 1) := by decide +kernel
theorem dL_refunds_81 : decode cL_refunds 81 = .ok (.istore 8, 2) := by decide +kernel
theorem dL_refunds_83 : decode cL_refunds 83 = .ok (.iload 8, 2) := by decide +kernel
theorem dL_refunds_85 : decode cL_refunds 85 = .ok (.ifCond .lt 117, 3) := by decide +kernel
theorem dL_refunds_88 : decode cL_refunds 88 = .ok (.iconst 0, 1) := by decide +kernel
theorem dL_refunds_89 : decode cL_refunds 89 = .ok (.istore 9, 2) := by decide +kernel
theorem dL_refunds_91 : decode cL_refunds 91 = .ok (.iload 9, 2) := by decide +kernel
theorem dL_refunds_93 : decode cL_refunds 93 = .ok (.aload_n 0, 1) := by decide +kernel
theorem dL_refunds_94 : decode cL_refunds 94 = .ok (.iconst 1, 1) := by decide +kernel
theorem dL_refunds_95 : decode cL_refunds 95 = .ok (.iaload, 1) := by decide +kernel
theorem dL_refunds_96 : decode cL_refunds 96 = .ok (.if_icmp .ge 100, 3) := by decide +kernel
theorem dL_refunds_99 : decode cL_refunds 99 = .ok (.aload_n 2, 1) := by decide +kernel
theorem dL_refunds_100 : decode cL_refunds 100 = .ok (.iconst 4, 1) := by decide +kernel
theorem dL_refunds_101 : decode cL_refunds 101 = .ok (.iload 9, 2) := by decide +kernel
theorem dL_refunds_103 : decode cL_refunds 103 = .ok (.imul, 1) := by decide +kernel
theorem dL_refunds_104 : decode cL_refunds 104 = .ok (.iconst 2, 1) := by decide +kernel
theorem dL_refunds_105 : decode cL_refunds 105 = .ok (.iadd, 1) := by decide +kernel
theorem dL_refunds_106 : decode cL_refunds 106 = .ok (.iaload, 1) := by decide +kernel
theorem dL_refunds_107 : decode cL_refunds 107 = .ok (.iload 4, 2) := by decide +kernel
theorem dL_refunds_109 : decode cL_refunds 109 = .ok (.if_icmp .ne 81, 3) := by decide +kernel
theorem dL_refunds_112 : decode cL_refunds 112 = .ok (.aload_n 2, 1) := by decide +kernel
theorem dL_refunds_113 : decode cL_refunds 113 = .ok (.iconst 4, 1) := by decide +kernel
theorem dL_refunds_114 : decode cL_refunds 114 = .ok (.iload 9, 2) := by decide +kernel
theorem dL_refunds_116 : decode cL_refunds 116 = .ok (.imul, 1) := by decide +kernel
theorem dL_refunds_117 : decode cL_refunds 117 = .ok (.iconst 3, 1) := by decide +kernel
theorem dL_refunds_118 : decode cL_refunds 118 = .ok (.iadd, 1) := by decide +kernel
theorem dL_refunds_119 : decode cL_refunds 119 = .ok (.iaload, 1) := by decide +kernel
theorem dL_refunds_120 : decode cL_refunds 120 = .ok (.iload 8, 2) := by decide +kernel
theorem dL_refunds_122 : decode cL_refunds 122 = .ok (.if_icmp .ne 68, 3) := by decide +kernel
theorem dL_refunds_125 : decode cL_refunds 125 = .ok (.aload_n 2, 1) := by decide +kernel
theorem dL_refunds_126 : decode cL_refunds 126 = .ok (.iconst 4, 1) := by decide +kernel
theorem dL_refunds_127 : decode cL_refunds 127 = .ok (.iload 9, 2) := by decide +kernel
theorem dL_refunds_129 : decode cL_refunds 129 = .ok (.imul, 1) := by decide +kernel
theorem dL_refunds_130 : decode cL_refunds 130 = .ok (.iconst 1, 1) := by decide +kernel
theorem dL_refunds_131 : decode cL_refunds 131 = .ok (.iadd, 1) := by decide +kernel
theorem dL_refunds_132 : decode cL_refunds 132 = .ok (.iaload, 1) := by decide +kernel
theorem dL_refunds_133 : decode cL_refunds 133 = .ok (.iload 6, 2) := by decide +kernel
theorem dL_refunds_135 : decode cL_refunds 135 = .ok (.if_icmp .ge 14, 3) := by decide +kernel
theorem dL_refunds_138 : decode cL_refunds 138 = .ok (.aload_n 2, 1) := by decide +kernel
theorem dL_refunds_139 : decode cL_refunds 139 = .ok (.iconst 4, 1) := by decide +kernel
theorem dL_refunds_140 : decode cL_refunds 140 = .ok (.iload 9, 2) := by decide +kernel
theorem dL_refunds_142 : decode cL_refunds 142 = .ok (.imul, 1) := by decide +kernel
theorem dL_refunds_143 : decode cL_refunds 143 = .ok (.iconst 1, 1) := by decide +kernel
theorem dL_refunds_144 : decode cL_refunds 144 = .ok (.iadd, 1) := by decide +kernel
theorem dL_refunds_145 : decode cL_refunds 145 = .ok (.iaload, 1) := by decide +kernel
theorem dL_refunds_146 : decode cL_refunds 146 = .ok (.goto 5, 3) := by decide +kernel
theorem dL_refunds_149 : decode cL_refunds 149 = .ok (.iload 6, 2) := by decide +kernel
theorem dL_refunds_151 : decode cL_refunds 151 = .ok (.istore 10, 2) := by decide +kernel
theorem dL_refunds_153 : decode cL_refunds 153 = .ok (.aload_n 2, 1) := by decide +kernel
theorem dL_refunds_154 : decode cL_refunds 154 = .ok (.iconst 4, 1) := by decide +kernel
theorem dL_refunds_155 : decode cL_refunds 155 = .ok (.iload 9, 2) := by decide +kernel
theorem dL_refunds_157 : decode cL_refunds 157 = .ok (.imul, 1) := by decide +kernel
theorem dL_refunds_158 : decode cL_refunds 158 = .ok (.iconst 1, 1) := by decide +kernel
theorem dL_refunds_159 : decode cL_refunds 159 = .ok (.iadd, 1) := by decide +kernel
theorem dL_refunds_160 : decode cL_refunds 160 = .ok (.dup2, 1) := by decide +kernel
theorem dL_refunds_161 : decode cL_refunds 161 = .ok (.iaload, 1) := by decide +kernel
theorem dL_refunds_162 : decode cL_refunds 162 = .ok (.iload 10, 2) := by decide +kernel
theorem dL_refunds_164 : decode cL_refunds 164 = .ok (.isub, 1) := by decide +kernel
theorem dL_refunds_165 : decode cL_refunds 165 = .ok (.iastore, 1) := by decide +kernel
theorem dL_refunds_166 : decode cL_refunds 166 = .ok (.aload_n 3, 1) := by decide +kernel
theorem dL_refunds_167 : decode cL_refunds 167 = .ok (.iconst 2, 1) := by decide +kernel
theorem dL_refunds_168 : decode cL_refunds 168 = .ok (.aload_n 2, 1) := by decide +kernel
theorem dL_refunds_169 : decode cL_refunds 169 = .ok (.iconst 4, 1) := by decide +kernel
theorem dL_refunds_170 : decode cL_refunds 170 = .ok (.iload 9, 2) := by decide +kernel
theorem dL_refunds_172 : decode cL_refunds 172 = .ok (.imul, 1) := by decide +kernel
theorem dL_refunds_173 : decode cL_refunds 173 = .ok (.iaload, 1) := by decide +kernel
theorem dL_refunds_174 : decode cL_refunds 174 = .ok (.imul, 1) := by decide +kernel
theorem dL_refunds_175 : decode cL_refunds 175 = .ok (.iconst 1, 1) := by decide +kernel
theorem dL_refunds_176 : decode cL_refunds 176 = .ok (.iadd, 1) := by decide +kernel
theorem dL_refunds_177 : decode cL_refunds 177 = .ok (.dup2, 1) := by decide +kernel
theorem dL_refunds_178 : decode cL_refunds 178 = .ok (.iaload, 1) := by decide +kernel
theorem dL_refunds_179 : decode cL_refunds 179 = .ok (.iload 10, 2) := by decide +kernel
theorem dL_refunds_181 : decode cL_refunds 181 = .ok (.iadd, 1) := by decide +kernel
theorem dL_refunds_182 : decode cL_refunds 182 = .ok (.iastore, 1) := by decide +kernel
theorem dL_refunds_183 : decode cL_refunds 183 = .ok (.iload 6, 2) := by decide +kernel
theorem dL_refunds_185 : decode cL_refunds 185 = .ok (.iload 10, 2) := by decide +kernel
theorem dL_refunds_187 : decode cL_refunds 187 = .ok (.isub, 1) := by decide +kernel
theorem dL_refunds_188 : decode cL_refunds 188 = .ok (.istore 6, 2) := by decide +kernel
theorem dL_refunds_190 : decode cL_refunds 190 = .ok (.iinc 9 1, 3) := by decide +kernel
theorem dL_refunds_193 : decode cL_refunds 193 = .ok (.goto (-102), 3) := by decide +kernel
theorem dL_refunds_196 : decode cL_refunds 196 = .ok (.iinc 8 (-1), 3) := by decide +kernel
theorem dL_refunds_199 : decode cL_refunds 199 = .ok (.goto (-116), 3) := by decide +kernel
theorem dL_refunds_202 : decode cL_refunds 202 = .ok (.return_, 1) := by decide +kernel
theorem dL_acts_0 : decode cL_acts 0 = .ok (.iload 7, 2) := by decide +kernel
theorem dL_acts_2 : decode cL_acts 2 = .ok (.iconst 5, 1) := by decide +kernel
theorem dL_acts_3 : decode cL_acts 3 = .ok (.ishr, 1) := by decide +kernel
theorem dL_acts_4 : decode cL_acts 4 = .ok (.ldc 15, 2) := by decide +kernel
theorem dL_acts_6 : decode cL_acts 6 = .ok (.invokestatic 16, 3) := by decide +kernel
theorem dL_acts_9 : decode cL_acts 9 = .ok (.istore 8, 2) := by decide +kernel
theorem dL_acts_11 : decode cL_acts 11 = .ok (.iload 7, 2) := by decide +kernel
theorem dL_acts_13 : decode cL_acts 13 = .ok (.bipush 26, 2) := by decide +kernel
theorem dL_acts_15 : decode cL_acts 15 = .ok (.invokestatic 16, 3) := by decide +kernel
theorem dL_acts_18 : decode cL_acts 18 = .ok (.istore 9, 2) := by decide +kernel
theorem dL_acts_20 : decode cL_acts 20 = .ok (.iload 9, 2) := by decide +kernel
theorem dL_acts_22 : decode cL_acts 22 = .ok (.iconst 2, 1) := by decide +kernel
theorem dL_acts_23 : decode cL_acts 23 = .ok (.if_icmp .lt 9, 3) := by decide +kernel
theorem dL_acts_26 : decode cL_acts 26 = .ok (.aload_n 1, 1) := by decide +kernel
theorem dL_acts_27 : decode cL_acts 27 = .ok (.iconst 0, 1) := by decide +kernel
theorem dL_acts_28 : decode cL_acts 28 = .ok (.iaload, 1) := by decide +kernel
theorem dL_acts_29 : decode cL_acts 29 = .ok (.ifCond .ne 181, 3) := by decide +kernel
theorem dL_acts_32 : decode cL_acts 32 = .ok (.aload_n 1, 1) := by decide +kernel
theorem dL_acts_33 : decode cL_acts 33 = .ok (.iconst 0, 1) := by decide +kernel
theorem dL_acts_34 : decode cL_acts 34 = .ok (.iaload, 1) := by decide +kernel
theorem dL_acts_35 : decode cL_acts 35 = .ok (.iconst 3, 1) := by decide +kernel
theorem dL_acts_36 : decode cL_acts 36 = .ok (.if_icmp .ne 36, 3) := by decide +kernel
theorem dL_acts_39 : decode cL_acts 39 = .ok (.aload_n 0, 1) := by decide +kernel
theorem dL_acts_40 : decode cL_acts 40 = .ok (.bipush 19, 2) := by decide +kernel
theorem dL_acts_42 : decode cL_acts 42 = .ok (.iconst 0, 1) := by decide +kernel
theorem dL_acts_43 : decode cL_acts 43 = .ok (.iconst 1, 1) := by decide +kernel
theorem dL_acts_44 : decode cL_acts 44 = .ok (.iconst 2, 1) := by decide +kernel
theorem dL_acts_45 : decode cL_acts 45 = .ok (.invokevirtual 20, 3) := by decide +kernel
theorem dL_acts_48 : decode cL_acts 48 = .ok (.iconst (-1), 1) := by decide +kernel
theorem dL_acts_49 : decode cL_acts 49 = .ok (.if_icmp .ne 21, 3) := by decide +kernel
theorem dL_acts_52 : decode cL_acts 52 = .ok (.aload_n 0, 1) := by decide +kernel
theorem dL_acts_53 : decode cL_acts 53 = .ok (.bipush 20, 2) := by decide +kernel
theorem dL_acts_55 : decode cL_acts 55 = .ok (.bipush 61, 2) := by decide +kernel
theorem dL_acts_57 : decode cL_acts 57 = .ok (.iconst 1, 1) := by decide +kernel
theorem dL_acts_58 : decode cL_acts 58 = .ok (.iconst 2, 1) := by decide +kernel
theorem dL_acts_59 : decode cL_acts 59 = .ok (.invokevirtual 20, 3) := by decide +kernel
theorem dL_acts_62 : decode cL_acts 62 = .ok (.iconst (-1), 1) := by decide +kernel
theorem dL_acts_63 : decode cL_acts 63 = .ok (.if_icmp .ne 7, 3) := by decide +kernel
theorem dL_acts_66 : decode cL_acts 66 = .ok (.iconst 1, 1) := by decide +kernel
theorem dL_acts_67 : decode cL_acts 67 = .ok (.goto 4, 3) := by decide +kernel
theorem dL_acts_70 : decode cL_acts 70 = .ok (.iconst 0, 1) := by decide +kernel
theorem dL_acts_71 : decode cL_acts 71 = .ok (.ireturn, 1) := by decide +kernel
theorem dL_acts_72 : decode cL_acts 72 = .ok (.bipush 11, 2) := by decide +kernel
theorem dL_acts_74 : decode cL_acts 74 = .ok (.aload_n 1, 1) := by decide +kernel
theorem dL_acts_75 : decode cL_acts 75 = .ok (.iconst 0, 1) := by decide +kernel
theorem dL_acts_76 : decode cL_acts 76 = .ok (.iaload, 1) := by decide +kernel
theorem dL_acts_77 : decode cL_acts 77 = .ok (.imul, 1) := by decide +kernel
theorem dL_acts_78 : decode cL_acts 78 = .ok (.istore 10, 2) := by decide +kernel
theorem dL_acts_80 : decode cL_acts 80 = .ok (.iconst 0, 1) := by decide +kernel
theorem dL_acts_81 : decode cL_acts 81 = .ok (.istore 11, 2) := by decide +kernel
theorem dL_acts_83 : decode cL_acts 83 = .ok (.iload 11, 2) := by decide +kernel
theorem dL_acts_85 : decode cL_acts 85 = .ok (.bipush 11, 2) := by decide +kernel
theorem dL_acts_87 : decode cL_acts 87 = .ok (.if_icmp .ge 17, 3) := by decide +kernel
theorem dL_acts_90 : decode cL_acts 90 = .ok (.aload_n 3, 1) := by decide +kernel
theorem dL_acts_91 : decode cL_acts 91 = .ok (.iload 10, 2) := by decide +kernel
theorem dL_acts_93 : decode cL_acts 93 = .ok (.iload 11, 2) := by decide +kernel
theorem dL_acts_95 : decode cL_acts 95 = .ok (.iadd, 1) := by decide +kernel
theorem dL_acts_96 : decode cL_acts 96 = .ok (.iconst 0, 1) := by decide +kernel
theorem dL_acts_97 : decode cL_acts 97 = .ok (.iastore, 1) := by decide +kernel
theorem dL_acts_98 : decode cL_acts 98 = .ok (.iinc 11 1, 3) := by decide +kernel
theorem dL_acts_101 : decode cL_acts 101 = .ok (.goto (-18), 3) := by decide +kernel
theorem dL_acts_104 : decode cL_acts 104 = .ok (.aload_n 3, 1) := by decide +kernel
theorem dL_acts_105 : decode cL_acts 105 = .ok (.iload 10, 2) := by decide +kernel
theorem dL_acts_107 : decode cL_acts 107 = .ok (.bipush 20, 2) := by decide +kernel
theorem dL_acts_109 : decode cL_acts 109 = .ok (.iload 8, 2) := by decide +kernel
theorem dL_acts_111 : decode cL_acts 111 = .ok (.bipush 101, 2) := by decide +kernel
theorem dL_acts_113 : decode cL_acts 113 = .ok (.irem, 1) := by decide +kernel
theorem dL_acts_114 : decode cL_acts 114 = .ok (.iadd, 1) := by decide +kernel
theorem dL_acts_115 : decode cL_acts 115 = .ok (.iastore, 1) := by decide +kernel
theorem dL_acts_116 : decode cL_acts 116 = .ok (.aload_n 3, 1) := by decide +kernel
theorem dL_acts_117 : decode cL_acts 117 = .ok (.iload 10, 2) := by decide +kernel
theorem dL_acts_119 : decode cL_acts 119 = .ok (.iconst 1, 1) := by decide +kernel
theorem dL_acts_120 : decode cL_acts 120 = .ok (.iadd, 1) := by decide +kernel
theorem dL_acts_121 : decode cL_acts 121 = .ok (.iload 8, 2) := by decide +kernel
theorem dL_acts_123 : decode cL_acts 123 = .ok (.bipush 101, 2) := by decide +kernel
theorem dL_acts_125 : decode cL_acts 125 = .ok (.idiv, 1) := by decide +kernel
theorem dL_acts_126 : decode cL_acts 126 = .ok (.bipush 61, 2) := by decide +kernel
theorem dL_acts_128 : decode cL_acts 128 = .ok (.irem, 1) := by decide +kernel
theorem dL_acts_129 : decode cL_acts 129 = .ok (.iastore, 1) := by decide +kernel
theorem dL_acts_130 : decode cL_acts 130 = .ok (.aload_n 3, 1) := by decide +kernel
theorem dL_acts_131 : decode cL_acts 131 = .ok (.iload 10, 2) := by decide +kernel
theorem dL_acts_133 : decode cL_acts 133 = .ok (.iconst 2, 1) := by decide +kernel
theorem dL_acts_134 : decode cL_acts 134 = .ok (.iadd, 1) := by decide +kernel
theorem dL_acts_135 : decode cL_acts 135 = .ok (.iconst 1, 1) := by decide +kernel
theorem dL_acts_136 : decode cL_acts 136 = .ok (.iload 8, 2) := by decide +kernel
theorem dL_acts_138 : decode cL_acts 138 = .ok (.bipush 7, 2) := by decide +kernel
theorem dL_acts_140 : decode cL_acts 140 = .ok (.idiv, 1) := by decide +kernel
theorem dL_acts_141 : decode cL_acts 141 = .ok (.sipush 200, 3) := by decide +kernel
theorem dL_acts_144 : decode cL_acts 144 = .ok (.irem, 1) := by decide +kernel
theorem dL_acts_145 : decode cL_acts 145 = .ok (.iadd, 1) := by decide +kernel
theorem dL_acts_146 : decode cL_acts 146 = .ok (.iastore, 1) := by decide +kernel
theorem dL_acts_147 : decode cL_acts 147 = .ok (.aload_n 3, 1) := by decide +kernel
theorem dL_acts_148 : decode cL_acts 148 = .ok (.iload 10, 2) := by decide +kernel
theorem dL_acts_150 : decode cL_acts 150 = .ok (.iconst 3, 1) := by decide +kernel
theorem dL_acts_151 : decode cL_acts 151 = .ok (.iadd, 1) := by decide +kernel
theorem dL_acts_152 : decode cL_acts 152 = .ok (.iconst 2, 1) := by decide +kernel
theorem dL_acts_153 : decode cL_acts 153 = .ok (.iload 8, 2) := by decide +kernel
theorem dL_acts_155 : decode cL_acts 155 = .ok (.bipush 11, 2) := by decide +kernel
theorem dL_acts_157 : decode cL_acts 157 = .ok (.idiv, 1) := by decide +kernel
theorem dL_acts_158 : decode cL_acts 158 = .ok (.bipush 7, 2) := by decide +kernel
theorem dL_acts_160 : decode cL_acts 160 = .ok (.irem, 1) := by decide +kernel
theorem dL_acts_161 : decode cL_acts 161 = .ok (.iadd, 1) := by decide +kernel
theorem dL_acts_162 : decode cL_acts 162 = .ok (.iastore, 1) := by decide +kernel
theorem dL_acts_163 : decode cL_acts 163 = .ok (.aload_n 1, 1) := by decide +kernel
theorem dL_acts_164 : decode cL_acts 164 = .ok (.iconst 0, 1) := by decide +kernel
theorem dL_acts_165 : decode cL_acts 165 = .ok (.dup2, 1) := by decide +kernel
theorem dL_acts_166 : decode cL_acts 166 = .ok (.iaload, 1) := by decide +kernel
theorem dL_acts_167 : decode cL_acts 167 = .ok (.iconst 1, 1) := by decide +kernel
theorem dL_acts_168 : decode cL_acts 168 = .ok (.iadd, 1) := by decide +kernel
theorem dL_acts_169 : decode cL_acts 169 = .ok (.iastore, 1) := by decide +kernel
theorem dL_acts_170 : decode cL_acts 170 = .ok (.aload_n 0, 1) := by decide +kernel
theorem dL_acts_171 : decode cL_acts 171 = .ok (.aload_n 3, 1) := by decide +kernel
theorem dL_acts_172 : decode cL_acts 172 = .ok (.iload 10, 2) := by decide +kernel
theorem dL_acts_174 : decode cL_acts 174 = .ok (.iaload, 1) := by decide +kernel
theorem dL_acts_175 : decode cL_acts 175 = .ok (.aload_n 3, 1) := by decide +kernel
theorem dL_acts_176 : decode cL_acts 176 = .ok (.iload 10, 2) := by decide +kernel
theorem dL_acts_178 : decode cL_acts 178 = .ok (.iconst 1, 1) := by decide +kernel
theorem dL_acts_179 : decode cL_acts 179 = .ok (.iadd, 1) := by decide +kernel
theorem dL_acts_180 : decode cL_acts 180 = .ok (.iaload, 1) := by decide +kernel
theorem dL_acts_181 : decode cL_acts 181 = .ok (.aload_n 3, 1) := by decide +kernel
theorem dL_acts_182 : decode cL_acts 182 = .ok (.iload 10, 2) := by decide +kernel
theorem dL_acts_184 : decode cL_acts 184 = .ok (.iconst 2, 1) := by decide +kernel
theorem dL_acts_185 : decode cL_acts 185 = .ok (.iadd, 1) := by decide +kernel
theorem dL_acts_186 : decode cL_acts 186 = .ok (.iaload, 1) := by decide +kernel
theorem dL_acts_187 : decode cL_acts 187 = .ok (.aload_n 3, 1) := by decide +kernel
theorem dL_acts_188 : decode cL_acts 188 = .ok (.iload 10, 2) := by decide +kernel
theorem dL_acts_190 : decode cL_acts 190 = .ok (.iconst 3, 1) := by decide +kernel
theorem dL_acts_191 : decode cL_acts 191 = .ok (.iadd, 1) := by decide +kernel
theorem dL_acts_192 : decode cL_acts 192 = .ok (.iaload, 1) := by decide +kernel
theorem dL_acts_193 : decode cL_acts 193 = .ok (.invokevirtual 20, 3) := by decide +kernel
theorem dL_acts_196 : decode cL_acts 196 = .ok (.aload_n 1, 1) := by decide +kernel
theorem dL_acts_197 : decode cL_acts 197 = .ok (.iconst 0, 1) := by decide +kernel
theorem dL_acts_198 : decode cL_acts 198 = .ok (.iaload, 1) := by decide +kernel
theorem dL_acts_199 : decode cL_acts 199 = .ok (.iconst 1, 1) := by decide +kernel
theorem dL_acts_200 : decode cL_acts 200 = .ok (.isub, 1) := by decide +kernel
theorem dL_acts_201 : decode cL_acts 201 = .ok (.if_icmp .ne 7, 3) := by decide +kernel
theorem dL_acts_204 : decode cL_acts 204 = .ok (.iconst 1, 1) := by decide +kernel
theorem dL_acts_205 : decode cL_acts 205 = .ok (.goto 4, 3) := by decide +kernel
theorem dL_acts_208 : decode cL_acts 208 = .ok (.iconst 0, 1) := by decide +kernel
theorem dL_acts_209 : decode cL_acts 209 = .ok (.ireturn, 1) := by decide +kernel
theorem dL_acts_210 : decode cL_acts 210 = .ok (.iload 9, 2) := by decide +kernel
theorem dL_acts_212 : decode cL_acts 212 = .ok (.iconst 4, 1) := by decide +kernel
theorem dL_acts_213 : decode cL_acts 213 = .ok (.if_icmp .ge 109, 3) := by decide +kernel
theorem dL_acts_216 : decode cL_acts 216 = .ok (.aload_n 1, 1) := by decide +kernel
theorem dL_acts_217 : decode cL_acts 217 = .ok (.iconst 2, 1) := by decide +kernel
theorem dL_acts_218 : decode cL_acts 218 = .ok (.iaload, 1) := by decide +kernel
theorem dL_acts_219 : decode cL_acts 219 = .ok (.iconst 4, 1) := by decide +kernel
theorem dL_acts_220 : decode cL_acts 220 = .ok (.if_icmp .ne 29, 3) := by decide +kernel
theorem dL_acts_223 : decode cL_acts 223 = .ok (.aload_n 0, 1) := by decide +kernel
theorem dL_acts_224 : decode cL_acts 224 = .ok (.sipush 501, 3) := by decide +kernel
theorem dL_acts_227 : decode cL_acts 227 = .ok (.invokevirtual 26, 3) := by decide +kernel
theorem dL_acts_230 : decode cL_acts 230 = .ok (.iconst (-1), 1) := by decide +kernel
theorem dL_acts_231 : decode cL_acts 231 = .ok (.if_icmp .ne 16, 3) := by decide +kernel
theorem dL_acts_234 : decode cL_acts 234 = .ok (.aload_n 0, 1) := by decide +kernel
theorem dL_acts_235 : decode cL_acts 235 = .ok (.iconst 0, 1) := by decide +kernel
theorem dL_acts_236 : decode cL_acts 236 = .ok (.invokevirtual 26, 3) := by decide +kernel
theorem dL_acts_239 : decode cL_acts 239 = .ok (.iconst (-1), 1) := by decide +kernel
theorem dL_acts_240 : decode cL_acts 240 = .ok (.if_icmp .ne 7, 3) := by decide +kernel
theorem dL_acts_243 : decode cL_acts 243 = .ok (.iconst 1, 1) := by decide +kernel
theorem dL_acts_244 : decode cL_acts 244 = .ok (.goto 4, 3) := by decide +kernel
theorem dL_acts_247 : decode cL_acts 247 = .ok (.iconst 0, 1) := by decide +kernel
theorem dL_acts_248 : decode cL_acts 248 = .ok (.ireturn, 1) := by decide +kernel
theorem dL_acts_249 : decode cL_acts 249 = .ok (.iconst 2, 1) := by decide +kernel
theorem dL_acts_250 : decode cL_acts 250 = .ok (.aload_n 1, 1) := by decide +kernel
theorem dL_acts_251 : decode cL_acts 251 = .ok (.iconst 2, 1) := by decide +kernel
theorem dL_acts_252 : decode cL_acts 252 = .ok (.iaload, 1) := by decide +kernel
theorem dL_acts_253 : decode cL_acts 253 = .ok (.imul, 1) := by decide +kernel
theorem dL_acts_254 : decode cL_acts 254 = .ok (.istore 10, 2) := by decide +kernel
theorem dL_acts_256 : decode cL_acts 256 = .ok (.aload 6, 2) := by decide +kernel
theorem dL_acts_258 : decode cL_acts 258 = .ok (.iload 10, 2) := by decide +kernel
theorem dL_acts_260 : decode cL_acts 260 = .ok (.iconst 1, 1) := by decide +kernel
theorem dL_acts_261 : decode cL_acts 261 = .ok (.iload 8, 2) := by decide +kernel
theorem dL_acts_263 : decode cL_acts 263 = .ok (.sipush 500, 3) := by decide +kernel
theorem dL_acts_266 : decode cL_acts 266 = .ok (.irem, 1) := by decide +kernel
theorem dL_acts_267 : decode cL_acts 267 = .ok (.iadd, 1) := by decide +kernel
theorem dL_acts_268 : decode cL_acts 268 = .ok (.iastore, 1) := by decide +kernel
theorem dL_acts_269 : decode cL_acts 269 = .ok (.aload 6, 2) := by decide +kernel
theorem dL_acts_271 : decode cL_acts 271 = .ok (.iload 10, 2) := by decide +kernel
theorem dL_acts_273 : decode cL_acts 273 = .ok (.iconst 1, 1) := by decide +kernel
theorem dL_acts_274 : decode cL_acts 274 = .ok (.iadd, 1) := by decide +kernel
theorem dL_acts_275 : decode cL_acts 275 = .ok (.aload 6, 2) := by decide +kernel
theorem dL_acts_277 : decode cL_acts 277 = .ok (.iload 10, 2) := by decide +kernel
theorem dL_acts_279 : decode cL_acts 279 = .ok (.iaload, 1) := by decide +kernel
theorem dL_acts_280 : decode cL_acts 280 = .ok (.iastore, 1) := by decide +kernel
theorem dL_acts_281 : decode cL_acts 281 = .ok (.aload_n 1, 1) := by decide +kernel
theorem dL_acts_282 : decode cL_acts 282 = .ok (.iconst 3, 1) := by decide +kernel
theorem dL_acts_283 : decode cL_acts 283 = .ok (.dup2, 1) := by decide +kernel
theorem dL_acts_284 : decode cL_acts 284 = .ok (.iaload, 1) := by decide +kernel
theorem dL_acts_285 : decode cL_acts 285 = .ok (.aload 6, 2) := by decide +kernel
theorem dL_acts_287 : decode cL_acts 287 = .ok (.iload 10, 2) := by decide +kernel
theorem dL_acts_289 : decode cL_acts 289 = .ok (.iaload, 1) := by decide +kernel
theorem dL_acts_290 : decode cL_acts 290 = .ok (.iadd, 1) := by decide +kernel
theorem dL_acts_291 : decode cL_acts 291 = .ok (.iastore, 1) := by decide +kernel
theorem dL_acts_292 : decode cL_acts 292 = .ok (.aload_n 1, 1) := by decide +kernel
theorem dL_acts_293 : decode cL_acts 293 = .ok (.iconst 2, 1) := by decide +kernel
theorem dL_acts_294 : decode cL_acts 294 = .ok (.dup2, 1) := by decide +kernel
theorem dL_acts_295 : decode cL_acts 295 = .ok (.iaload, 1) := by decide +kernel
theorem dL_acts_296 : decode cL_acts 296 = .ok (.iconst 1, 1) := by decide +kernel
theorem dL_acts_297 : decode cL_acts 297 = .ok (.iadd, 1) := by decide +kernel
theorem dL_acts_298 : decode cL_acts 298 = .ok (.iastore, 1) := by decide +kernel
theorem dL_acts_299 : decode cL_acts 299 = .ok (.aload_n 0, 1) := by decide +kernel
theorem dL_acts_300 : decode cL_acts 300 = .ok (.aload 6, 2) := by decide +kernel
theorem dL_acts_302 : decode cL_acts 302 = .ok (.iload 10, 2) := by decide +kernel
theorem dL_acts_304 : decode cL_acts 304 = .ok (.iaload, 1) := by decide +kernel
theorem dL_acts_305 : decode cL_acts 305 = .ok (.invokevirtual 26, 3) := by decide +kernel
theorem dL_acts_308 : decode cL_acts 308 = .ok (.aload_n 1, 1) := by decide +kernel
theorem dL_acts_309 : decode cL_acts 309 = .ok (.iconst 2, 1) := by decide +kernel
theorem dL_acts_310 : decode cL_acts 310 = .ok (.iaload, 1) := by decide +kernel
theorem dL_acts_311 : decode cL_acts 311 = .ok (.iconst 1, 1) := by decide +kernel
theorem dL_acts_312 : decode cL_acts 312 = .ok (.isub, 1) := by decide +kernel
theorem dL_acts_313 : decode cL_acts 313 = .ok (.if_icmp .ne 7, 3) := by decide +kernel
theorem dL_acts_316 : decode cL_acts 316 = .ok (.iconst 1, 1) := by decide +kernel
theorem dL_acts_317 : decode cL_acts 317 = .ok (.goto 4, 3) := by decide +kernel
theorem dL_acts_320 : decode cL_acts 320 = .ok (.iconst 0, 1) := by decide +kernel
theorem dL_acts_321 : decode cL_acts 321 = .ok (.ireturn, 1) := by decide +kernel
theorem dL_acts_322 : decode cL_acts 322 = .ok (.iload 8, 2) := by decide +kernel
theorem dL_acts_324 : decode cL_acts 324 = .ok (.aload_n 1, 1) := by decide +kernel
theorem dL_acts_325 : decode cL_acts 325 = .ok (.iconst 0, 1) := by decide +kernel
theorem dL_acts_326 : decode cL_acts 326 = .ok (.iaload, 1) := by decide +kernel
theorem dL_acts_327 : decode cL_acts 327 = .ok (.irem, 1) := by decide +kernel
theorem dL_acts_328 : decode cL_acts 328 = .ok (.istore 10, 2) := by decide +kernel
theorem dL_acts_330 : decode cL_acts 330 = .ok (.iload 9, 2) := by decide +kernel
theorem dL_acts_332 : decode cL_acts 332 = .ok (.bipush 12, 2) := by decide +kernel
theorem dL_acts_334 : decode cL_acts 334 = .ok (.if_icmp .ge 441, 3) := by decide +kernel
theorem dL_acts_337 : decode cL_acts 337 = .ok (.iload 8, 2) := by decide +kernel
theorem dL_acts_339 : decode cL_acts 339 = .ok (.iconst 3, 1) := by decide +kernel
theorem dL_acts_340 : decode cL_acts 340 = .ok (.idiv, 1) := by decide +kernel
theorem dL_acts_341 : decode cL_acts 341 = .ok (.iload 8, 2) := by decide +kernel
theorem dL_acts_343 : decode cL_acts 343 = .ok (.iconst 2, 1) := by decide +kernel
theorem dL_acts_344 : decode cL_acts 344 = .ok (.irem, 1) := by decide +kernel
theorem dL_acts_345 : decode cL_acts 345 = .ok (.ifCond .ne 9, 3) := by decide +kernel
theorem dL_acts_348 : decode cL_acts 348 = .ok (.sipush 721, 3) := by decide +kernel
theorem dL_acts_351 : decode cL_acts 351 = .ok (.goto 6, 3) := by decide +kernel
theorem dL_acts_354 : decode cL_acts 354 = .ok (.sipush 240, 3) := by decide +kernel
theorem dL_acts_357 : decode cL_acts 357 = .ok (.irem, 1) := by decide +kernel
theorem dL_acts_358 : decode cL_acts 358 = .ok (.istore 11, 2) := by decide +kernel
theorem dL_acts_360 : decode cL_acts 360 = .ok (.iconst 2, 1) := by decide +kernel
theorem dL_acts_361 : decode cL_acts 361 = .ok (.iload 8, 2) := by decide +kernel
theorem dL_acts_363 : decode cL_acts 363 = .ok (.sipush 1440, 3) := by decide +kernel
theorem dL_acts_366 : decode cL_acts 366 = .ok (.idiv, 1) := by decide +kernel
theorem dL_acts_367 : decode cL_acts 367 = .ok (.aload_n 3, 1) := by decide +kernel
theorem dL_acts_368 : decode cL_acts 368 = .ok (.bipush 11, 2) := by decide +kernel
theorem dL_acts_370 : decode cL_acts 370 = .ok (.iload 10, 2) := by decide +kernel
theorem dL_acts_372 : decode cL_acts 372 = .ok (.imul, 1) := by decide +kernel
theorem dL_acts_373 : decode cL_acts 373 = .ok (.iconst 3, 1) := by decide +kernel
theorem dL_acts_374 : decode cL_acts 374 = .ok (.iadd, 1) := by decide +kernel
theorem dL_acts_375 : decode cL_acts 375 = .ok (.iaload, 1) := by decide +kernel
theorem dL_acts_376 : decode cL_acts 376 = .ok (.iconst 1, 1) := by decide +kernel
theorem dL_acts_377 : decode cL_acts 377 = .ok (.isub, 1) := by decide +kernel
theorem dL_acts_378 : decode cL_acts 378 = .ok (.irem, 1) := by decide +kernel
theorem dL_acts_379 : decode cL_acts 379 = .ok (.iadd, 1) := by decide +kernel
theorem dL_acts_380 : decode cL_acts 380 = .ok (.istore 12, 2) := by decide +kernel
theorem dL_acts_382 : decode cL_acts 382 = .ok (.iload 8, 2) := by decide +kernel
theorem dL_acts_384 : decode cL_acts 384 = .ok (.iconst 5, 1) := by decide +kernel
theorem dL_acts_385 : decode cL_acts 385 = .ok (.idiv, 1) := by decide +kernel
theorem dL_acts_386 : decode cL_acts 386 = .ok (.aload_n 1, 1) := by decide +kernel
theorem dL_acts_387 : decode cL_acts 387 = .ok (.iconst 2, 1) := by decide +kernel
theorem dL_acts_388 : decode cL_acts 388 = .ok (.iaload, 1) := by decide +kernel
theorem dL_acts_389 : decode cL_acts 389 = .ok (.iconst 1, 1) := by decide +kernel
theorem dL_acts_390 : decode cL_acts 390 = .ok (.iadd, 1) := by decide +kernel
theorem dL_acts_391 : decode cL_acts 391 = .ok (.irem, 1) := by decide +kernel
theorem dL_acts_392 : decode cL_acts 392 = .ok (.iconst 1, 1) := by decide +kernel
theorem dL_acts_393 : decode cL_acts 393 = .ok (.isub, 1) := by decide +kernel
theorem dL_acts_394 : decode cL_acts 394 = .ok (.istore 13, 2) := by decide +kernel
theorem dL_acts_396 : decode cL_acts 396 = .ok (.aload_n 1, 1) := by decide +kernel
theorem dL_acts_397 : decode cL_acts 397 = .ok (.aload_n 3, 1) := by decide +kernel
theorem dL_acts_398 : decode cL_acts 398 = .ok (.aload 4, 2) := by decide +kernel
theorem dL_acts_400 : decode cL_acts 400 = .ok (.iload 10, 2) := by decide +kernel
theorem dL_acts_402 : decode cL_acts 402 = .ok (.iload 11, 2) := by decide +kernel
theorem dL_acts_404 : decode cL_acts 404 = .ok (.iconst (-1), 1) := by decide +kernel
theorem dL_acts_405 : decode cL_acts 405 = .ok (.invokestatic 30, 3) := by decide +kernel
theorem dL_acts_408 : decode cL_acts 408 = .ok (.ifCond .ne 26, 3) := by decide +kernel
theorem dL_acts_411 : decode cL_acts 411 = .ok (.aload_n 0, 1) := by decide +kernel
theorem dL_acts_412 : decode cL_acts 412 = .ok (.iload 10, 2) := by decide +kernel
theorem dL_acts_414 : decode cL_acts 414 = .ok (.iload 11, 2) := by decide +kernel
theorem dL_acts_416 : decode cL_acts 416 = .ok (.iload 12, 2) := by decide +kernel
theorem dL_acts_418 : decode cL_acts 418 = .ok (.iload 13, 2) := by decide +kernel
theorem dL_acts_420 : decode cL_acts 420 = .ok (.invokevirtual 34, 3) := by decide +kernel
theorem dL_acts_423 : decode cL_acts 423 = .ok (.bipush (-2), 2) := by decide +kernel
theorem dL_acts_425 : decode cL_acts 425 = .ok (.if_icmp .ne 7, 3) := by decide +kernel
theorem dL_acts_428 : decode cL_acts 428 = .ok (.iconst 1, 1) := by decide +kernel
theorem dL_acts_429 : decode cL_acts 429 = .ok (.goto 4, 3) := by decide +kernel
theorem dL_acts_432 : decode cL_acts 432 = .ok (.iconst 0, 1) := by decide +kernel
theorem dL_acts_433 : decode cL_acts 433 = .ok (.ireturn, 1) := by decide +kernel
theorem dL_acts_434 : decode cL_acts 434 = .ok (.aload_n 1, 1) := by decide +kernel
theorem dL_acts_435 : decode cL_acts 435 = .ok (.iconst 1, 1) := by decide +kernel
theorem dL_acts_436 : decode cL_acts 436 = .ok (.iaload, 1) := by decide +kernel
theorem dL_acts_437 : decode cL_acts 437 = .ok (.bipush 7, 2) := by decide +kernel
theorem dL_acts_439 : decode cL_acts 439 = .ok (.if_icmp .ne 49, 3) := by decide +kernel
theorem dL_acts_442 : decode cL_acts 442 = .ok (.aload_n 0, 1) := by decide +kernel
theorem dL_acts_443 : decode cL_acts 443 = .ok (.iload 10, 2) := by decide +kernel
theorem dL_acts_445 : decode cL_acts 445 = .ok (.iload 11, 2) := by decide +kernel
theorem dL_acts_447 : decode cL_acts 447 = .ok (.aload_n 3, 1) := by decide +kernel
theorem dL_acts_448 : decode cL_acts 448 = .ok (.bipush 11, 2) := by decide +kernel
theorem dL_acts_450 : decode cL_acts 450 = .ok (.iload 10, 2) := by decide +kernel
theorem dL_acts_452 : decode cL_acts 452 = .ok (.imul, 1) := by decide +kernel
theorem dL_acts_453 : decode cL_acts 453 = .ok (.iconst 3, 1) := by decide +kernel
theorem dL_acts_454 : decode cL_acts 454 = .ok (.iadd, 1) := by decide +kernel
theorem dL_acts_455 : decode cL_acts 455 = .ok (.iaload, 1) := by decide +kernel
theorem dL_acts_456 : decode cL_acts 456 = .ok (.iconst 1, 1) := by decide +kernel
theorem dL_acts_457 : decode cL_acts 457 = .ok (.iadd, 1) := by decide +kernel
theorem dL_acts_458 : decode cL_acts 458 = .ok (.iload 13, 2) := by decide +kernel
theorem dL_acts_460 : decode cL_acts 460 = .ok (.invokevirtual 34, 3) := by decide +kernel
theorem dL_acts_463 : decode cL_acts 463 = .ok (.iconst (-1), 1) := by decide +kernel
theorem dL_acts_464 : decode cL_acts 464 = .ok (.if_icmp .ne 22, 3) := by decide +kernel
theorem dL_acts_467 : decode cL_acts 467 = .ok (.aload_n 0, 1) := by decide +kernel
theorem dL_acts_468 : decode cL_acts 468 = .ok (.iload 10, 2) := by decide +kernel
theorem dL_acts_470 : decode cL_acts 470 = .ok (.sipush 721, 3) := by decide +kernel
theorem dL_acts_473 : decode cL_acts 473 = .ok (.iconst 2, 1) := by decide +kernel
theorem dL_acts_474 : decode cL_acts 474 = .ok (.iconst (-1), 1) := by decide +kernel
theorem dL_acts_475 : decode cL_acts 475 = .ok (.invokevirtual 34, 3) := by decide +kernel
theorem dL_acts_478 : decode cL_acts 478 = .ok (.iconst (-1), 1) := by decide +kernel
theorem dL_acts_479 : decode cL_acts 479 = .ok (.if_icmp .ne 7, 3) := by decide +kernel
theorem dL_acts_482 : decode cL_acts 482 = .ok (.iconst 1, 1) := by decide +kernel
theorem dL_acts_483 : decode cL_acts 483 = .ok (.goto 4, 3) := by decide +kernel
theorem dL_acts_486 : decode cL_acts 486 = .ok (.iconst 0, 1) := by decide +kernel
theorem dL_acts_487 : decode cL_acts 487 = .ok (.ireturn, 1) := by decide +kernel
theorem dL_acts_488 : decode cL_acts 488 = .ok (.aload_n 1, 1) := by decide +kernel
theorem dL_acts_489 : decode cL_acts 489 = .ok (.iconst 1, 1) := by decide +kernel
theorem dL_acts_490 : decode cL_acts 490 = .ok (.iaload, 1) := by decide +kernel
theorem dL_acts_491 : decode cL_acts 491 = .ok (.istore 14, 2) := by decide +kernel
theorem dL_acts_493 : decode cL_acts 493 = .ok (.aload_n 3, 1) := by decide +kernel
theorem dL_acts_494 : decode cL_acts 494 = .ok (.bipush 11, 2) := by decide +kernel
theorem dL_acts_496 : decode cL_acts 496 = .ok (.iload 10, 2) := by decide +kernel
theorem dL_acts_498 : decode cL_acts 498 = .ok (.imul, 1) := by decide +kernel
theorem dL_acts_499 : decode cL_acts 499 = .ok (.iconst 2, 1) := by decide +kernel
theorem dL_acts_500 : decode cL_acts 500 = .ok (.iadd, 1) := by decide +kernel
theorem dL_acts_501 : decode cL_acts 501 = .ok (.iaload, 1) := by decide +kernel
theorem dL_acts_502 : decode cL_acts 502 = .ok (.iload 12, 2) := by decide +kernel
theorem dL_acts_504 : decode cL_acts 504 = .ok (.imul, 1) := by decide +kernel
theorem dL_acts_505 : decode cL_acts 505 = .ok (.istore 15, 2) := by decide +kernel
theorem dL_acts_507 : decode cL_acts 507 = .ok (.iload 13, 2) := by decide +kernel
theorem dL_acts_509 : decode cL_acts 509 = .ok (.ifCond .ge 7, 3) := by decide +kernel
theorem dL_acts_512 : decode cL_acts 512 = .ok (.iconst 0, 1) := by decide +kernel
theorem dL_acts_513 : decode cL_acts 513 = .ok (.goto 31, 3) := by decide +kernel
theorem dL_acts_516 : decode cL_acts 516 = .ok (.aload 6, 2) := by decide +kernel
theorem dL_acts_518 : decode cL_acts 518 = .ok (.iconst 2, 1) := by decide +kernel
theorem dL_acts_519 : decode cL_acts 519 = .ok (.iload 13, 2) := by decide +kernel
theorem dL_acts_521 : decode cL_acts 521 = .ok (.imul, 1) := by decide +kernel
theorem dL_acts_522 : decode cL_acts 522 = .ok (.iconst 1, 1) := by decide +kernel
theorem dL_acts_523 : decode cL_acts 523 = .ok (.iadd, 1) := by decide +kernel
theorem dL_acts_524 : decode cL_acts 524 = .ok (.iaload, 1) := by decide +kernel
theorem dL_acts_525 : decode cL_acts 525 = .ok (.iload 15, 2) := by decide +kernel
theorem dL_acts_527 : decode cL_acts 527 = .ok (.if_icmp .ge 15, 3) := by decide +kernel
theorem dL_acts_530 : decode cL_acts 530 = .ok (.aload 6, 2) := by decide +kernel
theorem dL_acts_532 : decode cL_acts 532 = .ok (.iconst 2, 1) := by decide +kernel
theorem dL_acts_533 : decode cL_acts 533 = .ok (.iload 13, 2) := by decide +kernel
theorem dL_acts_535 : decode cL_acts 535 = .ok (.imul, 1) := by decide +kernel
theorem dL_acts_536 : decode cL_acts 536 = .ok (.iconst 1, 1) := by decide +kernel
theorem dL_acts_537 : decode cL_acts 537 = .ok (.iadd, 1) := by decide +kernel
theorem dL_acts_538 : decode cL_acts 538 = .ok (.iaload, 1) := by decide +kernel
theorem dL_acts_539 : decode cL_acts 539 = .ok (.goto 5, 3) := by decide +kernel
theorem dL_acts_542 : decode cL_acts 542 = .ok (.iload 15, 2) := by decide +kernel
theorem dL_acts_544 : decode cL_acts 544 = .ok (.istore 16, 2) := by decide +kernel
theorem dL_acts_546 : decode cL_acts 546 = .ok (.aload 4, 2) := by decide +kernel
theorem dL_acts_548 : decode cL_acts 548 = .ok (.bipush 9, 2) := by decide +kernel
theorem dL_acts_550 : decode cL_acts 550 = .ok (.iload 14, 2) := by decide +kernel
theorem dL_acts_552 : decode cL_acts 552 = .ok (.imul, 1) := by decide +kernel
theorem dL_acts_553 : decode cL_acts 553 = .ok (.iload 10, 2) := by decide +kernel
theorem dL_acts_555 : decode cL_acts 555 = .ok (.iastore, 1) := by decide +kernel
theorem dL_acts_556 : decode cL_acts 556 = .ok (.aload 4, 2) := by decide +kernel
theorem dL_acts_558 : decode cL_acts 558 = .ok (.bipush 9, 2) := by decide +kernel
theorem dL_acts_560 : decode cL_acts 560 = .ok (.iload 14, 2) := by decide +kernel
theorem dL_acts_562 : decode cL_acts 562 = .ok (.imul, 1) := by decide +kernel
theorem dL_acts_563 : decode cL_acts 563 = .ok (.iconst 1, 1) := by decide +kernel
theorem dL_acts_564 : decode cL_acts 564 = .ok (.iadd, 1) := by decide +kernel
theorem dL_acts_565 : decode cL_acts 565 = .ok (.iload 11, 2) := by decide +kernel
theorem dL_acts_567 : decode cL_acts 567 = .ok (.iastore, 1) := by decide +kernel
theorem dL_acts_568 : decode cL_acts 568 = .ok (.aload 4, 2) := by decide +kernel
theorem dL_acts_570 : decode cL_acts 570 = .ok (.bipush 9, 2) := by decide +kernel
theorem dL_acts_572 : decode cL_acts 572 = .ok (.iload 14, 2) := by decide +kernel
theorem dL_acts_574 : decode cL_acts 574 = .ok (.imul, 1) := by decide +kernel
theorem dL_acts_575 : decode cL_acts 575 = .ok (.iconst 2, 1) := by decide +kernel
theorem dL_acts_576 : decode cL_acts 576 = .ok (.iadd, 1) := by decide +kernel
theorem dL_acts_577 : decode cL_acts 577 = .ok (.iload 12, 2) := by decide +kernel
theorem dL_acts_579 : decode cL_acts 579 = .ok (.iastore, 1) := by decide +kernel
theorem dL_acts_580 : decode cL_acts 580 = .ok (.aload 4, 2) := by decide +kernel
theorem dL_acts_582 : decode cL_acts 582 = .ok (.bipush 9, 2) := by decide +kernel
theorem dL_acts_584 : decode cL_acts 584 = .ok (.iload 14, 2) := by decide +kernel
theorem dL_acts_586 : decode cL_acts 586 = .ok (.imul, 1) := by decide +kernel
theorem dL_acts_587 : decode cL_acts 587 = .ok (.iconst 3, 1) := by decide +kernel
theorem dL_acts_588 : decode cL_acts 588 = .ok (.iadd, 1) := by decide +kernel
theorem dL_acts_589 : decode cL_acts 589 = .ok (.iconst 0, 1) := by decide +kernel
theorem dL_acts_590 : decode cL_acts 590 = .ok (.iastore, 1) := by decide +kernel
theorem dL_acts_591 : decode cL_acts 591 = .ok (.aload 4, 2) := by decide +kernel
theorem dL_acts_593 : decode cL_acts 593 = .ok (.bipush 9, 2) := by decide +kernel
theorem dL_acts_595 : decode cL_acts 595 = .ok (.iload 14, 2) := by decide +kernel
theorem dL_acts_597 : decode cL_acts 597 = .ok (.imul, 1) := by decide +kernel
theorem dL_acts_598 : decode cL_acts 598 = .ok (.iconst 4, 1) := by decide +kernel
theorem dL_acts_599 : decode cL_acts 599 = .ok (.iadd, 1) := by decide +kernel
theorem dL_acts_600 : decode cL_acts 600 = .ok (.iload 15, 2) := by decide +kernel
theorem dL_acts_602 : decode cL_acts 602 = .ok (.iastore, 1) := by decide +kernel
theorem dL_acts_603 : decode cL_acts 603 = .ok (.aload 4, 2) := by decide +kernel
theorem dL_acts_605 : decode cL_acts 605 = .ok (.bipush 9, 2) := by decide +kernel
theorem dL_acts_607 : decode cL_acts 607 = .ok (.iload 14, 2) := by decide +kernel
theorem dL_acts_609 : decode cL_acts 609 = .ok (.imul, 1) := by decide +kernel
theorem dL_acts_610 : decode cL_acts 610 = .ok (.iconst 5, 1) := by decide +kernel
theorem dL_acts_611 : decode cL_acts 611 = .ok (.iadd, 1) := by decide +kernel
theorem dL_acts_612 : decode cL_acts 612 = .ok (.iload 15, 2) := by decide +kernel
theorem dL_acts_614 : decode cL_acts 614 = .ok (.iload 16, 2) := by decide +kernel
theorem dL_acts_616 : decode cL_acts 616 = .ok (.isub, 1) := by decide +kernel
theorem dL_acts_617 : decode cL_acts 617 = .ok (.iastore, 1) := by decide +kernel
theorem dL_acts_618 : decode cL_acts 618 = .ok (.aload 4, 2) := by decide +kernel
theorem dL_acts_620 : decode cL_acts 620 = .ok (.bipush 9, 2) := by decide +kernel
theorem dL_acts_622 : decode cL_acts 622 = .ok (.iload 14, 2) := by decide +kernel
theorem dL_acts_624 : decode cL_acts 624 = .ok (.imul, 1) := by decide +kernel
theorem dL_acts_625 : decode cL_acts 625 = .ok (.bipush 6, 2) := by decide +kernel
theorem dL_acts_627 : decode cL_acts 627 = .ok (.iadd, 1) := by decide +kernel
theorem dL_acts_628 : decode cL_acts 628 = .ok (.iconst 0, 1) := by decide +kernel
theorem dL_acts_629 : decode cL_acts 629 = .ok (.iastore, 1) := by decide +kernel
theorem dL_acts_630 : decode cL_acts 630 = .ok (.aload 4, 2) := by decide +kernel
theorem dL_acts_632 : decode cL_acts 632 = .ok (.bipush 9, 2) := by decide +kernel
theorem dL_acts_634 : decode cL_acts 634 = .ok (.iload 14, 2) := by decide +kernel
theorem dL_acts_636 : decode cL_acts 636 = .ok (.imul, 1) := by decide +kernel
theorem dL_acts_637 : decode cL_acts 637 = .ok (.bipush 7, 2) := by decide +kernel
theorem dL_acts_639 : decode cL_acts 639 = .ok (.iadd, 1) := by decide +kernel
theorem dL_acts_640 : decode cL_acts 640 = .ok (.bipush (-9), 2) := by decide +kernel
theorem dL_acts_642 : decode cL_acts 642 = .ok (.iastore, 1) := by decide +kernel
theorem dL_acts_643 : decode cL_acts 643 = .ok (.aload 4, 2) := by decide +kernel
theorem dL_acts_645 : decode cL_acts 645 = .ok (.bipush 9, 2) := by decide +kernel
theorem dL_acts_647 : decode cL_acts 647 = .ok (.iload 14, 2) := by decide +kernel
theorem dL_acts_649 : decode cL_acts 649 = .ok (.imul, 1) := by decide +kernel
theorem dL_acts_650 : decode cL_acts 650 = .ok (.bipush 8, 2) := by decide +kernel
theorem dL_acts_652 : decode cL_acts 652 = .ok (.iadd, 1) := by decide +kernel
theorem dL_acts_653 : decode cL_acts 653 = .ok (.bipush (-9), 2) := by decide +kernel
theorem dL_acts_655 : decode cL_acts 655 = .ok (.iastore, 1) := by decide +kernel
theorem dL_acts_656 : decode cL_acts 656 = .ok (.aload 5, 2) := by decide +kernel
theorem dL_acts_658 : decode cL_acts 658 = .ok (.iconst 4, 1) := by decide +kernel
theorem dL_acts_659 : decode cL_acts 659 = .ok (.iload 14, 2) := by decide +kernel
theorem dL_acts_661 : decode cL_acts 661 = .ok (.imul, 1) := by decide +kernel
theorem dL_acts_662 : decode cL_acts 662 = .ok (.iload 13, 2) := by decide +kernel
theorem dL_acts_664 : decode cL_acts 664 = .ok (.iastore, 1) := by decide +kernel
theorem dL_acts_665 : decode cL_acts 665 = .ok (.aload 5, 2) := by decide +kernel
theorem dL_acts_667 : decode cL_acts 667 = .ok (.iconst 4, 1) := by decide +kernel
theorem dL_acts_668 : decode cL_acts 668 = .ok (.iload 14, 2) := by decide +kernel
theorem dL_acts_670 : decode cL_acts 670 = .ok (.imul, 1) := by decide +kernel
theorem dL_acts_671 : decode cL_acts 671 = .ok (.iconst 1, 1) := by decide +kernel
theorem dL_acts_672 : decode cL_acts 672 = .ok (.iadd, 1) := by decide +kernel
theorem dL_acts_673 : decode cL_acts 673 = .ok (.iload 16, 2) := by decide +kernel
theorem dL_acts_675 : decode cL_acts 675 = .ok (.iastore, 1) := by decide +kernel
theorem dL_acts_676 : decode cL_acts 676 = .ok (.aload 5, 2) := by decide +kernel
theorem dL_acts_678 : decode cL_acts 678 = .ok (.iconst 4, 1) := by decide +kernel
theorem dL_acts_679 : decode cL_acts 679 = .ok (.iload 14, 2) := by decide +kernel
theorem dL_acts_681 : decode cL_acts 681 = .ok (.imul, 1) := by decide +kernel
theorem dL_acts_682 : decode cL_acts 682 = .ok (.iconst 2, 1) := by decide +kernel
theorem dL_acts_683 : decode cL_acts 683 = .ok (.iadd, 1) := by decide +kernel
theorem dL_acts_684 : decode cL_acts 684 = .ok (.iload 16, 2) := by decide +kernel
theorem dL_acts_686 : decode cL_acts 686 = .ok (.ifCond .le 8, 3) := by decide +kernel
theorem dL_acts_689 : decode cL_acts 689 = .ok (.iload 14, 2) := by decide +kernel
theorem dL_acts_691 : decode cL_acts 691 = .ok (.goto 4, 3) := by decide +kernel
theorem dL_acts_694 : decode cL_acts 694 = .ok (.iconst (-1), 1) := by decide +kernel
theorem dL_acts_695 : decode cL_acts 695 = .ok (.iastore, 1) := by decide +kernel
theorem dL_acts_696 : decode cL_acts 696 = .ok (.aload 5, 2) := by decide +kernel
theorem dL_acts_698 : decode cL_acts 698 = .ok (.iconst 4, 1) := by decide +kernel
theorem dL_acts_699 : decode cL_acts 699 = .ok (.iload 14, 2) := by decide +kernel
theorem dL_acts_701 : decode cL_acts 701 = .ok (.imul, 1) := by decide +kernel
theorem dL_acts_702 : decode cL_acts 702 = .ok (.iconst 3, 1) := by decide +kernel
theorem dL_acts_703 : decode cL_acts 703 = .ok (.iadd, 1) := by decide +kernel
theorem dL_acts_704 : decode cL_acts 704 = .ok (.aload_n 1, 1) := by decide +kernel
theorem dL_acts_705 : decode cL_acts 705 = .ok (.iconst 4, 1) := by decide +kernel
theorem dL_acts_706 : decode cL_acts 706 = .ok (.iaload, 1) := by decide +kernel
theorem dL_acts_707 : decode cL_acts 707 = .ok (.iastore, 1) := by decide +kernel
theorem dL_acts_708 : decode cL_acts 708 = .ok (.aload_n 1, 1) := by decide +kernel
theorem dL_acts_709 : decode cL_acts 709 = .ok (.iconst 4, 1) := by decide +kernel
theorem dL_acts_710 : decode cL_acts 710 = .ok (.dup2, 1) := by decide +kernel
theorem dL_acts_711 : decode cL_acts 711 = .ok (.iaload, 1) := by decide +kernel
theorem dL_acts_712 : decode cL_acts 712 = .ok (.iconst 1, 1) := by decide +kernel
theorem dL_acts_713 : decode cL_acts 713 = .ok (.iadd, 1) := by decide +kernel
theorem dL_acts_714 : decode cL_acts 714 = .ok (.iastore, 1) := by decide +kernel
theorem dL_acts_715 : decode cL_acts 715 = .ok (.aload_n 1, 1) := by decide +kernel
theorem dL_acts_716 : decode cL_acts 716 = .ok (.iconst 3, 1) := by decide +kernel
theorem dL_acts_717 : decode cL_acts 717 = .ok (.dup2, 1) := by decide +kernel
theorem dL_acts_718 : decode cL_acts 718 = .ok (.iaload, 1) := by decide +kernel
theorem dL_acts_719 : decode cL_acts 719 = .ok (.iload 15, 2) := by decide +kernel
theorem dL_acts_721 : decode cL_acts 721 = .ok (.iload 16, 2) := by decide +kernel
theorem dL_acts_723 : decode cL_acts 723 = .ok (.isub, 1) := by decide +kernel
theorem dL_acts_724 : decode cL_acts 724 = .ok (.iadd, 1) := by decide +kernel
theorem dL_acts_725 : decode cL_acts 725 = .ok (.iastore, 1) := by decide +kernel
theorem dL_acts_726 : decode cL_acts 726 = .ok (.iload 16, 2) := by decide +kernel
theorem dL_acts_728 : decode cL_acts 728 = .ok (.ifCond .le 17, 3) := by decide +kernel
theorem dL_acts_731 : decode cL_acts 731 = .ok (.aload 6, 2) := by decide +kernel
theorem dL_acts_733 : decode cL_acts 733 = .ok (.iconst 2, 1) := by decide +kernel
theorem dL_acts_734 : decode cL_acts 734 = .ok (.iload 13, 2) := by decide +kernel
theorem dL_acts_736 : decode cL_acts 736 = .ok (.imul, 1) := by decide +kernel
theorem dL_acts_737 : decode cL_acts 737 = .ok (.iconst 1, 1) := by decide +kernel
theorem dL_acts_738 : decode cL_acts 738 = .ok (.iadd, 1) := by decide +kernel
theorem dL_acts_739 : decode cL_acts 739 = .ok (.dup2, 1) := by decide +kernel
theorem dL_acts_740 : decode cL_acts 740 = .ok (.iaload, 1) := by decide +kernel
theorem dL_acts_741 : decode cL_acts 741 = .ok (.iload 16, 2) := by decide +kernel
theorem dL_acts_743 : decode cL_acts 743 = .ok (.isub, 1) := by decide +kernel
theorem dL_acts_744 : decode cL_acts 744 = .ok (.iastore, 1) := by decide +kernel
theorem dL_acts_745 : decode cL_acts 745 = .ok (.aload_n 1, 1) := by decide +kernel
theorem dL_acts_746 : decode cL_acts 746 = .ok (.iconst 1, 1) := by decide +kernel
theorem dL_acts_747 : decode cL_acts 747 = .ok (.dup2, 1) := by decide +kernel
theorem dL_acts_748 : decode cL_acts 748 = .ok (.iaload, 1) := by decide +kernel
theorem dL_acts_749 : decode cL_acts 749 = .ok (.iconst 1, 1) := by decide +kernel
theorem dL_acts_750 : decode cL_acts 750 = .ok (.iadd, 1) := by decide +kernel
theorem dL_acts_751 : decode cL_acts 751 = .ok (.iastore, 1) := by decide +kernel
theorem dL_acts_752 : decode cL_acts 752 = .ok (.aload_n 0, 1) := by decide +kernel
theorem dL_acts_753 : decode cL_acts 753 = .ok (.iload 10, 2) := by decide +kernel
theorem dL_acts_755 : decode cL_acts 755 = .ok (.iload 11, 2) := by decide +kernel
theorem dL_acts_757 : decode cL_acts 757 = .ok (.iload 12, 2) := by decide +kernel
theorem dL_acts_759 : decode cL_acts 759 = .ok (.iload 13, 2) := by decide +kernel
theorem dL_acts_761 : decode cL_acts 761 = .ok (.invokevirtual 34, 3) := by decide +kernel
theorem dL_acts_764 : decode cL_acts 764 = .ok (.iload 14, 2) := by decide +kernel
theorem dL_acts_766 : decode cL_acts 766 = .ok (.if_icmp .ne 7, 3) := by decide +kernel
theorem dL_acts_769 : decode cL_acts 769 = .ok (.iconst 1, 1) := by decide +kernel
theorem dL_acts_770 : decode cL_acts 770 = .ok (.goto 4, 3) := by decide +kernel
theorem dL_acts_773 : decode cL_acts 773 = .ok (.iconst 0, 1) := by decide +kernel
theorem dL_acts_774 : decode cL_acts 774 = .ok (.ireturn, 1) := by decide +kernel
theorem dL_acts_775 : decode cL_acts 775 = .ok (.iload 9, 2) := by decide +kernel
theorem dL_acts_777 : decode cL_acts 777 = .ok (.bipush 12, 2) := by decide +kernel
theorem dL_acts_779 : decode cL_acts 779 = .ok (.if_icmp .ne 59, 3) := by decide +kernel
theorem dL_acts_782 : decode cL_acts 782 = .ok (.aload_n 3, 1) := by decide +kernel
theorem dL_acts_783 : decode cL_acts 783 = .ok (.bipush 11, 2) := by decide +kernel
theorem dL_acts_785 : decode cL_acts 785 = .ok (.iload 10, 2) := by decide +kernel
theorem dL_acts_787 : decode cL_acts 787 = .ok (.imul, 1) := by decide +kernel
theorem dL_acts_788 : decode cL_acts 788 = .ok (.iconst 2, 1) := by decide +kernel
theorem dL_acts_789 : decode cL_acts 789 = .ok (.iadd, 1) := by decide +kernel
theorem dL_acts_790 : decode cL_acts 790 = .ok (.iaload, 1) := by decide +kernel
theorem dL_acts_791 : decode cL_acts 791 = .ok (.istore 11, 2) := by decide +kernel
theorem dL_acts_793 : decode cL_acts 793 = .ok (.aload_n 3, 1) := by decide +kernel
theorem dL_acts_794 : decode cL_acts 794 = .ok (.bipush 11, 2) := by decide +kernel
theorem dL_acts_796 : decode cL_acts 796 = .ok (.iload 10, 2) := by decide +kernel
theorem dL_acts_798 : decode cL_acts 798 = .ok (.imul, 1) := by decide +kernel
theorem dL_acts_799 : decode cL_acts 799 = .ok (.iconst 2, 1) := by decide +kernel
theorem dL_acts_800 : decode cL_acts 800 = .ok (.iadd, 1) := by decide +kernel
theorem dL_acts_801 : decode cL_acts 801 = .ok (.iconst 1, 1) := by decide +kernel
theorem dL_acts_802 : decode cL_acts 802 = .ok (.iload 8, 2) := by decide +kernel
theorem dL_acts_804 : decode cL_acts 804 = .ok (.iconst 3, 1) := by decide +kernel
theorem dL_acts_805 : decode cL_acts 805 = .ok (.idiv, 1) := by decide +kernel
theorem dL_acts_806 : decode cL_acts 806 = .ok (.sipush 200, 3) := by decide +kernel
theorem dL_acts_809 : decode cL_acts 809 = .ok (.irem, 1) := by decide +kernel
theorem dL_acts_810 : decode cL_acts 810 = .ok (.iadd, 1) := by decide +kernel
theorem dL_acts_811 : decode cL_acts 811 = .ok (.iastore, 1) := by decide +kernel
theorem dL_acts_812 : decode cL_acts 812 = .ok (.aload_n 0, 1) := by decide +kernel
theorem dL_acts_813 : decode cL_acts 813 = .ok (.iload 10, 2) := by decide +kernel
theorem dL_acts_815 : decode cL_acts 815 = .ok (.aload_n 3, 1) := by decide +kernel
theorem dL_acts_816 : decode cL_acts 816 = .ok (.bipush 11, 2) := by decide +kernel
theorem dL_acts_818 : decode cL_acts 818 = .ok (.iload 10, 2) := by decide +kernel
theorem dL_acts_820 : decode cL_acts 820 = .ok (.imul, 1) := by decide +kernel
theorem dL_acts_821 : decode cL_acts 821 = .ok (.iconst 2, 1) := by decide +kernel
theorem dL_acts_822 : decode cL_acts 822 = .ok (.iadd, 1) := by decide +kernel
theorem dL_acts_823 : decode cL_acts 823 = .ok (.iaload, 1) := by decide +kernel
theorem dL_acts_824 : decode cL_acts 824 = .ok (.invokevirtual 37, 3) := by decide +kernel
theorem dL_acts_827 : decode cL_acts 827 = .ok (.iload 11, 2) := by decide +kernel
theorem dL_acts_829 : decode cL_acts 829 = .ok (.if_icmp .ne 7, 3) := by decide +kernel
theorem dL_acts_832 : decode cL_acts 832 = .ok (.iconst 1, 1) := by decide +kernel
theorem dL_acts_833 : decode cL_acts 833 = .ok (.goto 4, 3) := by decide +kernel
theorem dL_acts_836 : decode cL_acts 836 = .ok (.iconst 0, 1) := by decide +kernel
theorem dL_acts_837 : decode cL_acts 837 = .ok (.ireturn, 1) := by decide +kernel
theorem dL_acts_838 : decode cL_acts 838 = .ok (.iload 9, 2) := by decide +kernel
theorem dL_acts_840 : decode cL_acts 840 = .ok (.bipush 15, 2) := by decide +kernel
theorem dL_acts_842 : decode cL_acts 842 = .ok (.if_icmp .ge 90, 3) := by decide +kernel
theorem dL_acts_845 : decode cL_acts 845 = .ok (.iload 8, 2) := by decide +kernel
theorem dL_acts_847 : decode cL_acts 847 = .ok (.iconst 5, 1) := by decide +kernel
theorem dL_acts_848 : decode cL_acts 848 = .ok (.irem, 1) := by decide +kernel
theorem dL_acts_849 : decode cL_acts 849 = .ok (.istore 11, 2) := by decide +kernel
theorem dL_acts_851 : decode cL_acts 851 = .ok (.aload_n 2, 1) := by decide +kernel
theorem dL_acts_852 : decode cL_acts 852 = .ok (.iload 11, 2) := by decide +kernel
theorem dL_acts_854 : decode cL_acts 854 = .ok (.iaload, 1) := by decide +kernel
theorem dL_acts_855 : decode cL_acts 855 = .ok (.istore 12, 2) := by decide +kernel
theorem dL_acts_857 : decode cL_acts 857 = .ok (.aload_n 2, 1) := by decide +kernel
theorem dL_acts_858 : decode cL_acts 858 = .ok (.iload 11, 2) := by decide +kernel
theorem dL_acts_860 : decode cL_acts 860 = .ok (.iload 8, 2) := by decide +kernel
theorem dL_acts_862 : decode cL_acts 862 = .ok (.iconst 5, 1) := by decide +kernel
theorem dL_acts_863 : decode cL_acts 863 = .ok (.idiv, 1) := by decide +kernel
theorem dL_acts_864 : decode cL_acts 864 = .ok (.iload 11, 2) := by decide +kernel
theorem dL_acts_866 : decode cL_acts 866 = .ok (.ifCond .ne 8, 3) := by decide +kernel
theorem dL_acts_869 : decode cL_acts 869 = .ok (.bipush 11, 2) := by decide +kernel
theorem dL_acts_871 : decode cL_acts 871 = .ok (.goto 38, 3) := by decide +kernel
theorem dL_acts_874 : decode cL_acts 874 = .ok (.iload 11, 2) := by decide +kernel
theorem dL_acts_876 : decode cL_acts 876 = .ok (.iconst 1, 1) := by decide +kernel
theorem dL_acts_877 : decode cL_acts 877 = .ok (.if_icmp .ne 8, 3) := by decide +kernel
theorem dL_acts_880 : decode cL_acts 880 = .ok (.bipush 31, 2) := by decide +kernel
theorem dL_acts_882 : decode cL_acts 882 = .ok (.goto 27, 3) := by decide +kernel
theorem dL_acts_885 : decode cL_acts 885 = .ok (.iload 11, 2) := by decide +kernel
theorem dL_acts_887 : decode cL_acts 887 = .ok (.iconst 2, 1) := by decide +kernel
theorem dL_acts_888 : decode cL_acts 888 = .ok (.if_icmp .ne 8, 3) := by decide +kernel
theorem dL_acts_891 : decode cL_acts 891 = .ok (.bipush 21, 2) := by decide +kernel
theorem dL_acts_893 : decode cL_acts 893 = .ok (.goto 16, 3) := by decide +kernel
theorem dL_acts_896 : decode cL_acts 896 = .ok (.iload 11, 2) := by decide +kernel
theorem dL_acts_898 : decode cL_acts 898 = .ok (.iconst 3, 1) := by decide +kernel
theorem dL_acts_899 : decode cL_acts 899 = .ok (.if_icmp .ne 8, 3) := by decide +kernel
theorem dL_acts_902 : decode cL_acts 902 = .ok (.bipush 61, 2) := by decide +kernel
theorem dL_acts_904 : decode cL_acts 904 = .ok (.goto 5, 3) := by decide +kernel
theorem dL_acts_907 : decode cL_acts 907 = .ok (.bipush 51, 2) := by decide +kernel
theorem dL_acts_909 : decode cL_acts 909 = .ok (.irem, 1) := by decide +kernel
theorem dL_acts_910 : decode cL_acts 910 = .ok (.iastore, 1) := by decide +kernel
theorem dL_acts_911 : decode cL_acts 911 = .ok (.aload_n 0, 1) := by decide +kernel
theorem dL_acts_912 : decode cL_acts 912 = .ok (.iload 11, 2) := by decide +kernel
theorem dL_acts_914 : decode cL_acts 914 = .ok (.aload_n 2, 1) := by decide +kernel
theorem dL_acts_915 : decode cL_acts 915 = .ok (.iload 11, 2) := by decide +kernel
theorem dL_acts_917 : decode cL_acts 917 = .ok (.iaload, 1) := by decide +kernel
theorem dL_acts_918 : decode cL_acts 918 = .ok (.invokevirtual 40, 3) := by decide +kernel
theorem dL_acts_921 : decode cL_acts 921 = .ok (.iload 12, 2) := by decide +kernel
theorem dL_acts_923 : decode cL_acts 923 = .ok (.if_icmp .ne 7, 3) := by decide +kernel
theorem dL_acts_926 : decode cL_acts 926 = .ok (.iconst 1, 1) := by decide +kernel
theorem dL_acts_927 : decode cL_acts 927 = .ok (.goto 4, 3) := by decide +kernel
theorem dL_acts_930 : decode cL_acts 930 = .ok (.iconst 0, 1) := by decide +kernel
theorem dL_acts_931 : decode cL_acts 931 = .ok (.ireturn, 1) := by decide +kernel
theorem dL_acts_932 : decode cL_acts 932 = .ok (.aload_n 1, 1) := by decide +kernel
theorem dL_acts_933 : decode cL_acts 933 = .ok (.iconst 1, 1) := by decide +kernel
theorem dL_acts_934 : decode cL_acts 934 = .ok (.iaload, 1) := by decide +kernel
theorem dL_acts_935 : decode cL_acts 935 = .ok (.ifCond .ne 50, 3) := by decide +kernel
theorem dL_acts_938 : decode cL_acts 938 = .ok (.aload_n 0, 1) := by decide +kernel
theorem dL_acts_939 : decode cL_acts 939 = .ok (.iconst 0, 1) := by decide +kernel
theorem dL_acts_940 : decode cL_acts 940 = .ok (.invokevirtual 43, 3) := by decide +kernel
theorem dL_acts_943 : decode cL_acts 943 = .ok (.iconst (-1), 1) := by decide +kernel
theorem dL_acts_944 : decode cL_acts 944 = .ok (.if_icmp .ne 39, 3) := by decide +kernel
theorem dL_acts_947 : decode cL_acts 947 = .ok (.aload_n 0, 1) := by decide +kernel
theorem dL_acts_948 : decode cL_acts 948 = .ok (.iconst 0, 1) := by decide +kernel
theorem dL_acts_949 : decode cL_acts 949 = .ok (.iconst 0, 1) := by decide +kernel
theorem dL_acts_950 : decode cL_acts 950 = .ok (.invokevirtual 46, 3) := by decide +kernel
theorem dL_acts_953 : decode cL_acts 953 = .ok (.iconst (-1), 1) := by decide +kernel
theorem dL_acts_954 : decode cL_acts 954 = .ok (.if_icmp .ne 29, 3) := by decide +kernel
theorem dL_acts_957 : decode cL_acts 957 = .ok (.aload_n 0, 1) := by decide +kernel
theorem dL_acts_958 : decode cL_acts 958 = .ok (.iconst 0, 1) := by decide +kernel
theorem dL_acts_959 : decode cL_acts 959 = .ok (.iconst 1, 1) := by decide +kernel
theorem dL_acts_960 : decode cL_acts 960 = .ok (.invokevirtual 49, 3) := by decide +kernel
theorem dL_acts_963 : decode cL_acts 963 = .ok (.iconst (-1), 1) := by decide +kernel
theorem dL_acts_964 : decode cL_acts 964 = .ok (.if_icmp .ne 19, 3) := by decide +kernel
theorem dL_acts_967 : decode cL_acts 967 = .ok (.aload_n 0, 1) := by decide +kernel
theorem dL_acts_968 : decode cL_acts 968 = .ok (.iconst 0, 1) := by decide +kernel
theorem dL_acts_969 : decode cL_acts 969 = .ok (.iconst 0, 1) := by decide +kernel
theorem dL_acts_970 : decode cL_acts 970 = .ok (.iconst 0, 1) := by decide +kernel
theorem dL_acts_971 : decode cL_acts 971 = .ok (.iconst 0, 1) := by decide +kernel
theorem dL_acts_972 : decode cL_acts 972 = .ok (.invokevirtual 52, 3) := by decide +kernel
theorem dL_acts_975 : decode cL_acts 975 = .ok (.iconst (-1), 1) := by decide +kernel
theorem dL_acts_976 : decode cL_acts 976 = .ok (.if_icmp .ne 7, 3) := by decide +kernel
theorem dL_acts_979 : decode cL_acts 979 = .ok (.iconst 1, 1) := by decide +kernel
theorem dL_acts_980 : decode cL_acts 980 = .ok (.goto 4, 3) := by decide +kernel
theorem dL_acts_983 : decode cL_acts 983 = .ok (.iconst 0, 1) := by decide +kernel
theorem dL_acts_984 : decode cL_acts 984 = .ok (.ireturn, 1) := by decide +kernel
theorem dL_acts_985 : decode cL_acts 985 = .ok (.iload 8, 2) := by decide +kernel
theorem dL_acts_987 : decode cL_acts 987 = .ok (.iconst 3, 1) := by decide +kernel
theorem dL_acts_988 : decode cL_acts 988 = .ok (.idiv, 1) := by decide +kernel
theorem dL_acts_989 : decode cL_acts 989 = .ok (.aload_n 1, 1) := by decide +kernel
theorem dL_acts_990 : decode cL_acts 990 = .ok (.iconst 1, 1) := by decide +kernel
theorem dL_acts_991 : decode cL_acts 991 = .ok (.iaload, 1) := by decide +kernel
theorem dL_acts_992 : decode cL_acts 992 = .ok (.irem, 1) := by decide +kernel
theorem dL_acts_993 : decode cL_acts 993 = .ok (.istore 11, 2) := by decide +kernel
theorem dL_acts_995 : decode cL_acts 995 = .ok (.aload 4, 2) := by decide +kernel
theorem dL_acts_997 : decode cL_acts 997 = .ok (.bipush 9, 2) := by decide +kernel
theorem dL_acts_999 : decode cL_acts 999 = .ok (.iload 11, 2) := by decide +kernel
theorem dL_acts_1001 : decode cL_acts 1001 = .ok (.imul, 1) := by decide +kernel
theorem dL_acts_1002 : decode cL_acts 1002 = .ok (.iconst 3, 1) := by decide +kernel
theorem dL_acts_1003 : decode cL_acts 1003 = .ok (.iadd, 1) := by decide +kernel
theorem dL_acts_1004 : decode cL_acts 1004 = .ok (.iaload, 1) := by decide +kernel
theorem dL_acts_1005 : decode cL_acts 1005 = .ok (.ifCond .ne 7, 3) := by decide +kernel
theorem dL_acts_1008 : decode cL_acts 1008 = .ok (.iconst 1, 1) := by decide +kernel
theorem dL_acts_1009 : decode cL_acts 1009 = .ok (.goto 4, 3) := by decide +kernel
theorem dL_acts_1012 : decode cL_acts 1012 = .ok (.iconst 0, 1) := by decide +kernel
theorem dL_acts_1013 : decode cL_acts 1013 = .ok (.istore 12, 2) := by decide +kernel
theorem dL_acts_1015 : decode cL_acts 1015 = .ok (.aload 4, 2) := by decide +kernel
theorem dL_acts_1017 : decode cL_acts 1017 = .ok (.bipush 9, 2) := by decide +kernel
theorem dL_acts_1019 : decode cL_acts 1019 = .ok (.iload 11, 2) := by decide +kernel
theorem dL_acts_1021 : decode cL_acts 1021 = .ok (.imul, 1) := by decide +kernel
theorem dL_acts_1022 : decode cL_acts 1022 = .ok (.iaload, 1) := by decide +kernel
theorem dL_acts_1023 : decode cL_acts 1023 = .ok (.istore 10, 2) := by decide +kernel
theorem dL_acts_1025 : decode cL_acts 1025 = .ok (.iload 9, 2) := by decide +kernel
theorem dL_acts_1027 : decode cL_acts 1027 = .ok (.bipush 15, 2) := by decide +kernel
theorem dL_acts_1029 : decode cL_acts 1029 = .ok (.if_icmp .ne 97, 3) := by decide +kernel
theorem dL_acts_1032 : decode cL_acts 1032 = .ok (.iload 8, 2) := by decide +kernel
theorem dL_acts_1034 : decode cL_acts 1034 = .ok (.bipush 21, 2) := by decide +kernel
theorem dL_acts_1036 : decode cL_acts 1036 = .ok (.idiv, 1) := by decide +kernel
theorem dL_acts_1037 : decode cL_acts 1037 = .ok (.sipush 721, 3) := by decide +kernel
theorem dL_acts_1040 : decode cL_acts 1040 = .ok (.irem, 1) := by decide +kernel
theorem dL_acts_1041 : decode cL_acts 1041 = .ok (.istore 13, 2) := by decide +kernel
theorem dL_acts_1043 : decode cL_acts 1043 = .ok (.iload 12, 2) := by decide +kernel
theorem dL_acts_1045 : decode cL_acts 1045 = .ok (.ifCond .eq 19, 3) := by decide +kernel
theorem dL_acts_1048 : decode cL_acts 1048 = .ok (.aload_n 1, 1) := by decide +kernel
theorem dL_acts_1049 : decode cL_acts 1049 = .ok (.aload_n 3, 1) := by decide +kernel
theorem dL_acts_1050 : decode cL_acts 1050 = .ok (.aload 4, 2) := by decide +kernel
theorem dL_acts_1052 : decode cL_acts 1052 = .ok (.iload 10, 2) := by decide +kernel
theorem dL_acts_1054 : decode cL_acts 1054 = .ok (.iload 13, 2) := by decide +kernel
theorem dL_acts_1056 : decode cL_acts 1056 = .ok (.iload 11, 2) := by decide +kernel
theorem dL_acts_1058 : decode cL_acts 1058 = .ok (.invokestatic 30, 3) := by decide +kernel
theorem dL_acts_1061 : decode cL_acts 1061 = .ok (.ifCond .ne 22, 3) := by decide +kernel
theorem dL_acts_1064 : decode cL_acts 1064 = .ok (.aload_n 0, 1) := by decide +kernel
theorem dL_acts_1065 : decode cL_acts 1065 = .ok (.iload 11, 2) := by decide +kernel
theorem dL_acts_1067 : decode cL_acts 1067 = .ok (.iload 13, 2) := by decide +kernel
theorem dL_acts_1069 : decode cL_acts 1069 = .ok (.invokevirtual 46, 3) := by decide +kernel
theorem dL_acts_1072 : decode cL_acts 1072 = .ok (.bipush (-2), 2) := by decide +kernel
theorem dL_acts_1074 : decode cL_acts 1074 = .ok (.if_icmp .ne 7, 3) := by decide +kernel
theorem dL_acts_1077 : decode cL_acts 1077 = .ok (.iconst 1, 1) := by decide +kernel
theorem dL_acts_1078 : decode cL_acts 1078 = .ok (.goto 4, 3) := by decide +kernel
theorem dL_acts_1081 : decode cL_acts 1081 = .ok (.iconst 0, 1) := by decide +kernel
theorem dL_acts_1082 : decode cL_acts 1082 = .ok (.ireturn, 1) := by decide +kernel
theorem dL_acts_1083 : decode cL_acts 1083 = .ok (.aload 4, 2) := by decide +kernel
theorem dL_acts_1085 : decode cL_acts 1085 = .ok (.bipush 9, 2) := by decide +kernel
theorem dL_acts_1087 : decode cL_acts 1087 = .ok (.iload 11, 2) := by decide +kernel
theorem dL_acts_1089 : decode cL_acts 1089 = .ok (.imul, 1) := by decide +kernel
theorem dL_acts_1090 : decode cL_acts 1090 = .ok (.iconst 1, 1) := by decide +kernel
theorem dL_acts_1091 : decode cL_acts 1091 = .ok (.iadd, 1) := by decide +kernel
theorem dL_acts_1092 : decode cL_acts 1092 = .ok (.iaload, 1) := by decide +kernel
theorem dL_acts_1093 : decode cL_acts 1093 = .ok (.istore 14, 2) := by decide +kernel
theorem dL_acts_1095 : decode cL_acts 1095 = .ok (.aload 4, 2) := by decide +kernel
theorem dL_acts_1097 : decode cL_acts 1097 = .ok (.bipush 9, 2) := by decide +kernel
theorem dL_acts_1099 : decode cL_acts 1099 = .ok (.iload 11, 2) := by decide +kernel
theorem dL_acts_1101 : decode cL_acts 1101 = .ok (.imul, 1) := by decide +kernel
theorem dL_acts_1102 : decode cL_acts 1102 = .ok (.iconst 1, 1) := by decide +kernel
theorem dL_acts_1103 : decode cL_acts 1103 = .ok (.iadd, 1) := by decide +kernel
theorem dL_acts_1104 : decode cL_acts 1104 = .ok (.iload 13, 2) := by decide +kernel
theorem dL_acts_1106 : decode cL_acts 1106 = .ok (.iastore, 1) := by decide +kernel
theorem dL_acts_1107 : decode cL_acts 1107 = .ok (.aload_n 0, 1) := by decide +kernel
theorem dL_acts_1108 : decode cL_acts 1108 = .ok (.iload 11, 2) := by decide +kernel
theorem dL_acts_1110 : decode cL_acts 1110 = .ok (.iload 13, 2) := by decide +kernel
theorem dL_acts_1112 : decode cL_acts 1112 = .ok (.invokevirtual 46, 3) := by decide +kernel
theorem dL_acts_1115 : decode cL_acts 1115 = .ok (.iload 14, 2) := by decide +kernel
theorem dL_acts_1117 : decode cL_acts 1117 = .ok (.if_icmp .ne 7, 3) := by decide +kernel
theorem dL_acts_1120 : decode cL_acts 1120 = .ok (.iconst 1, 1) := by decide +kernel
theorem dL_acts_1121 : decode cL_acts 1121 = .ok (.goto 4, 3) := by decide +kernel
theorem dL_acts_1124 : decode cL_acts 1124 = .ok (.iconst 0, 1) := by decide +kernel
theorem dL_acts_1125 : decode cL_acts 1125 = .ok (.ireturn, 1) := by decide +kernel
theorem dL_acts_1126 : decode cL_acts 1126 = .ok (.iload 9, 2) := by decide +kernel
theorem dL_acts_1128 : decode cL_acts 1128 = .ok (.bipush 16, 2) := by decide +kernel
theorem dL_acts_1130 : decode cL_acts 1130 = .ok (.if_icmp .ne 106, 3) := by decide +kernel
theorem dL_acts_1133 : decode cL_acts 1133 = .ok (.iload 12, 2) := by decide +kernel
theorem dL_acts_1135 : decode cL_acts 1135 = .ok (.ifCond .ne 20, 3) := by decide +kernel
theorem dL_acts_1138 : decode cL_acts 1138 = .ok (.aload_n 0, 1) := by decide +kernel
