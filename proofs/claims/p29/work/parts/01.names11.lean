theorem bw2_217 : (Cond.methodLink RX0 108 yX0_handOver) ∈ BIG := bg2 217 rfl rfl
theorem bw2_219 : (Cond.instanceMethod yX0_handOver) ∈ BIG := bg2 219 rfl rfl
theorem bw2_220 : (Cond.code yX0_handOver cX0_handOver 4 none) ∈ BIG := bg2 220 rfl rfl
theorem bw2_221 : (Cond.methodLink RX0 111 yX0_handOverPayments) ∈ BIG := bg2 221 rfl rfl
theorem bw2_223 : (Cond.instanceMethod yX0_handOverPayments) ∈ BIG := bg2 223 rfl rfl
theorem bw2_224 : (Cond.code yX0_handOverPayments cX0_handOverPayments 5 none) ∈ BIG := bg2 224 rfl rfl
theorem bw2_225 : (Cond.methodLink RX0 114 yX7_paymentsLeft) ∈ BIG := bg2 225 rfl rfl
theorem bw2_226 : (Cond.instanceMethod yX7_paymentsLeft) ∈ BIG := bg2 226 rfl rfl
theorem bw2_227 : (Cond.selects RX7 yX7_paymentsLeft yX7_paymentsLeft) ∈ BIG := bg2 227 rfl rfl
theorem bw2_228 : (Cond.code yX7_paymentsLeft cX7_paymentsLeft 4 (some .int)) ∈ BIG := bg2 228 rfl rfl
theorem bw2_229 : (Cond.methodLink RX0 117 yX6_size) ∈ BIG := bg2 229 rfl rfl
theorem bw2_230 : (Cond.methodLink RL 52 yX8_play) ∈ BIG := bg2 230 rfl rfl
theorem bw2_231 : (Cond.instanceMethod yX8_play) ∈ BIG := bg2 231 rfl rfl
theorem bw2_232 : (Cond.selects RX8 yX8_play yX8_play) ∈ BIG := bg2 232 rfl rfl
theorem bw2_233 : (Cond.code yX8_play cX8_play 5 (some .int)) ∈ BIG := bg2 233 rfl rfl
theorem bw2_234 : (Cond.methodLink RX8 85 yX0_letPlay) ∈ BIG := bg2 234 rfl rfl
theorem bw2_235 : (Cond.instanceMethod yX0_letPlay) ∈ BIG := bg2 235 rfl rfl
theorem bw2_236 : (Cond.selects RX0 yX0_letPlay yX0_letPlay) ∈ BIG := bg2 236 rfl rfl
theorem bw2_237 : (Cond.code yX0_letPlay cX0_letPlay 11 (some .int)) ∈ BIG := bg2 237 rfl rfl
theorem bw2_238 : (Cond.methodLink RX0 120 yX7_nextBooked) ∈ BIG := bg2 238 rfl rfl
theorem bw2_239 : (Cond.methodLink RX0 123 yX0_occupy) ∈ BIG := bg2 239 rfl rfl
theorem bw3_1 : (Cond.instanceMethod yX0_occupy) ∈ BIG := bg3 1 rfl rfl
theorem bw3_2 : (Cond.code yX0_occupy cX0_occupy 9 (some .int)) ∈ BIG := bg3 2 rfl rfl
theorem bw3_3 : (Cond.methodLink RX0 130 yJ9_max_7cf53) ∈ BIG := bg3 3 rfl rfl
theorem bw3_4 : (Cond.methodLink RX0 127 yX7_refundForDelay) ∈ BIG := bg3 4 rfl rfl
theorem bw3_5 : (Cond.instanceMethod yX7_refundForDelay) ∈ BIG := bg3 5 rfl rfl
theorem bw3_6 : (Cond.selects RX7 yX7_refundForDelay yX7_refundForDelay) ∈ BIG := bg3 6 rfl rfl
theorem bw3_7 : (Cond.code yX7_refundForDelay cX7_refundForDelay 5 (some .int)) ∈ BIG := bg3 7 rfl rfl
theorem bw3_8 : (Cond.methodLink RX7 85 yX7_setting) ∈ BIG := bg3 8 rfl rfl
theorem bw3_9 : (Cond.methodLink RX7 88 yJ9_min_7cf53) ∈ BIG := bg3 9 rfl rfl
theorem bw3_10 : (Cond.methodLink RL 55 yL_paid) ∈ BIG := bg3 10 rfl rfl
theorem bw3_11 : (Cond.static yL_paid) ∈ BIG := bg3 11 rfl rfl
theorem bw3_12 : (Cond.code yL_paid cL_paid 6 (some .int)) ∈ BIG := bg3 12 rfl rfl
theorem bw3_13 : (Cond.methodLink RL 59 yL_late) ∈ BIG := bg3 13 rfl rfl
theorem bw3_14 : (Cond.static yL_late) ∈ BIG := bg3 14 rfl rfl
theorem bw3_15 : (Cond.code yL_late cL_late 11 (some .int)) ∈ BIG := bg3 15 rfl rfl
theorem bw3_16 : (Cond.methodLink RL 9 yL_next) ∈ BIG := bg3 16 rfl rfl
theorem bw3_17 : (Cond.static yL_next) ∈ BIG := bg3 17 rfl rfl
theorem bw3_18 : (Cond.code yL_next cL_next 7 (some .int)) ∈ BIG := bg3 18 rfl rfl
theorem bw3_19 : (Cond.methodLink RL 63 yL_refunds) ∈ BIG := bg3 19 rfl rfl
theorem bw3_20 : (Cond.static yL_refunds) ∈ BIG := bg3 20 rfl rfl
theorem bw3_21 : (Cond.code yL_refunds cL_refunds 11 none) ∈ BIG := bg3 21 rfl rfl
theorem bw3_22 : (Cond.methodLink RL 67 yL_share) ∈ BIG := bg3 22 rfl rfl
theorem bw3_23 : (Cond.static yL_share) ∈ BIG := bg3 23 rfl rfl
theorem bw3_24 : (Cond.code yL_share cL_share 5 (some .int)) ∈ BIG := bg3 24 rfl rfl
theorem bw3_25 : (Cond.methodLink RL 87 yL_isSo) ∈ BIG := bg3 25 rfl rfl
theorem bw3_26 : (Cond.static yL_isSo) ∈ BIG := bg3 26 rfl rfl
theorem bw3_27 : (Cond.code yL_isSo cL_isSo 15 (some .boolean)) ∈ BIG := bg3 27 rfl rfl
theorem bw3_28 : (Cond.methodLink RL 77 yX8_room) ∈ BIG := bg3 28 rfl rfl
theorem bw3_29 : (Cond.instanceMethod yX8_room) ∈ BIG := bg3 29 rfl rfl
theorem bw3_30 : (Cond.selects RX8 yX8_room yX8_room) ∈ BIG := bg3 30 rfl rfl
theorem bw3_31 : (Cond.code yX8_room cX8_room 3 (some .int)) ∈ BIG := bg3 31 rfl rfl
theorem bw3_32 : (Cond.methodLink RX8 161 yX6_has) ∈ BIG := bg3 32 rfl rfl
theorem bw3_33 : (Cond.methodLink RX8 165 yX7_nextBooked) ∈ BIG := bg3 33 rfl rfl
theorem bw3_34 : (Cond.methodLink RX8 168 yX6_cell) ∈ BIG := bg3 34 rfl rfl
theorem bw3_35 : (Cond.methodLink RL 80 yX8_booking) ∈ BIG := bg3 35 rfl rfl
theorem bw3_36 : (Cond.instanceMethod yX8_booking) ∈ BIG := bg3 36 rfl rfl
theorem bw3_37 : (Cond.selects RX8 yX8_booking yX8_booking) ∈ BIG := bg3 37 rfl rfl
theorem bw3_38 : (Cond.code yX8_booking cX8_booking 3 (some .int)) ∈ BIG := bg3 38 rfl rfl
theorem bw3_39 : (Cond.methodLink RX8 171 yX7_paidByVouchers) ∈ BIG := bg3 39 rfl rfl
theorem bw3_40 : (Cond.methodLink RX8 174 yX7_paymentsLeft) ∈ BIG := bg3 40 rfl rfl
theorem bw3_41 : (Cond.methodLink RL 83 yX8_voucher) ∈ BIG := bg3 41 rfl rfl
theorem bw3_42 : (Cond.instanceMethod yX8_voucher) ∈ BIG := bg3 42 rfl rfl
theorem bw3_43 : (Cond.selects RX8 yX8_voucher yX8_voucher) ∈ BIG := bg3 43 rfl rfl
theorem bw3_44 : (Cond.code yX8_voucher cX8_voucher 3 (some .int)) ∈ BIG := bg3 44 rfl rfl
theorem bw3_45 : (Cond.methodLink RX8 177 yX7_bookingsPaidWith) ∈ BIG := bg3 45 rfl rfl
theorem bw3_46 : (Cond.instanceMethod yX7_bookingsPaidWith) ∈ BIG := bg3 46 rfl rfl
theorem bw3_47 : (Cond.selects RX7 yX7_bookingsPaidWith yX7_bookingsPaidWith) ∈ BIG := bg3 47 rfl rfl
theorem bw3_48 : (Cond.code yX7_bookingsPaidWith cX7_bookingsPaidWith 4 (some .int)) ∈ BIG := bg3 48 rfl rfl
theorem bw3_49 : (Cond.methodLink RX7 91 yX7_isPaidWith) ∈ BIG := bg3 49 rfl rfl
theorem bw3_51 : (Cond.instanceMethod yX7_isPaidWith) ∈ BIG := bg3 51 rfl rfl
theorem bw3_52 : (Cond.code yX7_isPaidWith cX7_isPaidWith 4 (some .boolean)) ∈ BIG := bg3 52 rfl rfl
theorem bs0 : (Cond.selects RX1 yX1_stateAt yX1_stateAt) ∈ BIG := bgs 0 (q := (yX1_stateAt, _)) rfl rfl
theorem bs1 : (Cond.selects RX1 yX1_record yX1_record) ∈ BIG := bgs 1 (q := (yX1_record, _)) rfl rfl
theorem bs2 : (Cond.selects RX0 yX0_payCharge yX0_payCharge) ∈ BIG := bgs 2 (q := (yX0_payCharge, _)) rfl rfl
theorem bs3 : (Cond.selects RX0 yX0_refund yX0_refund) ∈ BIG := bgs 3 (q := (yX0_refund, _)) rfl rfl
theorem bs4 : (Cond.selects RX0 yX0_refundPayment yX0_refundPayment) ∈ BIG := bgs 4 (q := (yX0_refundPayment, _)) rfl rfl
theorem bs5 : (Cond.selects RX0 yX0_handOver yX0_handOver) ∈ BIG := bgs 5 (q := (yX0_handOver, _)) rfl rfl
theorem bs6 : (Cond.selects RX0 yX0_handOverPayments yX0_handOverPayments) ∈ BIG := bgs 6 (q := (yX0_handOverPayments, _)) rfl rfl
theorem bs7 : (Cond.selects RX0 yX0_occupy yX0_occupy) ∈ BIG := bgs 7 (q := (yX0_occupy, _)) rfl rfl
theorem bs8 : (Cond.selects RX7 yX7_isPaidWith yX7_isPaidWith) ∈ BIG := bgs 8 (q := (yX7_isPaidWith, _)) rfl rfl
