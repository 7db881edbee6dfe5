theorem bw4_202 : (Cond.selects RX9 yX9_undo yX9_undo) ∈ BIG := bg4 202 rfl rfl
theorem bw4_203 : (Cond.code yX9_undo cX9_undo 2 (some .int)) ∈ BIG := bg4 203 rfl rfl
theorem bw4_204 : (Cond.methodLink RL 68 yX9_append) ∈ BIG := bg4 204 rfl rfl
theorem bw4_205 : (Cond.instanceMethod yX9_append) ∈ BIG := bg4 205 rfl rfl
theorem bw4_206 : (Cond.selects RX9 yX9_append yX9_append) ∈ BIG := bg4 206 rfl rfl
theorem bw4_207 : (Cond.code yX9_append cX9_append 2 (some .int)) ∈ BIG := bg4 207 rfl rfl
theorem bw4_208 : (Cond.methodLink RL 72 yX9_clearText) ∈ BIG := bg4 208 rfl rfl
theorem bw4_209 : (Cond.instanceMethod yX9_clearText) ∈ BIG := bg4 209 rfl rfl
theorem bw4_210 : (Cond.selects RX9 yX9_clearText yX9_clearText) ∈ BIG := bg4 210 rfl rfl
theorem bw4_211 : (Cond.code yX9_clearText cX9_clearText 2 (some .int)) ∈ BIG := bg4 211 rfl rfl
theorem bw4_212 : (Cond.methodLink RL 76 yX9_run) ∈ BIG := bg4 212 rfl rfl
theorem bw4_213 : (Cond.instanceMethod yX9_run) ∈ BIG := bg4 213 rfl rfl
theorem bw4_214 : (Cond.selects RX9 yX9_run yX9_run) ∈ BIG := bg4 214 rfl rfl
theorem bw4_215 : (Cond.code yX9_run cX9_run 2 (some .int)) ∈ BIG := bg4 215 rfl rfl
theorem bw4_216 : (Cond.methodLink RX9 141 yX9_skips) ∈ BIG := bg4 216 rfl rfl
theorem bw4_218 : (Cond.instanceMethod yX9_skips) ∈ BIG := bg4 218 rfl rfl
theorem bw4_219 : (Cond.code yX9_skips cX9_skips 1 none) ∈ BIG := bg4 219 rfl rfl
theorem bw4_220 : (Cond.methodLink RX9 120 yX9_isAt) ∈ BIG := bg4 220 rfl rfl
theorem bw4_222 : (Cond.instanceMethod yX9_isAt) ∈ BIG := bg4 222 rfl rfl
theorem bw4_223 : (Cond.code yX9_isAt cX9_isAt 3 (some .boolean)) ∈ BIG := bg4 223 rfl rfl
theorem bw4_224 : (Cond.methodLink RX9 166 yX9_isDone) ∈ BIG := bg4 224 rfl rfl
theorem bw4_226 : (Cond.instanceMethod yX9_isDone) ∈ BIG := bg4 226 rfl rfl
theorem bw4_227 : (Cond.code yX9_isDone cX9_isDone 4 (some .boolean)) ∈ BIG := bg4 227 rfl rfl
theorem bw4_228 : (Cond.methodLink RX9 152 yX9_isWord) ∈ BIG := bg4 228 rfl rfl
theorem bw4_230 : (Cond.instanceMethod yX9_isWord) ∈ BIG := bg4 230 rfl rfl
theorem bw4_231 : (Cond.code yX9_isWord cX9_isWord 1 (some .boolean)) ∈ BIG := bg4 231 rfl rfl
theorem bw4_232 : (Cond.methodLink RX9 148 yX9_manyOf) ∈ BIG := bg4 232 rfl rfl
theorem bw4_233 : (Cond.static yX9_manyOf) ∈ BIG := bg4 233 rfl rfl
theorem bw4_234 : (Cond.code yX9_manyOf cX9_manyOf 2 (some .int)) ∈ BIG := bg4 234 rfl rfl
theorem bw4_235 : (Cond.constantLong RX9 127 (1919905645)) ∈ BIG := bg4 235 rfl rfl
theorem bw4_236 : (Cond.constantLong RX9 129 (7364985)) ∈ BIG := bg4 236 rfl rfl
theorem bw4_237 : (Cond.constantLong RX9 131 (1886151033)) ∈ BIG := bg4 237 rfl rfl
theorem bw4_238 : (Cond.constantLong RX9 133 (1651470187)) ∈ BIG := bg4 238 rfl rfl
theorem bw4_239 : (Cond.constantLong RX9 135 (1785686382)) ∈ BIG := bg4 239 rfl rfl
theorem bw5_0 : (Cond.constantLong RX9 137 (1734960756)) ∈ BIG := bg5 0 rfl rfl
theorem bw5_1 : (Cond.constantLong RX9 139 (1685221232)) ∈ BIG := bg5 1 rfl rfl
theorem bw5_2 : (Cond.methodLink RX9 156 yX9_isNumber) ∈ BIG := bg5 2 rfl rfl
theorem bw5_4 : (Cond.instanceMethod yX9_isNumber) ∈ BIG := bg5 4 rfl rfl
theorem bw5_5 : (Cond.code yX9_isNumber cX9_isNumber 3 (some .boolean)) ∈ BIG := bg5 5 rfl rfl
theorem bw5_6 : (Cond.methodLink RX9 159 yX9_isStop) ∈ BIG := bg5 6 rfl rfl
theorem bw5_8 : (Cond.instanceMethod yX9_isStop) ∈ BIG := bg5 8 rfl rfl
theorem bw5_9 : (Cond.code yX9_isStop cX9_isStop 2 (some .boolean)) ∈ BIG := bg5 9 rfl rfl
theorem bw5_10 : (Cond.methodLink RX9 162 yX9_does) ∈ BIG := bg5 10 rfl rfl
theorem bw5_12 : (Cond.instanceMethod yX9_does) ∈ BIG := bg5 12 rfl rfl
theorem bw5_13 : (Cond.code yX9_does cX9_does 5 (some .int)) ∈ BIG := bg5 13 rfl rfl
theorem bw5_14 : (Cond.methodLink RX9 169 yX9_lets) ∈ BIG := bg5 14 rfl rfl
theorem bw5_16 : (Cond.instanceMethod yX9_lets) ∈ BIG := bg5 16 rfl rfl
theorem bw5_17 : (Cond.code yX9_lets cX9_lets 2 none) ∈ BIG := bg5 17 rfl rfl
theorem bw5_18 : (Cond.methodLink RL 80 yX9_count) ∈ BIG := bg5 18 rfl rfl
theorem bw5_19 : (Cond.instanceMethod yX9_count) ∈ BIG := bg5 19 rfl rfl
theorem bw5_20 : (Cond.selects RX9 yX9_count yX9_count) ∈ BIG := bg5 20 rfl rfl
theorem bw5_21 : (Cond.code yX9_count cX9_count 2 (some .int)) ∈ BIG := bg5 21 rfl rfl
theorem bw5_22 : (Cond.methodLink RX9 172 yX9_inState) ∈ BIG := bg5 22 rfl rfl
theorem bw5_24 : (Cond.instanceMethod yX9_inState) ∈ BIG := bg5 24 rfl rfl
theorem bw5_25 : (Cond.code yX9_inState cX9_inState 4 (some .int)) ∈ BIG := bg5 25 rfl rfl
theorem bw5_26 : (Cond.methodLink RL 84 yX9_room) ∈ BIG := bg5 26 rfl rfl
theorem bw5_27 : (Cond.instanceMethod yX9_room) ∈ BIG := bg5 27 rfl rfl
theorem bw5_28 : (Cond.selects RX9 yX9_room yX9_room) ∈ BIG := bg5 28 rfl rfl
theorem bw5_29 : (Cond.code yX9_room cX9_room 3 (some .int)) ∈ BIG := bg5 29 rfl rfl
theorem bw5_30 : (Cond.methodLink RL 88 yX9_booking) ∈ BIG := bg5 30 rfl rfl
theorem bw5_31 : (Cond.instanceMethod yX9_booking) ∈ BIG := bg5 31 rfl rfl
theorem bw5_32 : (Cond.selects RX9 yX9_booking yX9_booking) ∈ BIG := bg5 32 rfl rfl
theorem bw5_33 : (Cond.code yX9_booking cX9_booking 3 (some .int)) ∈ BIG := bg5 33 rfl rfl
theorem bw5_34 : (Cond.methodLink RX9 175 yX9_paymentsOf) ∈ BIG := bg5 34 rfl rfl
theorem bw5_36 : (Cond.instanceMethod yX9_paymentsOf) ∈ BIG := bg5 36 rfl rfl
theorem bw5_37 : (Cond.code yX9_paymentsOf cX9_paymentsOf 4 (some .int)) ∈ BIG := bg5 37 rfl rfl
theorem bw5_38 : (Cond.methodLink RL 92 yX9_voucher) ∈ BIG := bg5 38 rfl rfl
theorem bw5_39 : (Cond.instanceMethod yX9_voucher) ∈ BIG := bg5 39 rfl rfl
theorem bw5_40 : (Cond.selects RX9 yX9_voucher yX9_voucher) ∈ BIG := bg5 40 rfl rfl
theorem bw5_41 : (Cond.code yX9_voucher cX9_voucher 5 (some .int)) ∈ BIG := bg5 41 rfl rfl
theorem bw5_42 : (Cond.methodLink RX9 178 yX9_hasFrom) ∈ BIG := bg5 42 rfl rfl
theorem bw5_44 : (Cond.instanceMethod yX9_hasFrom) ∈ BIG := bg5 44 rfl rfl
theorem bw5_45 : (Cond.code yX9_hasFrom cX9_hasFrom 6 (some .boolean)) ∈ BIG := bg5 45 rfl rfl
theorem bw5_46 : (Cond.methodLink RL 96 yX9_money) ∈ BIG := bg5 46 rfl rfl
theorem bw5_47 : (Cond.instanceMethod yX9_money) ∈ BIG := bg5 47 rfl rfl
theorem bw5_48 : (Cond.selects RX9 yX9_money yX9_money) ∈ BIG := bg5 48 rfl rfl
theorem bw5_49 : (Cond.code yX9_money cX9_money 2 (some .int)) ∈ BIG := bg5 49 rfl rfl
theorem bw5_50 : (Cond.methodLink RX9 181 yX9_sumOf) ∈ BIG := bg5 50 rfl rfl
theorem bw5_52 : (Cond.instanceMethod yX9_sumOf) ∈ BIG := bg5 52 rfl rfl
theorem bw5_53 : (Cond.code yX9_sumOf cX9_sumOf 4 (some .int)) ∈ BIG := bg5 53 rfl rfl
theorem bw5_54 : (Cond.methodLink RL 100 yX9_forecast) ∈ BIG := bg5 54 rfl rfl
theorem bw5_55 : (Cond.instanceMethod yX9_forecast) ∈ BIG := bg5 55 rfl rfl
theorem bw5_56 : (Cond.selects RX9 yX9_forecast yX9_forecast) ∈ BIG := bg5 56 rfl rfl
theorem bw5_57 : (Cond.code yX9_forecast cX9_forecast 5 (some .int)) ∈ BIG := bg5 57 rfl rfl
theorem bw5_58 : (Cond.methodLink RL 104 yX9_freeTime) ∈ BIG := bg5 58 rfl rfl
theorem bw5_59 : (Cond.instanceMethod yX9_freeTime) ∈ BIG := bg5 59 rfl rfl
theorem bw5_60 : (Cond.selects RX9 yX9_freeTime yX9_freeTime) ∈ BIG := bg5 60 rfl rfl
theorem bw5_61 : (Cond.code yX9_freeTime cX9_freeTime 4 (some .int)) ∈ BIG := bg5 61 rfl rfl
theorem bw5_62 : (Cond.methodLink RL 108 yX9_mergeable) ∈ BIG := bg5 62 rfl rfl
theorem bw5_63 : (Cond.instanceMethod yX9_mergeable) ∈ BIG := bg5 63 rfl rfl
theorem bw5_64 : (Cond.selects RX9 yX9_mergeable yX9_mergeable) ∈ BIG := bg5 64 rfl rfl
theorem bw5_65 : (Cond.code yX9_mergeable cX9_mergeable 9 (some .int)) ∈ BIG := bg5 65 rfl rfl
theorem bw5_66 : (Cond.methodLink RX9 184 yX9_areMergeable) ∈ BIG := bg5 66 rfl rfl
theorem bw5_68 : (Cond.instanceMethod yX9_areMergeable) ∈ BIG := bg5 68 rfl rfl
theorem bw5_69 : (Cond.code yX9_areMergeable cX9_areMergeable 5 (some .boolean)) ∈ BIG := bg5 69 rfl rfl
theorem bw5_70 : (Cond.methodLink RL 112 yX9_slack) ∈ BIG := bg5 70 rfl rfl
theorem bw5_71 : (Cond.instanceMethod yX9_slack) ∈ BIG := bg5 71 rfl rfl
theorem bw5_72 : (Cond.selects RX9 yX9_slack yX9_slack) ∈ BIG := bg5 72 rfl rfl
theorem bw5_73 : (Cond.code yX9_slack cX9_slack 3 (some .int)) ∈ BIG := bg5 73 rfl rfl
theorem bw5_74 : (Cond.methodLink RX9 187 yX9_isLate) ∈ BIG := bg5 74 rfl rfl
theorem bw5_76 : (Cond.instanceMethod yX9_isLate) ∈ BIG := bg5 76 rfl rfl
theorem bw5_77 : (Cond.code yX9_isLate cX9_isLate 5 (some .boolean)) ∈ BIG := bg5 77 rfl rfl
theorem bw5_78 : (Cond.methodLink RL 116 yX9_hintsFor) ∈ BIG := bg5 78 rfl rfl
theorem bw5_79 : (Cond.instanceMethod yX9_hintsFor) ∈ BIG := bg5 79 rfl rfl
theorem bw5_80 : (Cond.selects RX9 yX9_hintsFor yX9_hintsFor) ∈ BIG := bg5 80 rfl rfl
theorem bw5_81 : (Cond.code yX9_hintsFor cX9_hintsFor 5 (some .int)) ∈ BIG := bg5 81 rfl rfl
theorem bw5_82 : (Cond.methodLink RL 120 yX9_busiest) ∈ BIG := bg5 82 rfl rfl
theorem bw5_83 : (Cond.instanceMethod yX9_busiest) ∈ BIG := bg5 83 rfl rfl
theorem bw5_84 : (Cond.selects RX9 yX9_busiest yX9_busiest) ∈ BIG := bg5 84 rfl rfl
theorem bw5_85 : (Cond.code yX9_busiest cX9_busiest 5 (some .int)) ∈ BIG := bg5 85 rfl rfl
theorem bw5_86 : (Cond.fieldLink RJ0 9 "java/lang/String" "value" "[B") ∈ BIG := bg5 86 rfl rfl
theorem bw5_87 : (Cond.fieldLink RJ0 15 "java/lang/String" "coder" "B") ∈ BIG := bg5 87 rfl rfl
theorem bs0 : (Cond.selects RX1 yX1_stateAt yX1_stateAt) ∈ BIG := bgs 0 (q := (yX1_stateAt, _)) rfl rfl
theorem bs1 : (Cond.selects RX1 yX1_record yX1_record) ∈ BIG := bgs 1 (q := (yX1_record, _)) rfl rfl
theorem bs2 : (Cond.selects RX0 yX0_payCharge yX0_payCharge) ∈ BIG := bgs 2 (q := (yX0_payCharge, _)) rfl rfl
theorem bs3 : (Cond.selects RX0 yX0_refund yX0_refund) ∈ BIG := bgs 3 (q := (yX0_refund, _)) rfl rfl
theorem bs4 : (Cond.selects RX0 yX0_refundPayment yX0_refundPayment) ∈ BIG := bgs 4 (q := (yX0_refundPayment, _)) rfl rfl
theorem bs5 : (Cond.selects RX0 yX0_handOver yX0_handOver) ∈ BIG := bgs 5 (q := (yX0_handOver, _)) rfl rfl
theorem bs6 : (Cond.selects RX0 yX0_handOverPayments yX0_handOverPayments) ∈ BIG := bgs 6 (q := (yX0_handOverPayments, _)) rfl rfl
theorem bs7 : (Cond.selects RX0 yX0_occupy yX0_occupy) ∈ BIG := bgs 7 (q := (yX0_occupy, _)) rfl rfl
theorem bs8 : (Cond.selects RX3 yX3_readToken yX3_readToken) ∈ BIG := bgs 8 (q := (yX3_readToken, _)) rfl rfl
theorem bs9 : (Cond.selects RX3 yX3_signAt yX3_signAt) ∈ BIG := bgs 9 (q := (yX3_signAt, _)) rfl rfl
theorem bs10 : (Cond.selects RX3 yX3_kindOf yX3_kindOf) ∈ BIG := bgs 10 (q := (yX3_kindOf, _)) rfl rfl
theorem bs11 : (Cond.selects RX3 yX3_commandWord yX3_commandWord) ∈ BIG := bgs 11 (q := (yX3_commandWord, _)) rfl rfl
theorem bs12 : (Cond.selects RX3 yX3_isWord yX3_isWord) ∈ BIG := bgs 12 (q := (yX3_isWord, _)) rfl rfl
theorem bs13 : (Cond.selects RX3 yX3_readNumbers yX3_readNumbers) ∈ BIG := bgs 13 (q := (yX3_readNumbers, _)) rfl rfl
theorem bs14 : (Cond.selects RX3 yX3_isNumber yX3_isNumber) ∈ BIG := bgs 14 (q := (yX3_isNumber, _)) rfl rfl
theorem bs15 : (Cond.selects RX3 yX3_numberValue yX3_numberValue) ∈ BIG := bgs 15 (q := (yX3_numberValue, _)) rfl rfl
theorem bs16 : (Cond.selects RX3 yX3_isSemicolon yX3_isSemicolon) ∈ BIG := bgs 16 (q := (yX3_isSemicolon, _)) rfl rfl
theorem bs17 : (Cond.selects RX3 yX3_obey yX3_obey) ∈ BIG := bgs 17 (q := (yX3_obey, _)) rfl rfl
theorem bs18 : (Cond.selects RX7 yX7_isPaidWith yX7_isPaidWith) ∈ BIG := bgs 18 (q := (yX7_isPaidWith, _)) rfl rfl
theorem bs19 : (Cond.selects RX2 yX2_playersTogether yX2_playersTogether) ∈ BIG := bgs 19 (q := (yX2_playersTogether, _)) rfl rfl
theorem bs20 : (Cond.selects RX2 yX2_roomsAheadOf yX2_roomsAheadOf) ∈ BIG := bgs 20 (q := (yX2_roomsAheadOf, _)) rfl rfl
theorem bs21 : (Cond.selects RX9 yX9_hold yX9_hold) ∈ BIG := bgs 21 (q := (yX9_hold, _)) rfl rfl
theorem bs22 : (Cond.selects RX9 yX9_doRoom yX9_doRoom) ∈ BIG := bgs 22 (q := (yX9_doRoom, _)) rfl rfl
theorem bs23 : (Cond.selects RX9 yX9_ends yX9_ends) ∈ BIG := bgs 23 (q := (yX9_ends, _)) rfl rfl
theorem bs24 : (Cond.selects RX9 yX9_isRoom yX9_isRoom) ∈ BIG := bgs 24 (q := (yX9_isRoom, _)) rfl rfl
theorem bs25 : (Cond.selects RX9 yX9_of yX9_of) ∈ BIG := bgs 25 (q := (yX9_of, _)) rfl rfl
theorem bs26 : (Cond.selects RX9 yX9_doGift yX9_doGift) ∈ BIG := bgs 26 (q := (yX9_doGift, _)) rfl rfl
theorem bs27 : (Cond.selects RX9 yX9_doBook yX9_doBook) ∈ BIG := bgs 27 (q := (yX9_doBook, _)) rfl rfl
theorem bs28 : (Cond.selects RX9 yX9_isVoucher yX9_isVoucher) ∈ BIG := bgs 28 (q := (yX9_isVoucher, _)) rfl rfl
theorem bs29 : (Cond.selects RX9 yX9_isPossible yX9_isPossible) ∈ BIG := bgs 29 (q := (yX9_isPossible, _)) rfl rfl
theorem bs30 : (Cond.selects RX9 yX9_its yX9_its) ∈ BIG := bgs 30 (q := (yX9_its, _)) rfl rfl
theorem bs31 : (Cond.selects RX9 yX9_lays yX9_lays) ∈ BIG := bgs 31 (q := (yX9_lays, _)) rfl rfl
theorem bs32 : (Cond.selects RX9 yX9_isBooking yX9_isBooking) ∈ BIG := bgs 32 (q := (yX9_isBooking, _)) rfl rfl
theorem bs33 : (Cond.selects RX9 yX9_doDrop yX9_doDrop) ∈ BIG := bgs 33 (q := (yX9_doDrop, _)) rfl rfl
theorem bs34 : (Cond.selects RX9 yX9_byVouchers yX9_byVouchers) ∈ BIG := bgs 34 (q := (yX9_byVouchers, _)) rfl rfl
theorem bs35 : (Cond.selects RX9 yX9_startOf yX9_startOf) ∈ BIG := bgs 35 (q := (yX9_startOf, _)) rfl rfl
theorem bs36 : (Cond.selects RX9 yX9_nextOf yX9_nextOf) ∈ BIG := bgs 36 (q := (yX9_nextOf, _)) rfl rfl
theorem bs37 : (Cond.selects RX9 yX9_refunds yX9_refunds) ∈ BIG := bgs 37 (q := (yX9_refunds, _)) rfl rfl
theorem bs38 : (Cond.selects RX9 yX9_adds yX9_adds) ∈ BIG := bgs 38 (q := (yX9_adds, _)) rfl rfl
theorem bs39 : (Cond.selects RX9 yX9_doJoin yX9_doJoin) ∈ BIG := bgs 39 (q := (yX9_doJoin, _)) rfl rfl
theorem bs40 : (Cond.selects RX9 yX9_doPlay yX9_doPlay) ∈ BIG := bgs 40 (q := (yX9_doPlay, _)) rfl rfl
theorem bs41 : (Cond.selects RX9 yX9_counts yX9_counts) ∈ BIG := bgs 41 (q := (yX9_counts, _)) rfl rfl
theorem bs42 : (Cond.selects RX9 yX9_shareOf yX9_shareOf) ∈ BIG := bgs 42 (q := (yX9_shareOf, _)) rfl rfl
theorem bs43 : (Cond.selects RX9 yX9_skips yX9_skips) ∈ BIG := bgs 43 (q := (yX9_skips, _)) rfl rfl
theorem bs44 : (Cond.selects RX9 yX9_isAt yX9_isAt) ∈ BIG := bgs 44 (q := (yX9_isAt, _)) rfl rfl
theorem bs45 : (Cond.selects RX9 yX9_isDone yX9_isDone) ∈ BIG := bgs 45 (q := (yX9_isDone, _)) rfl rfl
theorem bs46 : (Cond.selects RX9 yX9_isWord yX9_isWord) ∈ BIG := bgs 46 (q := (yX9_isWord, _)) rfl rfl
theorem bs47 : (Cond.selects RX9 yX9_isNumber yX9_isNumber) ∈ BIG := bgs 47 (q := (yX9_isNumber, _)) rfl rfl
theorem bs48 : (Cond.selects RX9 yX9_isStop yX9_isStop) ∈ BIG := bgs 48 (q := (yX9_isStop, _)) rfl rfl
theorem bs49 : (Cond.selects RX9 yX9_does yX9_does) ∈ BIG := bgs 49 (q := (yX9_does, _)) rfl rfl
theorem bs50 : (Cond.selects RX9 yX9_lets yX9_lets) ∈ BIG := bgs 50 (q := (yX9_lets, _)) rfl rfl
theorem bs51 : (Cond.selects RX9 yX9_inState yX9_inState) ∈ BIG := bgs 51 (q := (yX9_inState, _)) rfl rfl
theorem bs52 : (Cond.selects RX9 yX9_paymentsOf yX9_paymentsOf) ∈ BIG := bgs 52 (q := (yX9_paymentsOf, _)) rfl rfl
theorem bs53 : (Cond.selects RX9 yX9_hasFrom yX9_hasFrom) ∈ BIG := bgs 53 (q := (yX9_hasFrom, _)) rfl rfl
theorem bs54 : (Cond.selects RX9 yX9_sumOf yX9_sumOf) ∈ BIG := bgs 54 (q := (yX9_sumOf, _)) rfl rfl
theorem bs55 : (Cond.selects RX9 yX9_areMergeable yX9_areMergeable) ∈ BIG := bgs 55 (q := (yX9_areMergeable, _)) rfl rfl
theorem bs56 : (Cond.selects RX9 yX9_isLate yX9_isLate) ∈ BIG := bgs 56 (q := (yX9_isLate, _)) rfl rfl
