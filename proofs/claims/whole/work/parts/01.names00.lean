def RX0 : String := "TeamRooms$Desk"
def TX0 : u_T := fun k => match k with
  | 0 => ("TeamRooms$Desk", "venue", "LTeamRooms$Venue;", true)
  | 1 => ("TeamRooms$Desk", "rooms", "LTeamRooms$Table;", true)
  | 2 => ("TeamRooms$Desk", "bookings", "LTeamRooms$Table;", true)
  | 3 => ("TeamRooms$Desk", "vouchers", "LTeamRooms$Table;", true)
  | _ => ("TeamRooms$Desk", "payments", "LTeamRooms$Table;", true)
def tyX0 : Nat → FieldType := fun k => match k with
  | 0 => .object "TeamRooms$Venue"
  | 1 => .object "TeamRooms$Table"
  | 2 => .object "TeamRooms$Table"
  | 3 => .object "TeamRooms$Table"
  | _ => .object "TeamRooms$Table"
theorem nmX0 : ∀ a, a < 5 → ∀ b, b < 5 → a ≠ b → (TX0 a).2.1 ≠ (TX0 b).2.1 := by decide +kernel
theorem tyX0_ok : ∀ k, k < 5 → parseFieldDescriptor (TX0 k).2.2.1 = some (tyX0 k) := by decide +kernel
abbrev cX0_init : ByteArray := prog_2_method_1_code
def yX0_init : MethodName := ⟨RX0, "<init>", "(LTeamRooms$Venue;)V"⟩
abbrev cX0_newRoom : ByteArray := prog_2_method_2_code
def yX0_newRoom : MethodName := ⟨RX0, "newRoom", "(IIII)I"⟩
abbrev cX0_changePrice : ByteArray := prog_2_method_3_code
def yX0_changePrice : MethodName := ⟨RX0, "changePrice", "(II)I"⟩
abbrev cX0_changeSetting : ByteArray := prog_2_method_4_code
def yX0_changeSetting : MethodName := ⟨RX0, "changeSetting", "(II)I"⟩
abbrev cX0_newVoucher : ByteArray := prog_2_method_5_code
def yX0_newVoucher : MethodName := ⟨RX0, "newVoucher", "(I)I"⟩
abbrev cX0_newBooking : ByteArray := prog_2_method_6_code
def yX0_newBooking : MethodName := ⟨RX0, "newBooking", "(IIII)I"⟩
abbrev cX0_payCharge : ByteArray := prog_2_method_7_code
def yX0_payCharge : MethodName := ⟨RX0, "payCharge", "(III)V"⟩
abbrev cX0_changeTime : ByteArray := prog_2_method_8_code
def yX0_changeTime : MethodName := ⟨RX0, "changeTime", "(II)I"⟩
abbrev cX0_callOff : ByteArray := prog_2_method_9_code
def yX0_callOff : MethodName := ⟨RX0, "callOff", "(I)I"⟩
abbrev cX0_refund : ByteArray := prog_2_method_10_code
def yX0_refund : MethodName := ⟨RX0, "refund", "(II)V"⟩
abbrev cX0_refundPayment : ByteArray := prog_2_method_11_code
def yX0_refundPayment : MethodName := ⟨RX0, "refundPayment", "(II)I"⟩
abbrev cX0_joinTeams : ByteArray := prog_2_method_12_code
def yX0_joinTeams : MethodName := ⟨RX0, "joinTeams", "(II)I"⟩
abbrev cX0_handOver : ByteArray := prog_2_method_13_code
def yX0_handOver : MethodName := ⟨RX0, "handOver", "(III)V"⟩
abbrev cX0_handOverPayments : ByteArray := prog_2_method_14_code
def yX0_handOverPayments : MethodName := ⟨RX0, "handOverPayments", "(II)V"⟩
abbrev cX0_letPlay : ByteArray := prog_2_method_15_code
def yX0_letPlay : MethodName := ⟨RX0, "letPlay", "(IIII)I"⟩
abbrev cX0_occupy : ByteArray := prog_2_method_16_code
def yX0_occupy : MethodName := ⟨RX0, "occupy", "(III)I"⟩
def RX1 : String := "TeamRooms$History"
def TX1 : u_T := fun k => match k with
  | 0 => ("TeamRooms$History", "states", "[LTeamRooms$State;", true)
  | _ => ("TeamRooms$History", "recorded", "I", false)
def tyX1 : Nat → FieldType := fun k => match k with
  | 0 => .array (.object "TeamRooms$State")
  | _ => .int
theorem nmX1 : ∀ a, a < 2 → ∀ b, b < 2 → a ≠ b → (TX1 a).2.1 ≠ (TX1 b).2.1 := by decide +kernel
theorem tyX1_ok : ∀ k, k < 2 → parseFieldDescriptor (TX1 k).2.2.1 = some (tyX1 k) := by decide +kernel
abbrev cX1_init : ByteArray := prog_3_method_1_code
def yX1_init : MethodName := ⟨RX1, "<init>", "()V"⟩
abbrev cX1_size : ByteArray := prog_3_method_2_code
def yX1_size : MethodName := ⟨RX1, "size", "()I"⟩
abbrev cX1_prepare : ByteArray := prog_3_method_3_code
def yX1_prepare : MethodName := ⟨RX1, "prepare", "(LTeamRooms$State;)V"⟩
abbrev cX1_giveBack : ByteArray := prog_3_method_4_code
def yX1_giveBack : MethodName := ⟨RX1, "giveBack", "(LTeamRooms$State;)V"⟩
abbrev cX1_settle : ByteArray := prog_3_method_5_code
def yX1_settle : MethodName := ⟨RX1, "settle", "(I)I"⟩
abbrev cX1_stepBack : ByteArray := prog_3_method_6_code
def yX1_stepBack : MethodName := ⟨RX1, "stepBack", "(LTeamRooms$State;)I"⟩
abbrev cX1_record : ByteArray := prog_3_method_7_code
def yX1_record : MethodName := ⟨RX1, "record", "()V"⟩
abbrev cX1_stateAt : ByteArray := prog_3_method_8_code
def yX1_stateAt : MethodName := ⟨RX1, "stateAt", "(I)LTeamRooms$State;"⟩
def RX2 : String := "TeamRooms$Outlook"
def TX2 : u_T := fun k => match k with
  | 0 => ("TeamRooms$Outlook", "venue", "LTeamRooms$Venue;", true)
  | 1 => ("TeamRooms$Outlook", "rooms", "LTeamRooms$Table;", true)
  | _ => ("TeamRooms$Outlook", "bookings", "LTeamRooms$Table;", true)
def tyX2 : Nat → FieldType := fun k => match k with
  | 0 => .object "TeamRooms$Venue"
  | 1 => .object "TeamRooms$Table"
  | _ => .object "TeamRooms$Table"
theorem nmX2 : ∀ a, a < 3 → ∀ b, b < 3 → a ≠ b → (TX2 a).2.1 ≠ (TX2 b).2.1 := by decide +kernel
theorem tyX2_ok : ∀ k, k < 3 → parseFieldDescriptor (TX2 k).2.2.1 = some (tyX2 k) := by decide +kernel
abbrev cX2_init : ByteArray := prog_4_method_1_code
def yX2_init : MethodName := ⟨RX2, "<init>", "(LTeamRooms$Venue;)V"⟩
abbrev cX2_partOfForecast : ByteArray := prog_4_method_2_code
def yX2_partOfForecast : MethodName := ⟨RX2, "partOfForecast", "(II)I"⟩
abbrev cX2_earliestTime : ByteArray := prog_4_method_3_code
def yX2_earliestTime : MethodName := ⟨RX2, "earliestTime", "(II)I"⟩
abbrev cX2_largestPair : ByteArray := prog_4_method_4_code
def yX2_largestPair : MethodName := ⟨RX2, "largestPair", "(II)I"⟩
abbrev cX2_playersTogether : ByteArray := prog_4_method_5_code
def yX2_playersTogether : MethodName := ⟨RX2, "playersTogether", "(III)I"⟩
abbrev cX2_delayLeft : ByteArray := prog_4_method_6_code
def yX2_delayLeft : MethodName := ⟨RX2, "delayLeft", "(I)I"⟩
abbrev cX2_hintsLeft : ByteArray := prog_4_method_7_code
def yX2_hintsLeft : MethodName := ⟨RX2, "hintsLeft", "(II)I"⟩
abbrev cX2_roomByUse : ByteArray := prog_4_method_8_code
def yX2_roomByUse : MethodName := ⟨RX2, "roomByUse", "(I)I"⟩
abbrev cX2_roomsAheadOf : ByteArray := prog_4_method_9_code
def yX2_roomsAheadOf : MethodName := ⟨RX2, "roomsAheadOf", "(I)I"⟩
def RX3 : String := "TeamRooms$Program"
def TX3 : u_T := fun k => match k with
  | 0 => ("TeamRooms$Program", "text", "[I", true)
  | 1 => ("TeamRooms$Program", "numbers", "[I", true)
  | 2 => ("TeamRooms$Program", "length", "I", false)
  | 3 => ("TeamRooms$Program", "kind", "I", false)
  | 4 => ("TeamRooms$Program", "start", "I", false)
  | _ => ("TeamRooms$Program", "end", "I", false)
def tyX3 : Nat → FieldType := fun k => match k with
  | 0 => .array .int
  | 1 => .array .int
  | 2 => .int
  | 3 => .int
  | 4 => .int
  | _ => .int
theorem nmX3 : ∀ a, a < 6 → ∀ b, b < 6 → a ≠ b → (TX3 a).2.1 ≠ (TX3 b).2.1 := by decide +kernel
theorem tyX3_ok : ∀ k, k < 6 → parseFieldDescriptor (TX3 k).2.2.1 = some (tyX3 k) := by decide +kernel
abbrev cX3_init : ByteArray := prog_5_method_1_code
def yX3_init : MethodName := ⟨RX3, "<init>", "()V"⟩
abbrev cX3_size : ByteArray := prog_5_method_2_code
def yX3_size : MethodName := ⟨RX3, "size", "()I"⟩
abbrev cX3_add : ByteArray := prog_5_method_3_code
def yX3_add : MethodName := ⟨RX3, "add", "(I)I"⟩
abbrev cX3_empty : ByteArray := prog_5_method_4_code
def yX3_empty : MethodName := ⟨RX3, "empty", "()I"⟩
abbrev cX3_perform : ByteArray := prog_5_method_5_code
def yX3_perform : MethodName := ⟨RX3, "perform", "(LTeamRooms$Desk;)I"⟩
abbrev cX3_obey : ByteArray := prog_5_method_6_code
def yX3_obey : MethodName := ⟨RX3, "obey", "(LTeamRooms$Desk;I)I"⟩
abbrev cX3_readNumbers : ByteArray := prog_5_method_7_code
def yX3_readNumbers : MethodName := ⟨RX3, "readNumbers", "(I)Z"⟩
abbrev cX3_readToken : ByteArray := prog_5_method_8_code
def yX3_readToken : MethodName := ⟨RX3, "readToken", "()V"⟩
abbrev cX3_signAt : ByteArray := prog_5_method_9_code
def yX3_signAt : MethodName := ⟨RX3, "signAt", "(I)I"⟩
abbrev cX3_kindOf : ByteArray := prog_5_method_10_code
def yX3_kindOf : MethodName := ⟨RX3, "kindOf", "(I)I"⟩
abbrev cX3_isSemicolon : ByteArray := prog_5_method_11_code
def yX3_isSemicolon : MethodName := ⟨RX3, "isSemicolon", "()Z"⟩
abbrev cX3_isNumber : ByteArray := prog_5_method_12_code
def yX3_isNumber : MethodName := ⟨RX3, "isNumber", "()Z"⟩
abbrev cX3_numberValue : ByteArray := prog_5_method_13_code
def yX3_numberValue : MethodName := ⟨RX3, "numberValue", "()I"⟩
abbrev cX3_commandWord : ByteArray := prog_5_method_14_code
def yX3_commandWord : MethodName := ⟨RX3, "commandWord", "()I"⟩
abbrev cX3_isWord : ByteArray := prog_5_method_15_code
def yX3_isWord : MethodName := ⟨RX3, "isWord", "(Ljava/lang/String;)Z"⟩
def RX4 : String := "TeamRooms$Slot"
def TX4 : u_T := fun k => match k with
  | 0 => ("TeamRooms$Slot", "kept", "LTeamRooms$Venue;", true)
  | _ => ("TeamRooms$Slot", "taken", "Z", false)
def tyX4 : Nat → FieldType := fun k => match k with
  | 0 => .object "TeamRooms$Venue"
  | _ => .boolean
theorem nmX4 : ∀ a, a < 2 → ∀ b, b < 2 → a ≠ b → (TX4 a).2.1 ≠ (TX4 b).2.1 := by decide +kernel
theorem tyX4_ok : ∀ k, k < 2 → parseFieldDescriptor (TX4 k).2.2.1 = some (tyX4 k) := by decide +kernel
abbrev cX4_init : ByteArray := prog_6_method_1_code
def yX4_init : MethodName := ⟨RX4, "<init>", "()V"⟩
abbrev cX4_keep : ByteArray := prog_6_method_2_code
def yX4_keep : MethodName := ⟨RX4, "keep", "(LTeamRooms$Venue;)V"⟩
abbrev cX4_copyFrom : ByteArray := prog_6_method_3_code
def yX4_copyFrom : MethodName := ⟨RX4, "copyFrom", "(LTeamRooms$Slot;)V"⟩
def RX5 : String := "TeamRooms$State"
def TX5 : u_T := fun k => match k with
  | 0 => ("TeamRooms$State", "venue", "LTeamRooms$Venue;", true)
  | 1 => ("TeamRooms$State", "first", "LTeamRooms$Slot;", true)
  | _ => ("TeamRooms$State", "second", "LTeamRooms$Slot;", true)
def tyX5 : Nat → FieldType := fun k => match k with
  | 0 => .object "TeamRooms$Venue"
  | 1 => .object "TeamRooms$Slot"
  | _ => .object "TeamRooms$Slot"
theorem nmX5 : ∀ a, a < 3 → ∀ b, b < 3 → a ≠ b → (TX5 a).2.1 ≠ (TX5 b).2.1 := by decide +kernel
theorem tyX5_ok : ∀ k, k < 3 → parseFieldDescriptor (TX5 k).2.2.1 = some (tyX5 k) := by decide +kernel
abbrev cX5_init : ByteArray := prog_7_method_1_code
def yX5_init : MethodName := ⟨RX5, "<init>", "()V"⟩
abbrev cX5_slotOf : ByteArray := prog_7_method_2_code
def yX5_slotOf : MethodName := ⟨RX5, "slotOf", "(I)LTeamRooms$Slot;"⟩
abbrev cX5_snapshots : ByteArray := prog_7_method_3_code
def yX5_snapshots : MethodName := ⟨RX5, "snapshots", "()I"⟩
abbrev cX5_copyFrom : ByteArray := prog_7_method_4_code
def yX5_copyFrom : MethodName := ⟨RX5, "copyFrom", "(LTeamRooms$State;)V"⟩
def RX6 : String := "TeamRooms$Table"
def TX6 : u_T := fun k => match k with
  | 0 => ("TeamRooms$Table", "cells", "[I", true)
  | 1 => ("TeamRooms$Table", "capacity", "I", true)
  | 2 => ("TeamRooms$Table", "width", "I", true)
  | _ => ("TeamRooms$Table", "used", "I", false)
def tyX6 : Nat → FieldType := fun k => match k with
  | 0 => .array .int
  | 1 => .int
  | 2 => .int
  | _ => .int
theorem nmX6 : ∀ a, a < 4 → ∀ b, b < 4 → a ≠ b → (TX6 a).2.1 ≠ (TX6 b).2.1 := by decide +kernel
theorem tyX6_ok : ∀ k, k < 4 → parseFieldDescriptor (TX6 k).2.2.1 = some (tyX6 k) := by decide +kernel
abbrev cX6_init : ByteArray := prog_8_method_1_code
def yX6_init : MethodName := ⟨RX6, "<init>", "(II)V"⟩
abbrev cX6_size : ByteArray := prog_8_method_2_code
def yX6_size : MethodName := ⟨RX6, "size", "()I"⟩
abbrev cX6_has : ByteArray := prog_8_method_3_code
def yX6_has : MethodName := ⟨RX6, "has", "(I)Z"⟩
abbrev cX6_isFull : ByteArray := prog_8_method_4_code
def yX6_isFull : MethodName := ⟨RX6, "isFull", "()Z"⟩
abbrev cX6_addRow : ByteArray := prog_8_method_5_code
def yX6_addRow : MethodName := ⟨RX6, "addRow", "()I"⟩
abbrev cX6_cell : ByteArray := prog_8_method_6_code
def yX6_cell : MethodName := ⟨RX6, "cell", "(II)I"⟩
abbrev cX6_put : ByteArray := prog_8_method_7_code
def yX6_put : MethodName := ⟨RX6, "put", "(III)V"⟩
abbrev cX6_raise : ByteArray := prog_8_method_8_code
def yX6_raise : MethodName := ⟨RX6, "raise", "(III)V"⟩
abbrev cX6_total : ByteArray := prog_8_method_9_code
def yX6_total : MethodName := ⟨RX6, "total", "(I)I"⟩
abbrev cX6_copyFrom : ByteArray := prog_8_method_10_code
def yX6_copyFrom : MethodName := ⟨RX6, "copyFrom", "(LTeamRooms$Table;)V"⟩
def RX7 : String := "TeamRooms$Venue"
def TX7 : u_T := fun k => match k with
  | 0 => ("TeamRooms$Venue", "rooms", "LTeamRooms$Table;", true)
  | 1 => ("TeamRooms$Venue", "bookings", "LTeamRooms$Table;", true)
  | 2 => ("TeamRooms$Venue", "vouchers", "LTeamRooms$Table;", true)
  | 3 => ("TeamRooms$Venue", "payments", "LTeamRooms$Table;", true)
  | 4 => ("TeamRooms$Venue", "settings", "LTeamRooms$Table;", true)
  | _ => ("TeamRooms$Venue", "till", "I", false)
def tyX7 : Nat → FieldType := fun k => match k with
  | 0 => .object "TeamRooms$Table"
  | 1 => .object "TeamRooms$Table"
  | 2 => .object "TeamRooms$Table"
  | 3 => .object "TeamRooms$Table"
  | 4 => .object "TeamRooms$Table"
  | _ => .int
theorem nmX7 : ∀ a, a < 6 → ∀ b, b < 6 → a ≠ b → (TX7 a).2.1 ≠ (TX7 b).2.1 := by decide +kernel
theorem tyX7_ok : ∀ k, k < 6 → parseFieldDescriptor (TX7 k).2.2.1 = some (tyX7 k) := by decide +kernel
abbrev cX7_init : ByteArray := prog_9_method_1_code
def yX7_init : MethodName := ⟨RX7, "<init>", "()V"⟩
abbrev cX7_copyFrom : ByteArray := prog_9_method_2_code
def yX7_copyFrom : MethodName := ⟨RX7, "copyFrom", "(LTeamRooms$Venue;)V"⟩
abbrev cX7_setting : ByteArray := prog_9_method_3_code
def yX7_setting : MethodName := ⟨RX7, "setting", "(I)I"⟩
abbrev cX7_isBooked : ByteArray := prog_9_method_4_code
def yX7_isBooked : MethodName := ⟨RX7, "isBooked", "(I)Z"⟩
abbrev cX7_bookingsInState : ByteArray := prog_9_method_5_code
def yX7_bookingsInState : MethodName := ⟨RX7, "bookingsInState", "(I)I"⟩
abbrev cX7_period : ByteArray := prog_9_method_6_code
def yX7_period : MethodName := ⟨RX7, "period", "(I)I"⟩
abbrev cX7_timeBehindPlays : ByteArray := prog_9_method_7_code
def yX7_timeBehindPlays : MethodName := ⟨RX7, "timeBehindPlays", "(I)I"⟩
abbrev cX7_collision : ByteArray := prog_9_method_8_code
def yX7_collision : MethodName := ⟨RX7, "collision", "(III)I"⟩
abbrev cX7_isPossible : ByteArray := prog_9_method_9_code
def yX7_isPossible : MethodName := ⟨RX7, "isPossible", "(III)Z"⟩
abbrev cX7_nextBooked : ByteArray := prog_9_method_10_code
def yX7_nextBooked : MethodName := ⟨RX7, "nextBooked", "(II)I"⟩
abbrev cX7_forecastStart : ByteArray := prog_9_method_11_code
def yX7_forecastStart : MethodName := ⟨RX7, "forecastStart", "(I)I"⟩
abbrev cX7_refundForDelay : ByteArray := prog_9_method_12_code
def yX7_refundForDelay : MethodName := ⟨RX7, "refundForDelay", "(II)I"⟩
abbrev cX7_paidByVouchers : ByteArray := prog_9_method_13_code
def yX7_paidByVouchers : MethodName := ⟨RX7, "paidByVouchers", "(I)I"⟩
abbrev cX7_paymentsLeft : ByteArray := prog_9_method_14_code
def yX7_paymentsLeft : MethodName := ⟨RX7, "paymentsLeft", "(I)I"⟩
abbrev cX7_bookingsPaidWith : ByteArray := prog_9_method_15_code
def yX7_bookingsPaidWith : MethodName := ⟨RX7, "bookingsPaidWith", "(I)I"⟩
abbrev cX7_isPaidWith : ByteArray := prog_9_method_16_code
def yX7_isPaidWith : MethodName := ⟨RX7, "isPaidWith", "(II)Z"⟩
abbrev cX7_paymentAt : ByteArray := prog_9_method_17_code
def yX7_paymentAt : MethodName := ⟨RX7, "paymentAt", "(II)I"⟩
def RX8 : String := "TeamRooms"
def TX8 : u_T := fun k => match k with
  | 0 => ("TeamRooms", "now", "LTeamRooms$State;", true)
  | 1 => ("TeamRooms", "venue", "LTeamRooms$Venue;", true)
  | 2 => ("TeamRooms", "desk", "LTeamRooms$Desk;", true)
  | 3 => ("TeamRooms", "outlook", "LTeamRooms$Outlook;", true)
  | 4 => ("TeamRooms", "history", "LTeamRooms$History;", true)
  | _ => ("TeamRooms", "program", "LTeamRooms$Program;", true)
def tyX8 : Nat → FieldType := fun k => match k with
  | 0 => .object "TeamRooms$State"
  | 1 => .object "TeamRooms$Venue"
  | 2 => .object "TeamRooms$Desk"
  | 3 => .object "TeamRooms$Outlook"
  | 4 => .object "TeamRooms$History"
  | _ => .object "TeamRooms$Program"
theorem nmX8 : ∀ a, a < 6 → ∀ b, b < 6 → a ≠ b → (TX8 a).2.1 ≠ (TX8 b).2.1 := by decide +kernel
theorem tyX8_ok : ∀ k, k < 6 → parseFieldDescriptor (TX8 k).2.2.1 = some (tyX8 k) := by decide +kernel
abbrev cX8_init : ByteArray := prog_1_method_1_code
def yX8_init : MethodName := ⟨RX8, "<init>", "()V"⟩
abbrev cX8_addRoom : ByteArray := prog_1_method_2_code
def yX8_addRoom : MethodName := ⟨RX8, "addRoom", "(IIII)I"⟩
abbrev cX8_setPrice : ByteArray := prog_1_method_3_code
def yX8_setPrice : MethodName := ⟨RX8, "setPrice", "(II)I"⟩
abbrev cX8_set : ByteArray := prog_1_method_4_code
def yX8_set : MethodName := ⟨RX8, "set", "(II)I"⟩
abbrev cX8_sellVoucher : ByteArray := prog_1_method_5_code
def yX8_sellVoucher : MethodName := ⟨RX8, "sellVoucher", "(I)I"⟩
abbrev cX8_book : ByteArray := prog_1_method_6_code
def yX8_book : MethodName := ⟨RX8, "book", "(IIII)I"⟩
abbrev cX8_move : ByteArray := prog_1_method_7_code
def yX8_move : MethodName := ⟨RX8, "move", "(II)I"⟩
abbrev cX8_cancel : ByteArray := prog_1_method_8_code
def yX8_cancel : MethodName := ⟨RX8, "cancel", "(I)I"⟩
abbrev cX8_merge : ByteArray := prog_1_method_9_code
def yX8_merge : MethodName := ⟨RX8, "merge", "(II)I"⟩
abbrev cX8_play : ByteArray := prog_1_method_10_code
def yX8_play : MethodName := ⟨RX8, "play", "(IIII)I"⟩
abbrev cX8_take : ByteArray := prog_1_method_11_code
def yX8_take : MethodName := ⟨RX8, "take", "(I)I"⟩
abbrev cX8_restore : ByteArray := prog_1_method_12_code
def yX8_restore : MethodName := ⟨RX8, "restore", "(I)I"⟩
abbrev cX8_undo : ByteArray := prog_1_method_13_code
def yX8_undo : MethodName := ⟨RX8, "undo", "()I"⟩
abbrev cX8_append : ByteArray := prog_1_method_14_code
def yX8_append : MethodName := ⟨RX8, "append", "(I)I"⟩
abbrev cX8_clearText : ByteArray := prog_1_method_15_code
def yX8_clearText : MethodName := ⟨RX8, "clearText", "()I"⟩
abbrev cX8_run : ByteArray := prog_1_method_16_code
def yX8_run : MethodName := ⟨RX8, "run", "()I"⟩
abbrev cX8_count : ByteArray := prog_1_method_17_code
def yX8_count : MethodName := ⟨RX8, "count", "(I)I"⟩
abbrev cX8_room : ByteArray := prog_1_method_18_code
def yX8_room : MethodName := ⟨RX8, "room", "(II)I"⟩
abbrev cX8_booking : ByteArray := prog_1_method_19_code
def yX8_booking : MethodName := ⟨RX8, "booking", "(II)I"⟩
abbrev cX8_voucher : ByteArray := prog_1_method_20_code
def yX8_voucher : MethodName := ⟨RX8, "voucher", "(II)I"⟩
abbrev cX8_money : ByteArray := prog_1_method_21_code
def yX8_money : MethodName := ⟨RX8, "money", "(I)I"⟩
abbrev cX8_forecast : ByteArray := prog_1_method_22_code
def yX8_forecast : MethodName := ⟨RX8, "forecast", "(II)I"⟩
abbrev cX8_freeTime : ByteArray := prog_1_method_23_code
def yX8_freeTime : MethodName := ⟨RX8, "freeTime", "(II)I"⟩
abbrev cX8_mergeable : ByteArray := prog_1_method_24_code
def yX8_mergeable : MethodName := ⟨RX8, "mergeable", "(II)I"⟩
abbrev cX8_slack : ByteArray := prog_1_method_25_code
def yX8_slack : MethodName := ⟨RX8, "slack", "(I)I"⟩
abbrev cX8_hintsFor : ByteArray := prog_1_method_26_code
def yX8_hintsFor : MethodName := ⟨RX8, "hintsFor", "(II)I"⟩
abbrev cX8_busiest : ByteArray := prog_1_method_27_code
def yX8_busiest : MethodName := ⟨RX8, "busiest", "(I)I"⟩
abbrev cX8_inRange : ByteArray := prog_1_method_28_code
def yX8_inRange : MethodName := ⟨RX8, "inRange", "(III)Z"⟩
def RX9 : String := "TeamRoomsModel"
def TX9 : u_T := fun k => match k with
  | 0 => ("TeamRoomsModel", "s", "[I", true)
  | 1 => ("TeamRoomsModel", "past", "[I", true)
  | 2 => ("TeamRoomsModel", "aside", "[I", true)
  | 3 => ("TeamRoomsModel", "pasts", "I", false)
  | 4 => ("TeamRoomsModel", "text", "[I", true)
  | 5 => ("TeamRoomsModel", "typed", "I", false)
  | 6 => ("TeamRoomsModel", "spot", "I", false)
  | 7 => ("TeamRoomsModel", "start", "I", false)
  | 8 => ("TeamRoomsModel", "word", "J", false)
  | _ => ("TeamRoomsModel", "numbers", "[I", true)
def tyX9 : Nat → FieldType := fun k => match k with
  | 0 => .array .int
  | 1 => .array .int
  | 2 => .array .int
  | 3 => .int
  | 4 => .array .int
  | 5 => .int
  | 6 => .int
  | 7 => .int
  | 8 => .long
  | _ => .array .int
theorem nmX9 : ∀ a, a < 10 → ∀ b, b < 10 → a ≠ b → (TX9 a).2.1 ≠ (TX9 b).2.1 := by decide +kernel
theorem tyX9_ok : ∀ k, k < 10 → parseFieldDescriptor (TX9 k).2.2.1 = some (tyX9 k) := by decide +kernel
abbrev cX9_init : ByteArray := prog_11_method_1_code
def yX9_init : MethodName := ⟨RX9, "<init>", "()V"⟩
abbrev cX9_in : ByteArray := prog_11_method_3_code
def yX9_in : MethodName := ⟨RX9, "in", "(III)Z"⟩
abbrev cX9_lesser : ByteArray := prog_11_method_4_code
def yX9_lesser : MethodName := ⟨RX9, "lesser", "(II)I"⟩
abbrev cX9_greater : ByteArray := prog_11_method_5_code
def yX9_greater : MethodName := ⟨RX9, "greater", "(II)I"⟩
abbrev cX9_hold : ByteArray := prog_11_method_6_code
def yX9_hold : MethodName := ⟨RX9, "hold", "()V"⟩
abbrev cX9_lets : ByteArray := prog_11_method_7_code
def yX9_lets : MethodName := ⟨RX9, "lets", "()V"⟩
abbrev cX9_ends : ByteArray := prog_11_method_8_code
def yX9_ends : MethodName := ⟨RX9, "ends", "(I)I"⟩
abbrev cX9_isRoom : ByteArray := prog_11_method_9_code
def yX9_isRoom : MethodName := ⟨RX9, "isRoom", "(I)Z"⟩
abbrev cX9_isBooking : ByteArray := prog_11_method_10_code
def yX9_isBooking : MethodName := ⟨RX9, "isBooking", "(I)Z"⟩
abbrev cX9_isVoucher : ByteArray := prog_11_method_11_code
def yX9_isVoucher : MethodName := ⟨RX9, "isVoucher", "(I)Z"⟩
abbrev cX9_of : ByteArray := prog_11_method_12_code
def yX9_of : MethodName := ⟨RX9, "of", "(II)I"⟩
abbrev cX9_its : ByteArray := prog_11_method_13_code
def yX9_its : MethodName := ⟨RX9, "its", "(II)I"⟩
abbrev cX9_lays : ByteArray := prog_11_method_14_code
def yX9_lays : MethodName := ⟨RX9, "lays", "(III)V"⟩
abbrev cX9_adds : ByteArray := prog_11_method_15_code
def yX9_adds : MethodName := ⟨RX9, "adds", "(III)V"⟩
abbrev cX9_doRoom : ByteArray := prog_11_method_16_code
def yX9_doRoom : MethodName := ⟨RX9, "doRoom", "(IIII)I"⟩
abbrev cX9_addRoom : ByteArray := prog_11_method_17_code
def yX9_addRoom : MethodName := ⟨RX9, "addRoom", "(IIII)I"⟩
abbrev cX9_setPrice : ByteArray := prog_11_method_18_code
def yX9_setPrice : MethodName := ⟨RX9, "setPrice", "(II)I"⟩
abbrev cX9_highest : ByteArray := prog_11_method_19_code
def yX9_highest : MethodName := ⟨RX9, "highest", "(I)I"⟩
abbrev cX9_set : ByteArray := prog_11_method_20_code
def yX9_set : MethodName := ⟨RX9, "set", "(II)I"⟩
abbrev cX9_doGift : ByteArray := prog_11_method_21_code
def yX9_doGift : MethodName := ⟨RX9, "doGift", "(I)I"⟩
abbrev cX9_sellVoucher : ByteArray := prog_11_method_22_code
def yX9_sellVoucher : MethodName := ⟨RX9, "sellVoucher", "(I)I"⟩
abbrev cX9_isPossible : ByteArray := prog_11_method_23_code
def yX9_isPossible : MethodName := ⟨RX9, "isPossible", "(III)Z"⟩
abbrev cX9_doBook : ByteArray := prog_11_method_24_code
def yX9_doBook : MethodName := ⟨RX9, "doBook", "(IIII)I"⟩
abbrev cX9_book : ByteArray := prog_11_method_25_code
def yX9_book : MethodName := ⟨RX9, "book", "(IIII)I"⟩
abbrev cX9_move : ByteArray := prog_11_method_26_code
def yX9_move : MethodName := ⟨RX9, "move", "(II)I"⟩
abbrev cX9_byVouchers : ByteArray := prog_11_method_27_code
def yX9_byVouchers : MethodName := ⟨RX9, "byVouchers", "(I)I"⟩
abbrev cX9_refunds : ByteArray := prog_11_method_28_code
def yX9_refunds : MethodName := ⟨RX9, "refunds", "(II)V"⟩
abbrev cX9_nextOf : ByteArray := prog_11_method_29_code
def yX9_nextOf : MethodName := ⟨RX9, "nextOf", "(II)I"⟩
abbrev cX9_startOf : ByteArray := prog_11_method_30_code
def yX9_startOf : MethodName := ⟨RX9, "startOf", "(II)I"⟩
abbrev cX9_shareOf : ByteArray := prog_11_method_31_code
def yX9_shareOf : MethodName := ⟨RX9, "shareOf", "(II)I"⟩
abbrev cX9_doDrop : ByteArray := prog_11_method_32_code
def yX9_doDrop : MethodName := ⟨RX9, "doDrop", "(I)I"⟩
abbrev cX9_cancel : ByteArray := prog_11_method_33_code
def yX9_cancel : MethodName := ⟨RX9, "cancel", "(I)I"⟩
abbrev cX9_doJoin : ByteArray := prog_11_method_34_code
def yX9_doJoin : MethodName := ⟨RX9, "doJoin", "(II)I"⟩
abbrev cX9_merge : ByteArray := prog_11_method_35_code
def yX9_merge : MethodName := ⟨RX9, "merge", "(II)I"⟩
abbrev cX9_counts : ByteArray := prog_11_method_36_code
def yX9_counts : MethodName := ⟨RX9, "counts", "(III)V"⟩
abbrev cX9_doPlay : ByteArray := prog_11_method_37_code
def yX9_doPlay : MethodName := ⟨RX9, "doPlay", "(IIII)I"⟩
abbrev cX9_play : ByteArray := prog_11_method_38_code
def yX9_play : MethodName := ⟨RX9, "play", "(IIII)I"⟩
abbrev cX9_take : ByteArray := prog_11_method_39_code
def yX9_take : MethodName := ⟨RX9, "take", "(I)I"⟩
abbrev cX9_restore : ByteArray := prog_11_method_40_code
def yX9_restore : MethodName := ⟨RX9, "restore", "(I)I"⟩
abbrev cX9_undo : ByteArray := prog_11_method_41_code
def yX9_undo : MethodName := ⟨RX9, "undo", "()I"⟩
abbrev cX9_append : ByteArray := prog_11_method_42_code
def yX9_append : MethodName := ⟨RX9, "append", "(I)I"⟩
abbrev cX9_clearText : ByteArray := prog_11_method_43_code
def yX9_clearText : MethodName := ⟨RX9, "clearText", "()I"⟩
abbrev cX9_isAt : ByteArray := prog_11_method_44_code
def yX9_isAt : MethodName := ⟨RX9, "isAt", "(II)Z"⟩
abbrev cX9_skips : ByteArray := prog_11_method_45_code
def yX9_skips : MethodName := ⟨RX9, "skips", "()V"⟩
abbrev cX9_manyOf : ByteArray := prog_11_method_46_code
def yX9_manyOf : MethodName := ⟨RX9, "manyOf", "(J)I"⟩
abbrev cX9_isWord : ByteArray := prog_11_method_47_code
def yX9_isWord : MethodName := ⟨RX9, "isWord", "()Z"⟩
abbrev cX9_isNumber : ByteArray := prog_11_method_48_code
def yX9_isNumber : MethodName := ⟨RX9, "isNumber", "(I)Z"⟩
abbrev cX9_isStop : ByteArray := prog_11_method_49_code
def yX9_isStop : MethodName := ⟨RX9, "isStop", "()Z"⟩
abbrev cX9_does : ByteArray := prog_11_method_50_code
def yX9_does : MethodName := ⟨RX9, "does", "()I"⟩
abbrev cX9_isDone : ByteArray := prog_11_method_51_code
def yX9_isDone : MethodName := ⟨RX9, "isDone", "()Z"⟩
abbrev cX9_run : ByteArray := prog_11_method_52_code
def yX9_run : MethodName := ⟨RX9, "run", "()I"⟩
abbrev cX9_inState : ByteArray := prog_11_method_53_code
def yX9_inState : MethodName := ⟨RX9, "inState", "(I)I"⟩
abbrev cX9_count : ByteArray := prog_11_method_54_code
def yX9_count : MethodName := ⟨RX9, "count", "(I)I"⟩
abbrev cX9_room : ByteArray := prog_11_method_55_code
def yX9_room : MethodName := ⟨RX9, "room", "(II)I"⟩
abbrev cX9_paymentsOf : ByteArray := prog_11_method_56_code
def yX9_paymentsOf : MethodName := ⟨RX9, "paymentsOf", "(I)I"⟩
abbrev cX9_booking : ByteArray := prog_11_method_57_code
def yX9_booking : MethodName := ⟨RX9, "booking", "(II)I"⟩
abbrev cX9_hasFrom : ByteArray := prog_11_method_58_code
def yX9_hasFrom : MethodName := ⟨RX9, "hasFrom", "(II)Z"⟩
abbrev cX9_voucher : ByteArray := prog_11_method_59_code
def yX9_voucher : MethodName := ⟨RX9, "voucher", "(II)I"⟩
abbrev cX9_sumOf : ByteArray := prog_11_method_60_code
def yX9_sumOf : MethodName := ⟨RX9, "sumOf", "(I)I"⟩
abbrev cX9_money : ByteArray := prog_11_method_61_code
def yX9_money : MethodName := ⟨RX9, "money", "(I)I"⟩
abbrev cX9_forecast : ByteArray := prog_11_method_62_code
def yX9_forecast : MethodName := ⟨RX9, "forecast", "(II)I"⟩
abbrev cX9_freeTime : ByteArray := prog_11_method_63_code
def yX9_freeTime : MethodName := ⟨RX9, "freeTime", "(II)I"⟩
abbrev cX9_areMergeable : ByteArray := prog_11_method_64_code
def yX9_areMergeable : MethodName := ⟨RX9, "areMergeable", "(III)Z"⟩
abbrev cX9_mergeable : ByteArray := prog_11_method_65_code
def yX9_mergeable : MethodName := ⟨RX9, "mergeable", "(II)I"⟩
abbrev cX9_isLate : ByteArray := prog_11_method_66_code
def yX9_isLate : MethodName := ⟨RX9, "isLate", "(II)Z"⟩
abbrev cX9_slack : ByteArray := prog_11_method_67_code
def yX9_slack : MethodName := ⟨RX9, "slack", "(I)I"⟩
abbrev cX9_hintsFor : ByteArray := prog_11_method_68_code
def yX9_hintsFor : MethodName := ⟨RX9, "hintsFor", "(II)I"⟩
abbrev cX9_busiest : ByteArray := prog_11_method_69_code
def yX9_busiest : MethodName := ⟨RX9, "busiest", "(I)I"⟩
def RJ9 : String := "java/lang/Math"
def TJ9 : u_T := fun k => match k with
  | _ => ("", "", "", false)
def tyJ9 : Nat → FieldType := fun k => match k with
  | _ => .int
theorem nmJ9 : ∀ a, a < 0 → ∀ b, b < 0 → a ≠ b → (TJ9 a).2.1 ≠ (TJ9 b).2.1 := by decide +kernel
theorem tyJ9_ok : ∀ k, k < 0 → parseFieldDescriptor (TJ9 k).2.2.1 = some (tyJ9 k) := by decide +kernel
abbrev cJ9_abs_0f7a4 : ByteArray := prog_12_method_59_code
def yJ9_abs_0f7a4 : MethodName := ⟨RJ9, "abs", "(I)I"⟩
abbrev cJ9_max_7cf53 : ByteArray := prog_12_method_65_code
def yJ9_max_7cf53 : MethodName := ⟨RJ9, "max", "(II)I"⟩
abbrev cJ9_min_7cf53 : ByteArray := prog_12_method_69_code
def yJ9_min_7cf53 : MethodName := ⟨RJ9, "min", "(II)I"⟩
def RJ0 : String := "java/lang/String"
def TJ0 : u_T := fun k => match k with
  | _ => ("", "", "", false)
def tyJ0 : Nat → FieldType := fun k => match k with
  | _ => .int
theorem nmJ0 : ∀ a, a < 0 → ∀ b, b < 0 → a ≠ b → (TJ0 a).2.1 ≠ (TJ0 b).2.1 := by decide +kernel
theorem tyJ0_ok : ∀ k, k < 0 → parseFieldDescriptor (TJ0 k).2.2.1 = some (tyJ0 k) := by decide +kernel
abbrev cJ0_length_8abf5 : ByteArray := prog_13_method_54_code
def yJ0_length_8abf5 : MethodName := ⟨RJ0, "length", "()I"⟩
abbrev cJ0_charAt_5068e : ByteArray := prog_13_method_56_code
def yJ0_charAt_5068e : MethodName := ⟨RJ0, "charAt", "(I)C"⟩
abbrev cJ0_coder_7d493 : ByteArray := prog_13_method_152_code
def yJ0_coder_7d493 : MethodName := ⟨RJ0, "coder", "()B"⟩
abbrev cJ0_isLatin1_aae02 : ByteArray := prog_13_method_154_code
def yJ0_isLatin1_aae02 : MethodName := ⟨RJ0, "isLatin1", "()Z"⟩
abbrev cJ0_checkIndex_df160 : ByteArray := prog_13_method_155_code
def yJ0_checkIndex_df160 : MethodName := ⟨RJ0, "checkIndex", "(II)V"⟩
def RJ1 : String := "java/lang/StringLatin1"
def TJ1 : u_T := fun k => match k with
  | _ => ("", "", "", false)
def tyJ1 : Nat → FieldType := fun k => match k with
  | _ => .int
theorem nmJ1 : ∀ a, a < 0 → ∀ b, b < 0 → a ≠ b → (TJ1 a).2.1 ≠ (TJ1 b).2.1 := by decide +kernel
theorem tyJ1_ok : ∀ k, k < 0 → parseFieldDescriptor (TJ1 k).2.2.1 = some (tyJ1 k) := by decide +kernel
abbrev cJ1_charAt_3b067 : ByteArray := prog_14_method_2_code
def yJ1_charAt_3b067 : MethodName := ⟨RJ1, "charAt", "([BI)C"⟩
def RJ2 : String := "java/lang/StringUTF16"
def TJ2 : u_T := fun k => match k with
  | _ => ("", "", "", false)
def tyJ2 : Nat → FieldType := fun k => match k with
  | _ => .int
theorem nmJ2 : ∀ a, a < 0 → ∀ b, b < 0 → a ≠ b → (TJ2 a).2.1 ≠ (TJ2 b).2.1 := by decide +kernel
theorem tyJ2_ok : ∀ k, k < 0 → parseFieldDescriptor (TJ2 k).2.2.1 = some (tyJ2 k) := by decide +kernel
abbrev cJ2_getChar_3b067 : ByteArray := prog_15_method_5_code
def yJ2_getChar_3b067 : MethodName := ⟨RJ2, "getChar", "([BI)C"⟩
abbrev cJ2_length_9d52b : ByteArray := prog_15_method_6_code
def yJ2_length_9d52b : MethodName := ⟨RJ2, "length", "([B)I"⟩
abbrev cJ2_charAt_3b067 : ByteArray := prog_15_method_83_code
def yJ2_charAt_3b067 : MethodName := ⟨RJ2, "charAt", "([BI)C"⟩
abbrev cJ2_checkIndex_2214a : ByteArray := prog_15_method_91_code
def yJ2_checkIndex_2214a : MethodName := ⟨RJ2, "checkIndex", "(I[B)V"⟩
def RJ10 : String := "java/lang/System"
def TJ10 : u_T := fun k => match k with
  | _ => ("", "", "", false)
def tyJ10 : Nat → FieldType := fun k => match k with
  | _ => .int
theorem nmJ10 : ∀ a, a < 0 → ∀ b, b < 0 → a ≠ b → (TJ10 a).2.1 ≠ (TJ10 b).2.1 := by decide +kernel
theorem tyJ10_ok : ∀ k, k < 0 → parseFieldDescriptor (TJ10 k).2.2.1 = some (tyJ10 k) := by decide +kernel
def RJ3 : String := "jdk/internal/util/Preconditions"
def TJ3 : u_T := fun k => match k with
  | _ => ("", "", "", false)
def tyJ3 : Nat → FieldType := fun k => match k with
  | _ => .int
theorem nmJ3 : ∀ a, a < 0 → ∀ b, b < 0 → a ≠ b → (TJ3 a).2.1 ≠ (TJ3 b).2.1 := by decide +kernel
theorem tyJ3_ok : ∀ k, k < 0 → parseFieldDescriptor (TJ3 k).2.2.1 = some (tyJ3 k) := by decide +kernel
abbrev cJ3_checkIndex_8e157 : ByteArray := prog_17_method_11_code
def yJ3_checkIndex_8e157 : MethodName := ⟨RJ3, "checkIndex", "(IILjava/util/function/BiFunction;)I"⟩
def RL : String := "TeamRoomsLaw"
abbrev cL_law : ByteArray := code
def yL_law : MethodName := ⟨RL, "law", "([I)Z"⟩
abbrev vwCl : List vw_C := [(RX0, TX0, 5), (RX1, TX1, 2), (RX2, TX2, 3), (RX3, TX3, 6), (RX4, TX4, 2), (RX5, TX5, 3), (RX6, TX6, 4), (RX7, TX7, 6), (RX8, TX8, 6), (RX9, TX9, 10)]
def BIG : List Cond := lw_tbl.filter goodWord
theorem big_good : ∀ w ∈ BIG, goodWord w = true := fun w h => (List.mem_filter.mp h).2
theorem big_in : ∀ w ∈ BIG, w ∈ lw_tbl := fun w h => (List.mem_filter.mp h).1
theorem bg1 (i : Nat) {w : Cond} (e : tables_1_1[i]? = some w) (hg : goodWord w = true) : w ∈ BIG := by
  have h := List.mem_of_getElem? e
  exact List.mem_filter.mpr ⟨List.mem_append_right _ (List.mem_append_left _ h), hg⟩
theorem bg2 (i : Nat) {w : Cond} (e : tables_1_2[i]? = some w) (hg : goodWord w = true) : w ∈ BIG := by
  have h := List.mem_of_getElem? e
  exact List.mem_filter.mpr ⟨List.mem_append_right _ (List.mem_append_right _ (List.mem_append_left _ h)), hg⟩
theorem bg3 (i : Nat) {w : Cond} (e : tables_1_3[i]? = some w) (hg : goodWord w = true) : w ∈ BIG := by
  have h := List.mem_of_getElem? e
  exact List.mem_filter.mpr ⟨List.mem_append_right _ (List.mem_append_right _ (List.mem_append_right _ (List.mem_append_left _ h))), hg⟩
theorem bg4 (i : Nat) {w : Cond} (e : tables_1_4[i]? = some w) (hg : goodWord w = true) : w ∈ BIG := by
  have h := List.mem_of_getElem? e
  exact List.mem_filter.mpr ⟨List.mem_append_right _ (List.mem_append_right _ (List.mem_append_right _ (List.mem_append_right _ (List.mem_append_left _ h)))), hg⟩
theorem bg5 (i : Nat) {w : Cond} (e : tables_1_5[i]? = some w) (hg : goodWord w = true) : w ∈ BIG := by
  have h := List.mem_of_getElem? e
  exact List.mem_filter.mpr ⟨List.mem_append_right _ (List.mem_append_right _ (List.mem_append_right _ (List.mem_append_right _ (List.mem_append_right _ (h))))), hg⟩
theorem bgs (i : Nat) {q : MethodName × Nat} (e : lw_privs[i]? = some q) (hg : goodWord (Cond.selects q.1.cls q.1 q.1) = true) : Cond.selects q.1.cls q.1 q.1 ∈ BIG := List.mem_filter.mpr ⟨List.mem_append_left _ (List.mem_map.mpr ⟨q, List.mem_of_getElem? e, rfl⟩), hg⟩
