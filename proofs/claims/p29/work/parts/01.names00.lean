def RX0 : String := "TeamRooms$Desk"
def TX0 : u_T := fun k => match k with
  | 0 => ("TeamRooms$Desk", "venue", "LTeamRooms$Venue;", true)
  | 1 => ("TeamRooms$Desk", "rooms", "LTeamRooms$Table;", true)
  | 2 => ("TeamRooms$Desk", "bookings", "LTeamRooms$Table;", true)
  | 3 => ("TeamRooms$Desk", "vouchers", "LTeamRooms$Table;", true)
  | _ => ("TeamRooms$Desk", "payments", "LTeamRooms$Table;", true)
def tyX0 : Nat → FieldType := fun k => match k with
  | 0 => .object "TeamRooms$Venue"
  | 1 => .object "TeamRooms$Table"
  | 2 => .object "TeamRooms$Table"
  | 3 => .object "TeamRooms$Table"
  | _ => .object "TeamRooms$Table"
theorem nmX0 : ∀ a, a < 5 → ∀ b, b < 5 → a ≠ b → (TX0 a).2.1 ≠ (TX0 b).2.1 := by decide +kernel
theorem tyX0_ok : ∀ k, k < 5 → parseFieldDescriptor (TX0 k).2.2.1 = some (tyX0 k) := by decide +kernel
abbrev cX0_init : ByteArray := prog_2_method_1_code
def yX0_init : MethodName := ⟨RX0, "<init>", "(LTeamRooms$Venue;)V"⟩
abbrev cX0_newRoom : ByteArray := prog_2_method_2_code
def yX0_newRoom : MethodName := ⟨RX0, "newRoom", "(IIII)I"⟩
abbrev cX0_changePrice : ByteArray := prog_2_method_3_code
def yX0_changePrice : MethodName := ⟨RX0, "changePrice", "(II)I"⟩
abbrev cX0_changeSetting : ByteArray := prog_2_method_4_code
def yX0_changeSetting : MethodName := ⟨RX0, "changeSetting", "(II)I"⟩
abbrev cX0_newVoucher : ByteArray := prog_2_method_5_code
def yX0_newVoucher : MethodName := ⟨RX0, "newVoucher", "(I)I"⟩
abbrev cX0_newBooking : ByteArray := prog_2_method_6_code
def yX0_newBooking : MethodName := ⟨RX0, "newBooking", "(IIII)I"⟩
abbrev cX0_payCharge : ByteArray := prog_2_method_7_code
def yX0_payCharge : MethodName := ⟨RX0, "payCharge", "(III)V"⟩
abbrev cX0_changeTime : ByteArray := prog_2_method_8_code
def yX0_changeTime : MethodName := ⟨RX0, "changeTime", "(II)I"⟩
abbrev cX0_callOff : ByteArray := prog_2_method_9_code
def yX0_callOff : MethodName := ⟨RX0, "callOff", "(I)I"⟩
abbrev cX0_refund : ByteArray := prog_2_method_10_code
def yX0_refund : MethodName := ⟨RX0, "refund", "(II)V"⟩
abbrev cX0_refundPayment : ByteArray := prog_2_method_11_code
def yX0_refundPayment : MethodName := ⟨RX0, "refundPayment", "(II)I"⟩
abbrev cX0_joinTeams : ByteArray := prog_2_method_12_code
def yX0_joinTeams : MethodName := ⟨RX0, "joinTeams", "(II)I"⟩
abbrev cX0_handOver : ByteArray := prog_2_method_13_code
def yX0_handOver : MethodName := ⟨RX0, "handOver", "(III)V"⟩
abbrev cX0_handOverPayments : ByteArray := prog_2_method_14_code
def yX0_handOverPayments : MethodName := ⟨RX0, "handOverPayments", "(II)V"⟩
abbrev cX0_letPlay : ByteArray := prog_2_method_15_code
def yX0_letPlay : MethodName := ⟨RX0, "letPlay", "(IIII)I"⟩
abbrev cX0_occupy : ByteArray := prog_2_method_16_code
def yX0_occupy : MethodName := ⟨RX0, "occupy", "(III)I"⟩
def RX1 : String := "TeamRooms$History"
def TX1 : u_T := fun k => match k with
  | 0 => ("TeamRooms$History", "states", "[LTeamRooms$State;", true)
  | _ => ("TeamRooms$History", "recorded", "I", false)
def tyX1 : Nat → FieldType := fun k => match k with
  | 0 => .array (.object "TeamRooms$State")
  | _ => .int
theorem nmX1 : ∀ a, a < 2 → ∀ b, b < 2 → a ≠ b → (TX1 a).2.1 ≠ (TX1 b).2.1 := by decide +kernel
theorem tyX1_ok : ∀ k, k < 2 → parseFieldDescriptor (TX1 k).2.2.1 = some (tyX1 k) := by decide +kernel
abbrev cX1_init : ByteArray := prog_3_method_1_code
def yX1_init : MethodName := ⟨RX1, "<init>", "()V"⟩
abbrev cX1_size : ByteArray := prog_3_method_2_code
def yX1_size : MethodName := ⟨RX1, "size", "()I"⟩
abbrev cX1_prepare : ByteArray := prog_3_method_3_code
def yX1_prepare : MethodName := ⟨RX1, "prepare", "(LTeamRooms$State;)V"⟩
abbrev cX1_settle : ByteArray := prog_3_method_5_code
def yX1_settle : MethodName := ⟨RX1, "settle", "(I)I"⟩
abbrev cX1_record : ByteArray := prog_3_method_7_code
def yX1_record : MethodName := ⟨RX1, "record", "()V"⟩
abbrev cX1_stateAt : ByteArray := prog_3_method_8_code
def yX1_stateAt : MethodName := ⟨RX1, "stateAt", "(I)LTeamRooms$State;"⟩
def RX2 : String := "TeamRooms$Outlook"
def TX2 : u_T := fun k => match k with
  | 0 => ("TeamRooms$Outlook", "venue", "LTeamRooms$Venue;", true)
  | 1 => ("TeamRooms$Outlook", "rooms", "LTeamRooms$Table;", true)
  | _ => ("TeamRooms$Outlook", "bookings", "LTeamRooms$Table;", true)
def tyX2 : Nat → FieldType := fun k => match k with
  | 0 => .object "TeamRooms$Venue"
  | 1 => .object "TeamRooms$Table"
  | _ => .object "TeamRooms$Table"
theorem nmX2 : ∀ a, a < 3 → ∀ b, b < 3 → a ≠ b → (TX2 a).2.1 ≠ (TX2 b).2.1 := by decide +kernel
theorem tyX2_ok : ∀ k, k < 3 → parseFieldDescriptor (TX2 k).2.2.1 = some (tyX2 k) := by decide +kernel
abbrev cX2_init : ByteArray := prog_4_method_1_code
def yX2_init : MethodName := ⟨RX2, "<init>", "(LTeamRooms$Venue;)V"⟩
def RX3 : String := "TeamRooms$Program"
def TX3 : u_T := fun k => match k with
  | 0 => ("TeamRooms$Program", "text", "[I", true)
  | 1 => ("TeamRooms$Program", "numbers", "[I", true)
  | 2 => ("TeamRooms$Program", "length", "I", false)
  | 3 => ("TeamRooms$Program", "kind", "I", false)
  | 4 => ("TeamRooms$Program", "start", "I", false)
  | _ => ("TeamRooms$Program", "end", "I", false)
def tyX3 : Nat → FieldType := fun k => match k with
  | 0 => .array .int
  | 1 => .array .int
  | 2 => .int
  | 3 => .int
  | 4 => .int
  | _ => .int
theorem nmX3 : ∀ a, a < 6 → ∀ b, b < 6 → a ≠ b → (TX3 a).2.1 ≠ (TX3 b).2.1 := by decide +kernel
theorem tyX3_ok : ∀ k, k < 6 → parseFieldDescriptor (TX3 k).2.2.1 = some (tyX3 k) := by decide +kernel
abbrev cX3_init : ByteArray := prog_5_method_1_code
def yX3_init : MethodName := ⟨RX3, "<init>", "()V"⟩
abbrev cX3_size : ByteArray := prog_5_method_2_code
def yX3_size : MethodName := ⟨RX3, "size", "()I"⟩
def RX4 : String := "TeamRooms$Slot"
def TX4 : u_T := fun k => match k with
  | 0 => ("TeamRooms$Slot", "kept", "LTeamRooms$Venue;", true)
  | _ => ("TeamRooms$Slot", "taken", "Z", false)
def tyX4 : Nat → FieldType := fun k => match k with
  | 0 => .object "TeamRooms$Venue"
  | _ => .boolean
theorem nmX4 : ∀ a, a < 2 → ∀ b, b < 2 → a ≠ b → (TX4 a).2.1 ≠ (TX4 b).2.1 := by decide +kernel
theorem tyX4_ok : ∀ k, k < 2 → parseFieldDescriptor (TX4 k).2.2.1 = some (tyX4 k) := by decide +kernel
abbrev cX4_init : ByteArray := prog_6_method_1_code
def yX4_init : MethodName := ⟨RX4, "<init>", "()V"⟩
abbrev cX4_copyFrom : ByteArray := prog_6_method_3_code
def yX4_copyFrom : MethodName := ⟨RX4, "copyFrom", "(LTeamRooms$Slot;)V"⟩
def RX5 : String := "TeamRooms$State"
def TX5 : u_T := fun k => match k with
  | 0 => ("TeamRooms$State", "venue", "LTeamRooms$Venue;", true)
  | 1 => ("TeamRooms$State", "first", "LTeamRooms$Slot;", true)
  | _ => ("TeamRooms$State", "second", "LTeamRooms$Slot;", true)
def tyX5 : Nat → FieldType := fun k => match k with
  | 0 => .object "TeamRooms$Venue"
  | 1 => .object "TeamRooms$Slot"
  | _ => .object "TeamRooms$Slot"
theorem nmX5 : ∀ a, a < 3 → ∀ b, b < 3 → a ≠ b → (TX5 a).2.1 ≠ (TX5 b).2.1 := by decide +kernel
theorem tyX5_ok : ∀ k, k < 3 → parseFieldDescriptor (TX5 k).2.2.1 = some (tyX5 k) := by decide +kernel
abbrev cX5_init : ByteArray := prog_7_method_1_code
def yX5_init : MethodName := ⟨RX5, "<init>", "()V"⟩
abbrev cX5_snapshots : ByteArray := prog_7_method_3_code
def yX5_snapshots : MethodName := ⟨RX5, "snapshots", "()I"⟩
abbrev cX5_copyFrom : ByteArray := prog_7_method_4_code
def yX5_copyFrom : MethodName := ⟨RX5, "copyFrom", "(LTeamRooms$State;)V"⟩
def RX6 : String := "TeamRooms$Table"
def TX6 : u_T := fun k => match k with
  | 0 => ("TeamRooms$Table", "cells", "[I", true)
  | 1 => ("TeamRooms$Table", "capacity", "I", true)
  | 2 => ("TeamRooms$Table", "width", "I", true)
  | _ => ("TeamRooms$Table", "used", "I", false)
def tyX6 : Nat → FieldType := fun k => match k with
  | 0 => .array .int
  | 1 => .int
  | 2 => .int
  | _ => .int
theorem nmX6 : ∀ a, a < 4 → ∀ b, b < 4 → a ≠ b → (TX6 a).2.1 ≠ (TX6 b).2.1 := by decide +kernel
theorem tyX6_ok : ∀ k, k < 4 → parseFieldDescriptor (TX6 k).2.2.1 = some (tyX6 k) := by decide +kernel
abbrev cX6_init : ByteArray := prog_8_method_1_code
def yX6_init : MethodName := ⟨RX6, "<init>", "(II)V"⟩
abbrev cX6_size : ByteArray := prog_8_method_2_code
def yX6_size : MethodName := ⟨RX6, "size", "()I"⟩
abbrev cX6_has : ByteArray := prog_8_method_3_code
def yX6_has : MethodName := ⟨RX6, "has", "(I)Z"⟩
abbrev cX6_isFull : ByteArray := prog_8_method_4_code
def yX6_isFull : MethodName := ⟨RX6, "isFull", "()Z"⟩
abbrev cX6_addRow : ByteArray := prog_8_method_5_code
def yX6_addRow : MethodName := ⟨RX6, "addRow", "()I"⟩
abbrev cX6_cell : ByteArray := prog_8_method_6_code
def yX6_cell : MethodName := ⟨RX6, "cell", "(II)I"⟩
abbrev cX6_put : ByteArray := prog_8_method_7_code
def yX6_put : MethodName := ⟨RX6, "put", "(III)V"⟩
abbrev cX6_raise : ByteArray := prog_8_method_8_code
def yX6_raise : MethodName := ⟨RX6, "raise", "(III)V"⟩
abbrev cX6_total : ByteArray := prog_8_method_9_code
def yX6_total : MethodName := ⟨RX6, "total", "(I)I"⟩
abbrev cX6_copyFrom : ByteArray := prog_8_method_10_code
def yX6_copyFrom : MethodName := ⟨RX6, "copyFrom", "(LTeamRooms$Table;)V"⟩
def RX7 : String := "TeamRooms$Venue"
def TX7 : u_T := fun k => match k with
  | 0 => ("TeamRooms$Venue", "rooms", "LTeamRooms$Table;", true)
  | 1 => ("TeamRooms$Venue", "bookings", "LTeamRooms$Table;", true)
  | 2 => ("TeamRooms$Venue", "vouchers", "LTeamRooms$Table;", true)
  | 3 => ("TeamRooms$Venue", "payments", "LTeamRooms$Table;", true)
  | 4 => ("TeamRooms$Venue", "settings", "LTeamRooms$Table;", true)
  | _ => ("TeamRooms$Venue", "till", "I", false)
def tyX7 : Nat → FieldType := fun k => match k with
  | 0 => .object "TeamRooms$Table"
  | 1 => .object "TeamRooms$Table"
  | 2 => .object "TeamRooms$Table"
  | 3 => .object "TeamRooms$Table"
  | 4 => .object "TeamRooms$Table"
  | _ => .int
theorem nmX7 : ∀ a, a < 6 → ∀ b, b < 6 → a ≠ b → (TX7 a).2.1 ≠ (TX7 b).2.1 := by decide +kernel
theorem tyX7_ok : ∀ k, k < 6 → parseFieldDescriptor (TX7 k).2.2.1 = some (tyX7 k) := by decide +kernel
abbrev cX7_init : ByteArray := prog_9_method_1_code
def yX7_init : MethodName := ⟨RX7, "<init>", "()V"⟩
abbrev cX7_copyFrom : ByteArray := prog_9_method_2_code
def yX7_copyFrom : MethodName := ⟨RX7, "copyFrom", "(LTeamRooms$Venue;)V"⟩
abbrev cX7_setting : ByteArray := prog_9_method_3_code
def yX7_setting : MethodName := ⟨RX7, "setting", "(I)I"⟩
abbrev cX7_isBooked : ByteArray := prog_9_method_4_code
def yX7_isBooked : MethodName := ⟨RX7, "isBooked", "(I)Z"⟩
abbrev cX7_bookingsInState : ByteArray := prog_9_method_5_code
def yX7_bookingsInState : MethodName := ⟨RX7, "bookingsInState", "(I)I"⟩
abbrev cX7_period : ByteArray := prog_9_method_6_code
def yX7_period : MethodName := ⟨RX7, "period", "(I)I"⟩
abbrev cX7_timeBehindPlays : ByteArray := prog_9_method_7_code
def yX7_timeBehindPlays : MethodName := ⟨RX7, "timeBehindPlays", "(I)I"⟩
abbrev cX7_collision : ByteArray := prog_9_method_8_code
def yX7_collision : MethodName := ⟨RX7, "collision", "(III)I"⟩
abbrev cX7_isPossible : ByteArray := prog_9_method_9_code
def yX7_isPossible : MethodName := ⟨RX7, "isPossible", "(III)Z"⟩
abbrev cX7_nextBooked : ByteArray := prog_9_method_10_code
def yX7_nextBooked : MethodName := ⟨RX7, "nextBooked", "(II)I"⟩
abbrev cX7_forecastStart : ByteArray := prog_9_method_11_code
def yX7_forecastStart : MethodName := ⟨RX7, "forecastStart", "(I)I"⟩
abbrev cX7_refundForDelay : ByteArray := prog_9_method_12_code
def yX7_refundForDelay : MethodName := ⟨RX7, "refundForDelay", "(II)I"⟩
abbrev cX7_paidByVouchers : ByteArray := prog_9_method_13_code
def yX7_paidByVouchers : MethodName := ⟨RX7, "paidByVouchers", "(I)I"⟩
abbrev cX7_paymentsLeft : ByteArray := prog_9_method_14_code
def yX7_paymentsLeft : MethodName := ⟨RX7, "paymentsLeft", "(I)I"⟩
abbrev cX7_bookingsPaidWith : ByteArray := prog_9_method_15_code
def yX7_bookingsPaidWith : MethodName := ⟨RX7, "bookingsPaidWith", "(I)I"⟩
abbrev cX7_isPaidWith : ByteArray := prog_9_method_16_code
def yX7_isPaidWith : MethodName := ⟨RX7, "isPaidWith", "(II)Z"⟩
abbrev cX7_paymentAt : ByteArray := prog_9_method_17_code
def yX7_paymentAt : MethodName := ⟨RX7, "paymentAt", "(II)I"⟩
def RX8 : String := "TeamRooms"
def TX8 : u_T := fun k => match k with
  | 0 => ("TeamRooms", "now", "LTeamRooms$State;", true)
  | 1 => ("TeamRooms", "venue", "LTeamRooms$Venue;", true)
  | 2 => ("TeamRooms", "desk", "LTeamRooms$Desk;", true)
  | 3 => ("TeamRooms", "outlook", "LTeamRooms$Outlook;", true)
  | 4 => ("TeamRooms", "history", "LTeamRooms$History;", true)
  | _ => ("TeamRooms", "program", "LTeamRooms$Program;", true)
def tyX8 : Nat → FieldType := fun k => match k with
  | 0 => .object "TeamRooms$State"
  | 1 => .object "TeamRooms$Venue"
  | 2 => .object "TeamRooms$Desk"
  | 3 => .object "TeamRooms$Outlook"
  | 4 => .object "TeamRooms$History"
  | _ => .object "TeamRooms$Program"
theorem nmX8 : ∀ a, a < 6 → ∀ b, b < 6 → a ≠ b → (TX8 a).2.1 ≠ (TX8 b).2.1 := by decide +kernel
theorem tyX8_ok : ∀ k, k < 6 → parseFieldDescriptor (TX8 k).2.2.1 = some (tyX8 k) := by decide +kernel
abbrev cX8_init : ByteArray := prog_1_method_1_code
def yX8_init : MethodName := ⟨RX8, "<init>", "()V"⟩
abbrev cX8_addRoom : ByteArray := prog_1_method_2_code
def yX8_addRoom : MethodName := ⟨RX8, "addRoom", "(IIII)I"⟩
abbrev cX8_setPrice : ByteArray := prog_1_method_3_code
def yX8_setPrice : MethodName := ⟨RX8, "setPrice", "(II)I"⟩
abbrev cX8_set : ByteArray := prog_1_method_4_code
def yX8_set : MethodName := ⟨RX8, "set", "(II)I"⟩
abbrev cX8_sellVoucher : ByteArray := prog_1_method_5_code
def yX8_sellVoucher : MethodName := ⟨RX8, "sellVoucher", "(I)I"⟩
abbrev cX8_book : ByteArray := prog_1_method_6_code
def yX8_book : MethodName := ⟨RX8, "book", "(IIII)I"⟩
abbrev cX8_move : ByteArray := prog_1_method_7_code
def yX8_move : MethodName := ⟨RX8, "move", "(II)I"⟩
abbrev cX8_cancel : ByteArray := prog_1_method_8_code
def yX8_cancel : MethodName := ⟨RX8, "cancel", "(I)I"⟩
abbrev cX8_merge : ByteArray := prog_1_method_9_code
def yX8_merge : MethodName := ⟨RX8, "merge", "(II)I"⟩
abbrev cX8_play : ByteArray := prog_1_method_10_code
def yX8_play : MethodName := ⟨RX8, "play", "(IIII)I"⟩
abbrev cX8_count : ByteArray := prog_1_method_17_code
def yX8_count : MethodName := ⟨RX8, "count", "(I)I"⟩
abbrev cX8_room : ByteArray := prog_1_method_18_code
def yX8_room : MethodName := ⟨RX8, "room", "(II)I"⟩
abbrev cX8_booking : ByteArray := prog_1_method_19_code
def yX8_booking : MethodName := ⟨RX8, "booking", "(II)I"⟩
abbrev cX8_voucher : ByteArray := prog_1_method_20_code
def yX8_voucher : MethodName := ⟨RX8, "voucher", "(II)I"⟩
abbrev cX8_money : ByteArray := prog_1_method_21_code
def yX8_money : MethodName := ⟨RX8, "money", "(I)I"⟩
abbrev cX8_inRange : ByteArray := prog_1_method_28_code
def yX8_inRange : MethodName := ⟨RX8, "inRange", "(III)Z"⟩
def RX9 : String := "TeamRoomsModel"
def TX9 : u_T := fun k => match k with
  | _ => ("", "", "", false)
def tyX9 : Nat → FieldType := fun k => match k with
  | _ => .int
theorem nmX9 : ∀ a, a < 0 → ∀ b, b < 0 → a ≠ b → (TX9 a).2.1 ≠ (TX9 b).2.1 := by decide +kernel
theorem tyX9_ok : ∀ k, k < 0 → parseFieldDescriptor (TX9 k).2.2.1 = some (tyX9 k) := by decide +kernel
def RJ9 : String := "java/lang/Math"
def TJ9 : u_T := fun k => match k with
  | _ => ("", "", "", false)
def tyJ9 : Nat → FieldType := fun k => match k with
  | _ => .int
theorem nmJ9 : ∀ a, a < 0 → ∀ b, b < 0 → a ≠ b → (TJ9 a).2.1 ≠ (TJ9 b).2.1 := by decide +kernel
theorem tyJ9_ok : ∀ k, k < 0 → parseFieldDescriptor (TJ9 k).2.2.1 = some (tyJ9 k) := by decide +kernel
abbrev cJ9_abs_0f7a4 : ByteArray := prog_12_method_59_code
def yJ9_abs_0f7a4 : MethodName := ⟨RJ9, "abs", "(I)I"⟩
abbrev cJ9_max_7cf53 : ByteArray := prog_12_method_65_code
def yJ9_max_7cf53 : MethodName := ⟨RJ9, "max", "(II)I"⟩
abbrev cJ9_min_7cf53 : ByteArray := prog_12_method_69_code
def yJ9_min_7cf53 : MethodName := ⟨RJ9, "min", "(II)I"⟩
def RJ10 : String := "java/lang/System"
def TJ10 : u_T := fun k => match k with
  | _ => ("", "", "", false)
def tyJ10 : Nat → FieldType := fun k => match k with
  | _ => .int
theorem nmJ10 : ∀ a, a < 0 → ∀ b, b < 0 → a ≠ b → (TJ10 a).2.1 ≠ (TJ10 b).2.1 := by decide +kernel
theorem tyJ10_ok : ∀ k, k < 0 → parseFieldDescriptor (TJ10 k).2.2.1 = some (tyJ10 k) := by decide +kernel
def RL : String := "TeamRoomsLaw"
abbrev cL_cell : ByteArray := method_2_code
def yL_cell : MethodName := ⟨RL, "cell", "([II)I"⟩
abbrev cL_low : ByteArray := method_3_code
def yL_low : MethodName := ⟨RL, "low", "(II)I"⟩
abbrev cL_may : ByteArray := method_4_code
def yL_may : MethodName := ⟨RL, "may", "([I[I[IIII)Z"⟩
abbrev cL_next : ByteArray := method_5_code
def yL_next : MethodName := ⟨RL, "next", "([I[III)I"⟩
abbrev cL_late : ByteArray := method_6_code
def yL_late : MethodName := ⟨RL, "late", "([I[I[III)I"⟩
abbrev cL_share : ByteArray := method_7_code
def yL_share : MethodName := ⟨RL, "share", "([III)I"⟩
abbrev cL_paid : ByteArray := method_8_code
def yL_paid : MethodName := ⟨RL, "paid", "([I[I[II)I"⟩
abbrev cL_refunds : ByteArray := method_9_code
def yL_refunds : MethodName := ⟨RL, "refunds", "([I[I[I[III)V"⟩
abbrev cL_acts : ByteArray := method_10_code
def yL_acts : MethodName := ⟨RL, "acts", "(LTeamRooms;[I[I[I[I[I[II)Z"⟩
abbrev cL_isSo : ByteArray := method_11_code
def yL_isSo : MethodName := ⟨RL, "isSo", "(LTeamRooms;[I[I[I[I[I[I)Z"⟩
abbrev cL_law : ByteArray := code
def yL_law : MethodName := ⟨RL, "law", "([I)Z"⟩
abbrev vwCl : List vw_C := [(RX0, TX0, 5), (RX1, TX1, 2), (RX2, TX2, 3), (RX3, TX3, 6), (RX4, TX4, 2), (RX5, TX5, 3), (RX6, TX6, 4), (RX7, TX7, 6), (RX8, TX8, 6)]
def BIG : List Cond := lw_tbl.filter goodWord
theorem big_good : ∀ w ∈ BIG, goodWord w = true := fun w h => (List.mem_filter.mp h).2
theorem big_in : ∀ w ∈ BIG, w ∈ lw_tbl := fun w h => (List.mem_filter.mp h).1
theorem bg1 (i : Nat) {w : Cond} (e : tables_1_1[i]? = some w) (hg : goodWord w = true) : w ∈ BIG := by
  have h := List.mem_of_getElem? e
  exact List.mem_filter.mpr ⟨List.mem_append_right _ (List.mem_append_left _ h), hg⟩
theorem bg2 (i : Nat) {w : Cond} (e : tables_1_2[i]? = some w) (hg : goodWord w = true) : w ∈ BIG := by
  have h := List.mem_of_getElem? e
  exact List.mem_filter.mpr ⟨List.mem_append_right _ (List.mem_append_right _ (List.mem_append_left _ h)), hg⟩
theorem bg3 (i : Nat) {w : Cond} (e : tables_1_3[i]? = some w) (hg : goodWord w = true) : w ∈ BIG := by
  have h := List.mem_of_getElem? e
  exact List.mem_filter.mpr ⟨List.mem_append_right _ (List.mem_append_right _ (List.mem_append_right _ (h))), hg⟩
theorem bgs (i : Nat) {q : MethodName × Nat} (e : lw_privs[i]? = some q) (hg : goodWord (Cond.selects q.1.cls q.1 q.1) = true) : Cond.selects q.1.cls q.1 q.1 ∈ BIG := List.mem_filter.mpr ⟨List.mem_append_left _ (List.mem_map.mpr ⟨q, List.mem_of_getElem? e, rfl⟩), hg⟩
