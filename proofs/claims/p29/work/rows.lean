section
-- ===== PART A: goes FIRST, ahead of the names: the tables' words, and 'selects' of the private methods out of them =====
/-- a private method of a class that the tables say can be made, by its rows of tables_1 -/
def lw_okq (q : MethodName × Nat) : Prop := (q.1.cls ≠ "java/lang/invoke/MethodHandle" ∧ q.1.cls ≠ "java/lang/invoke/VarHandle") ∧ Cond.instantiable q.1.cls q.2 ∈ tables_1 ∧ Cond.privateMethod q.1 ∈ tables_1 ∧ Cond.instanceMethod q.1 ∈ tables_1
theorem lw_p0 : lw_okq (⟨"TeamRooms$History", "stateAt", "(I)LTeamRooms$State;"⟩, 2) := ⟨⟨by decide +kernel, by decide +kernel⟩, List.mem_of_getElem? (i := 168) (by decide +kernel), List.mem_of_getElem? (i := 290) (by decide +kernel), List.mem_of_getElem? (i := 291) (by decide +kernel)⟩
theorem lw_p1 : lw_okq (⟨"TeamRooms$History", "record", "()V"⟩, 2) := ⟨⟨by decide +kernel, by decide +kernel⟩, List.mem_of_getElem? (i := 168) (by decide +kernel), List.mem_of_getElem? (i := 329) (by decide +kernel), List.mem_of_getElem? (i := 330) (by decide +kernel)⟩
theorem lw_p2 : lw_okq (⟨"TeamRooms$Desk", "payCharge", "(III)V"⟩, 5) := ⟨⟨by decide +kernel, by decide +kernel⟩, List.mem_of_getElem? (i := 130) (by decide +kernel), List.mem_of_getElem? (i := 377) (by decide +kernel), List.mem_of_getElem? (i := 378) (by decide +kernel)⟩
theorem lw_p3 : lw_okq (⟨"TeamRooms$Desk", "refund", "(II)V"⟩, 5) := ⟨⟨by decide +kernel, by decide +kernel⟩, List.mem_of_getElem? (i := 130) (by decide +kernel), List.mem_of_getElem? (i := 430) (by decide +kernel), List.mem_of_getElem? (i := 431) (by decide +kernel)⟩
theorem lw_p4 : lw_okq (⟨"TeamRooms$Desk", "refundPayment", "(II)I"⟩, 5) := ⟨⟨by decide +kernel, by decide +kernel⟩, List.mem_of_getElem? (i := 130) (by decide +kernel), List.mem_of_getElem? (i := 438) (by decide +kernel), List.mem_of_getElem? (i := 439) (by decide +kernel)⟩
theorem lw_p5 : lw_okq (⟨"TeamRooms$Desk", "handOver", "(III)V"⟩, 5) := ⟨⟨by decide +kernel, by decide +kernel⟩, List.mem_of_getElem? (i := 130) (by decide +kernel), List.mem_of_getElem? (i := 458) (by decide +kernel), List.mem_of_getElem? (i := 459) (by decide +kernel)⟩
theorem lw_p6 : lw_okq (⟨"TeamRooms$Desk", "handOverPayments", "(II)V"⟩, 5) := ⟨⟨by decide +kernel, by decide +kernel⟩, List.mem_of_getElem? (i := 130) (by decide +kernel), List.mem_of_getElem? (i := 462) (by decide +kernel), List.mem_of_getElem? (i := 463) (by decide +kernel)⟩
theorem lw_p7 : lw_okq (⟨"TeamRooms$Desk", "occupy", "(III)I"⟩, 5) := ⟨⟨by decide +kernel, by decide +kernel⟩, List.mem_of_getElem? (i := 130) (by decide +kernel), List.mem_of_getElem? (i := 480) (by decide +kernel), List.mem_of_getElem? (i := 481) (by decide +kernel)⟩
theorem lw_p8 : lw_okq (⟨"TeamRooms$Venue", "isPaidWith", "(II)Z"⟩, 6) := ⟨⟨by decide +kernel, by decide +kernel⟩, List.mem_of_getElem? (i := 27) (by decide +kernel), List.mem_of_getElem? (i := 530) (by decide +kernel), List.mem_of_getElem? (i := 531) (by decide +kernel)⟩
def lw_privs_1 : List (MethodName × Nat) := [(⟨"TeamRooms$History", "stateAt", "(I)LTeamRooms$State;"⟩, 2), (⟨"TeamRooms$History", "record", "()V"⟩, 2), (⟨"TeamRooms$Desk", "payCharge", "(III)V"⟩, 5), (⟨"TeamRooms$Desk", "refund", "(II)V"⟩, 5), (⟨"TeamRooms$Desk", "refundPayment", "(II)I"⟩, 5), (⟨"TeamRooms$Desk", "handOver", "(III)V"⟩, 5), (⟨"TeamRooms$Desk", "handOverPayments", "(II)V"⟩, 5), (⟨"TeamRooms$Desk", "occupy", "(III)I"⟩, 5), (⟨"TeamRooms$Venue", "isPaidWith", "(II)Z"⟩, 6)]
theorem lw_r1 : ∀ q ∈ lw_privs_1, lw_okq q := List.forall_mem_cons.mpr ⟨lw_p0, List.forall_mem_cons.mpr ⟨lw_p1, List.forall_mem_cons.mpr ⟨lw_p2, List.forall_mem_cons.mpr ⟨lw_p3, List.forall_mem_cons.mpr ⟨lw_p4, List.forall_mem_cons.mpr ⟨lw_p5, List.forall_mem_cons.mpr ⟨lw_p6, List.forall_mem_cons.mpr ⟨lw_p7, List.forall_mem_cons.mpr ⟨lw_p8, fun _ h => absurd h List.not_mem_nil⟩⟩⟩⟩⟩⟩⟩⟩⟩
def lw_privs : List (MethodName × Nat) := lw_privs_1
def lw_tbl : List Cond := k2_sels lw_privs ++ tables_1
theorem lw_privs_ok : ∀ q ∈ lw_privs, lw_okq q := lw_r1
end
section
def RX0 : String := "TeamRooms$Desk"
def TX0 : u_T := fun k => match k with
  | 0 => ("TeamRooms$Desk", "venue", "LTeamRooms$Venue;", true)
  | 1 => ("TeamRooms$Desk", "rooms", "LTeamRooms$Table;", true)
  | 2 => ("TeamRooms$Desk", "bookings", "LTeamRooms$Table;", true)
  | 3 => ("TeamRooms$Desk", "vouchers", "LTeamRooms$Table;", true)
  | _ => ("TeamRooms$Desk", "payments", "LTeamRooms$Table;", true)
def tyX0 : Nat → FieldType := fun k => match k with
  | 0 => .object "TeamRooms$Venue"
  | 1 => .object "TeamRooms$Table"
  | 2 => .object "TeamRooms$Table"
  | 3 => .object "TeamRooms$Table"
  | _ => .object "TeamRooms$Table"
theorem nmX0 : ∀ a, a < 5 → ∀ b, b < 5 → a ≠ b → (TX0 a).2.1 ≠ (TX0 b).2.1 := by decide +kernel
theorem tyX0_ok : ∀ k, k < 5 → parseFieldDescriptor (TX0 k).2.2.1 = some (tyX0 k) := by decide +kernel
abbrev cX0_init : ByteArray := prog_2_method_1_code
def yX0_init : MethodName := ⟨RX0, "<init>", "(LTeamRooms$Venue;)V"⟩
abbrev cX0_newRoom : ByteArray := prog_2_method_2_code
def yX0_newRoom : MethodName := ⟨RX0, "newRoom", "(IIII)I"⟩
abbrev cX0_changePrice : ByteArray := prog_2_method_3_code
def yX0_changePrice : MethodName := ⟨RX0, "changePrice", "(II)I"⟩
abbrev cX0_changeSetting : ByteArray := prog_2_method_4_code
def yX0_changeSetting : MethodName := ⟨RX0, "changeSetting", "(II)I"⟩
abbrev cX0_newVoucher : ByteArray := prog_2_method_5_code
def yX0_newVoucher : MethodName := ⟨RX0, "newVoucher", "(I)I"⟩
abbrev cX0_newBooking : ByteArray := prog_2_method_6_code
def yX0_newBooking : MethodName := ⟨RX0, "newBooking", "(IIII)I"⟩
abbrev cX0_payCharge : ByteArray := prog_2_method_7_code
def yX0_payCharge : MethodName := ⟨RX0, "payCharge", "(III)V"⟩
abbrev cX0_changeTime : ByteArray := prog_2_method_8_code
def yX0_changeTime : MethodName := ⟨RX0, "changeTime", "(II)I"⟩
abbrev cX0_callOff : ByteArray := prog_2_method_9_code
def yX0_callOff : MethodName := ⟨RX0, "callOff", "(I)I"⟩
abbrev cX0_refund : ByteArray := prog_2_method_10_code
def yX0_refund : MethodName := ⟨RX0, "refund", "(II)V"⟩
abbrev cX0_refundPayment : ByteArray := prog_2_method_11_code
def yX0_refundPayment : MethodName := ⟨RX0, "refundPayment", "(II)I"⟩
abbrev cX0_joinTeams : ByteArray := prog_2_method_12_code
def yX0_joinTeams : MethodName := ⟨RX0, "joinTeams", "(II)I"⟩
abbrev cX0_handOver : ByteArray := prog_2_method_13_code
def yX0_handOver : MethodName := ⟨RX0, "handOver", "(III)V"⟩
abbrev cX0_handOverPayments : ByteArray := prog_2_method_14_code
def yX0_handOverPayments : MethodName := ⟨RX0, "handOverPayments", "(II)V"⟩
abbrev cX0_letPlay : ByteArray := prog_2_method_15_code
def yX0_letPlay : MethodName := ⟨RX0, "letPlay", "(IIII)I"⟩
abbrev cX0_occupy : ByteArray := prog_2_method_16_code
def yX0_occupy : MethodName := ⟨RX0, "occupy", "(III)I"⟩
def RX1 : String := "TeamRooms$History"
def TX1 : u_T := fun k => match k with
  | 0 => ("TeamRooms$History", "states", "[LTeamRooms$State;", true)
  | _ => ("TeamRooms$History", "recorded", "I", false)
def tyX1 : Nat → FieldType := fun k => match k with
  | 0 => .array (.object "TeamRooms$State")
  | _ => .int
theorem nmX1 : ∀ a, a < 2 → ∀ b, b < 2 → a ≠ b → (TX1 a).2.1 ≠ (TX1 b).2.1 := by decide +kernel
theorem tyX1_ok : ∀ k, k < 2 → parseFieldDescriptor (TX1 k).2.2.1 = some (tyX1 k) := by decide +kernel
abbrev cX1_init : ByteArray := prog_3_method_1_code
def yX1_init : MethodName := ⟨RX1, "<init>", "()V"⟩
abbrev cX1_size : ByteArray := prog_3_method_2_code
def yX1_size : MethodName := ⟨RX1, "size", "()I"⟩
abbrev cX1_prepare : ByteArray := prog_3_method_3_code
def yX1_prepare : MethodName := ⟨RX1, "prepare", "(LTeamRooms$State;)V"⟩
abbrev cX1_settle : ByteArray := prog_3_method_5_code
def yX1_settle : MethodName := ⟨RX1, "settle", "(I)I"⟩
abbrev cX1_record : ByteArray := prog_3_method_7_code
def yX1_record : MethodName := ⟨RX1, "record", "()V"⟩
abbrev cX1_stateAt : ByteArray := prog_3_method_8_code
def yX1_stateAt : MethodName := ⟨RX1, "stateAt", "(I)LTeamRooms$State;"⟩
def RX2 : String := "TeamRooms$Outlook"
def TX2 : u_T := fun k => match k with
  | 0 => ("TeamRooms$Outlook", "venue", "LTeamRooms$Venue;", true)
  | 1 => ("TeamRooms$Outlook", "rooms", "LTeamRooms$Table;", true)
  | _ => ("TeamRooms$Outlook", "bookings", "LTeamRooms$Table;", true)
def tyX2 : Nat → FieldType := fun k => match k with
  | 0 => .object "TeamRooms$Venue"
  | 1 => .object "TeamRooms$Table"
  | _ => .object "TeamRooms$Table"
theorem nmX2 : ∀ a, a < 3 → ∀ b, b < 3 → a ≠ b → (TX2 a).2.1 ≠ (TX2 b).2.1 := by decide +kernel
theorem tyX2_ok : ∀ k, k < 3 → parseFieldDescriptor (TX2 k).2.2.1 = some (tyX2 k) := by decide +kernel
abbrev cX2_init : ByteArray := prog_4_method_1_code
def yX2_init : MethodName := ⟨RX2, "<init>", "(LTeamRooms$Venue;)V"⟩
def RX3 : String := "TeamRooms$Program"
def TX3 : u_T := fun k => match k with
  | 0 => ("TeamRooms$Program", "text", "[I", true)
  | 1 => ("TeamRooms$Program", "numbers", "[I", true)
  | 2 => ("TeamRooms$Program", "length", "I", false)
  | 3 => ("TeamRooms$Program", "kind", "I", false)
  | 4 => ("TeamRooms$Program", "start", "I", false)
  | _ => ("TeamRooms$Program", "end", "I", false)
def tyX3 : Nat → FieldType := fun k => match k with
  | 0 => .array .int
  | 1 => .array .int
  | 2 => .int
  | 3 => .int
  | 4 => .int
  | _ => .int
theorem nmX3 : ∀ a, a < 6 → ∀ b, b < 6 → a ≠ b → (TX3 a).2.1 ≠ (TX3 b).2.1 := by decide +kernel
theorem tyX3_ok : ∀ k, k < 6 → parseFieldDescriptor (TX3 k).2.2.1 = some (tyX3 k) := by decide +kernel
abbrev cX3_init : ByteArray := prog_5_method_1_code
def yX3_init : MethodName := ⟨RX3, "<init>", "()V"⟩
abbrev cX3_size : ByteArray := prog_5_method_2_code
def yX3_size : MethodName := ⟨RX3, "size", "()I"⟩
def RX4 : String := "TeamRooms$Slot"
def TX4 : u_T := fun k => match k with
  | 0 => ("TeamRooms$Slot", "kept", "LTeamRooms$Venue;", true)
  | _ => ("TeamRooms$Slot", "taken", "Z", false)
def tyX4 : Nat → FieldType := fun k => match k with
  | 0 => .object "TeamRooms$Venue"
  | _ => .boolean
theorem nmX4 : ∀ a, a < 2 → ∀ b, b < 2 → a ≠ b → (TX4 a).2.1 ≠ (TX4 b).2.1 := by decide +kernel
theorem tyX4_ok : ∀ k, k < 2 → parseFieldDescriptor (TX4 k).2.2.1 = some (tyX4 k) := by decide +kernel
abbrev cX4_init : ByteArray := prog_6_method_1_code
def yX4_init : MethodName := ⟨RX4, "<init>", "()V"⟩
abbrev cX4_copyFrom : ByteArray := prog_6_method_3_code
def yX4_copyFrom : MethodName := ⟨RX4, "copyFrom", "(LTeamRooms$Slot;)V"⟩
def RX5 : String := "TeamRooms$State"
def TX5 : u_T := fun k => match k with
  | 0 => ("TeamRooms$State", "venue", "LTeamRooms$Venue;", true)
  | 1 => ("TeamRooms$State", "first", "LTeamRooms$Slot;", true)
  | _ => ("TeamRooms$State", "second", "LTeamRooms$Slot;", true)
def tyX5 : Nat → FieldType := fun k => match k with
  | 0 => .object "TeamRooms$Venue"
  | 1 => .object "TeamRooms$Slot"
  | _ => .object "TeamRooms$Slot"
theorem nmX5 : ∀ a, a < 3 → ∀ b, b < 3 → a ≠ b → (TX5 a).2.1 ≠ (TX5 b).2.1 := by decide +kernel
theorem tyX5_ok : ∀ k, k < 3 → parseFieldDescriptor (TX5 k).2.2.1 = some (tyX5 k) := by decide +kernel
abbrev cX5_init : ByteArray := prog_7_method_1_code
def yX5_init : MethodName := ⟨RX5, "<init>", "()V"⟩
abbrev cX5_snapshots : ByteArray := prog_7_method_3_code
def yX5_snapshots : MethodName := ⟨RX5, "snapshots", "()I"⟩
abbrev cX5_copyFrom : ByteArray := prog_7_method_4_code
def yX5_copyFrom : MethodName := ⟨RX5, "copyFrom", "(LTeamRooms$State;)V"⟩
def RX6 : String := "TeamRooms$Table"
def TX6 : u_T := fun k => match k with
  | 0 => ("TeamRooms$Table", "cells", "[I", true)
  | 1 => ("TeamRooms$Table", "capacity", "I", true)
  | 2 => ("TeamRooms$Table", "width", "I", true)
  | _ => ("TeamRooms$Table", "used", "I", false)
def tyX6 : Nat → FieldType := fun k => match k with
  | 0 => .array .int
  | 1 => .int
  | 2 => .int
  | _ => .int
theorem nmX6 : ∀ a, a < 4 → ∀ b, b < 4 → a ≠ b → (TX6 a).2.1 ≠ (TX6 b).2.1 := by decide +kernel
theorem tyX6_ok : ∀ k, k < 4 → parseFieldDescriptor (TX6 k).2.2.1 = some (tyX6 k) := by decide +kernel
abbrev cX6_init : ByteArray := prog_8_method_1_code
def yX6_init : MethodName := ⟨RX6, "<init>", "(II)V"⟩
abbrev cX6_size : ByteArray := prog_8_method_2_code
def yX6_size : MethodName := ⟨RX6, "size", "()I"⟩
abbrev cX6_has : ByteArray := prog_8_method_3_code
def yX6_has : MethodName := ⟨RX6, "has", "(I)Z"⟩
abbrev cX6_isFull : ByteArray := prog_8_method_4_code
def yX6_isFull : MethodName := ⟨RX6, "isFull", "()Z"⟩
abbrev cX6_addRow : ByteArray := prog_8_method_5_code
def yX6_addRow : MethodName := ⟨RX6, "addRow", "()I"⟩
abbrev cX6_cell : ByteArray := prog_8_method_6_code
def yX6_cell : MethodName := ⟨RX6, "cell", "(II)I"⟩
abbrev cX6_put : ByteArray := prog_8_method_7_code
def yX6_put : MethodName := ⟨RX6, "put", "(III)V"⟩
abbrev cX6_raise : ByteArray := prog_8_method_8_code
def yX6_raise : MethodName := ⟨RX6, "raise", "(III)V"⟩
abbrev cX6_total : ByteArray := prog_8_method_9_code
def yX6_total : MethodName := ⟨RX6, "total", "(I)I"⟩
abbrev cX6_copyFrom : ByteArray := prog_8_method_10_code
def yX6_copyFrom : MethodName := ⟨RX6, "copyFrom", "(LTeamRooms$Table;)V"⟩
def RX7 : String := "TeamRooms$Venue"
def TX7 : u_T := fun k => match k with
  | 0 => ("TeamRooms$Venue", "rooms", "LTeamRooms$Table;", true)
  | 1 => ("TeamRooms$Venue", "bookings", "LTeamRooms$Table;", true)
  | 2 => ("TeamRooms$Venue", "vouchers", "LTeamRooms$Table;", true)
  | 3 => ("TeamRooms$Venue", "payments", "LTeamRooms$Table;", true)
  | 4 => ("TeamRooms$Venue", "settings", "LTeamRooms$Table;", true)
  | _ => ("TeamRooms$Venue", "till", "I", false)
def tyX7 : Nat → FieldType := fun k => match k with
  | 0 => .object "TeamRooms$Table"
  | 1 => .object "TeamRooms$Table"
  | 2 => .object "TeamRooms$Table"
  | 3 => .object "TeamRooms$Table"
  | 4 => .object "TeamRooms$Table"
  | _ => .int
theorem nmX7 : ∀ a, a < 6 → ∀ b, b < 6 → a ≠ b → (TX7 a).2.1 ≠ (TX7 b).2.1 := by decide +kernel
theorem tyX7_ok : ∀ k, k < 6 → parseFieldDescriptor (TX7 k).2.2.1 = some (tyX7 k) := by decide +kernel
abbrev cX7_init : ByteArray := prog_9_method_1_code
def yX7_init : MethodName := ⟨RX7, "<init>", "()V"⟩
abbrev cX7_copyFrom : ByteArray := prog_9_method_2_code
def yX7_copyFrom : MethodName := ⟨RX7, "copyFrom", "(LTeamRooms$Venue;)V"⟩
abbrev cX7_setting : ByteArray := prog_9_method_3_code
def yX7_setting : MethodName := ⟨RX7, "setting", "(I)I"⟩
abbrev cX7_isBooked : ByteArray := prog_9_method_4_code
def yX7_isBooked : MethodName := ⟨RX7, "isBooked", "(I)Z"⟩
abbrev cX7_bookingsInState : ByteArray := prog_9_method_5_code
def yX7_bookingsInState : MethodName := ⟨RX7, "bookingsInState", "(I)I"⟩
abbrev cX7_period : ByteArray := prog_9_method_6_code
def yX7_period : MethodName := ⟨RX7, "period", "(I)I"⟩
abbrev cX7_timeBehindPlays : ByteArray := prog_9_method_7_code
def yX7_timeBehindPlays : MethodName := ⟨RX7, "timeBehindPlays", "(I)I"⟩
abbrev cX7_collision : ByteArray := prog_9_method_8_code
def yX7_collision : MethodName := ⟨RX7, "collision", "(III)I"⟩
abbrev cX7_isPossible : ByteArray := prog_9_method_9_code
def yX7_isPossible : MethodName := ⟨RX7, "isPossible", "(III)Z"⟩
abbrev cX7_nextBooked : ByteArray := prog_9_method_10_code
def yX7_nextBooked : MethodName := ⟨RX7, "nextBooked", "(II)I"⟩
abbrev cX7_forecastStart : ByteArray := prog_9_method_11_code
def yX7_forecastStart : MethodName := ⟨RX7, "forecastStart", "(I)I"⟩
abbrev cX7_refundForDelay : ByteArray := prog_9_method_12_code
def yX7_refundForDelay : MethodName := ⟨RX7, "refundForDelay", "(II)I"⟩
abbrev cX7_paidByVouchers : ByteArray := prog_9_method_13_code
def yX7_paidByVouchers : MethodName := ⟨RX7, "paidByVouchers", "(I)I"⟩
abbrev cX7_paymentsLeft : ByteArray := prog_9_method_14_code
def yX7_paymentsLeft : MethodName := ⟨RX7, "paymentsLeft", "(I)I"⟩
abbrev cX7_bookingsPaidWith : ByteArray := prog_9_method_15_code
def yX7_bookingsPaidWith : MethodName := ⟨RX7, "bookingsPaidWith", "(I)I"⟩
abbrev cX7_isPaidWith : ByteArray := prog_9_method_16_code
def yX7_isPaidWith : MethodName := ⟨RX7, "isPaidWith", "(II)Z"⟩
abbrev cX7_paymentAt : ByteArray := prog_9_method_17_code
def yX7_paymentAt : MethodName := ⟨RX7, "paymentAt", "(II)I"⟩
def RX8 : String := "TeamRooms"
def TX8 : u_T := fun k => match k with
  | 0 => ("TeamRooms", "now", "LTeamRooms$State;", true)
  | 1 => ("TeamRooms", "venue", "LTeamRooms$Venue;", true)
  | 2 => ("TeamRooms", "desk", "LTeamRooms$Desk;", true)
  | 3 => ("TeamRooms", "outlook", "LTeamRooms$Outlook;", true)
  | 4 => ("TeamRooms", "history", "LTeamRooms$History;", true)
  | _ => ("TeamRooms", "program", "LTeamRooms$Program;", true)
def tyX8 : Nat → FieldType := fun k => match k with
  | 0 => .object "TeamRooms$State"
  | 1 => .object "TeamRooms$Venue"
  | 2 => .object "TeamRooms$Desk"
  | 3 => .object "TeamRooms$Outlook"
  | 4 => .object "TeamRooms$History"
  | _ => .object "TeamRooms$Program"
theorem nmX8 : ∀ a, a < 6 → ∀ b, b < 6 → a ≠ b → (TX8 a).2.1 ≠ (TX8 b).2.1 := by decide +kernel
theorem tyX8_ok : ∀ k, k < 6 → parseFieldDescriptor (TX8 k).2.2.1 = some (tyX8 k) := by decide +kernel
abbrev cX8_init : ByteArray := prog_1_method_1_code
def yX8_init : MethodName := ⟨RX8, "<init>", "()V"⟩
abbrev cX8_addRoom : ByteArray := prog_1_method_2_code
def yX8_addRoom : MethodName := ⟨RX8, "addRoom", "(IIII)I"⟩
abbrev cX8_setPrice : ByteArray := prog_1_method_3_code
def yX8_setPrice : MethodName := ⟨RX8, "setPrice", "(II)I"⟩
abbrev cX8_set : ByteArray := prog_1_method_4_code
def yX8_set : MethodName := ⟨RX8, "set", "(II)I"⟩
abbrev cX8_sellVoucher : ByteArray := prog_1_method_5_code
def yX8_sellVoucher : MethodName := ⟨RX8, "sellVoucher", "(I)I"⟩
abbrev cX8_book : ByteArray := prog_1_method_6_code
def yX8_book : MethodName := ⟨RX8, "book", "(IIII)I"⟩
abbrev cX8_move : ByteArray := prog_1_method_7_code
def yX8_move : MethodName := ⟨RX8, "move", "(II)I"⟩
abbrev cX8_cancel : ByteArray := prog_1_method_8_code
def yX8_cancel : MethodName := ⟨RX8, "cancel", "(I)I"⟩
abbrev cX8_merge : ByteArray := prog_1_method_9_code
def yX8_merge : MethodName := ⟨RX8, "merge", "(II)I"⟩
abbrev cX8_play : ByteArray := prog_1_method_10_code
def yX8_play : MethodName := ⟨RX8, "play", "(IIII)I"⟩
abbrev cX8_count : ByteArray := prog_1_method_17_code
def yX8_count : MethodName := ⟨RX8, "count", "(I)I"⟩
abbrev cX8_room : ByteArray := prog_1_method_18_code
def yX8_room : MethodName := ⟨RX8, "room", "(II)I"⟩
abbrev cX8_booking : ByteArray := prog_1_method_19_code
def yX8_booking : MethodName := ⟨RX8, "booking", "(II)I"⟩
abbrev cX8_voucher : ByteArray := prog_1_method_20_code
def yX8_voucher : MethodName := ⟨RX8, "voucher", "(II)I"⟩
abbrev cX8_money : ByteArray := prog_1_method_21_code
def yX8_money : MethodName := ⟨RX8, "money", "(I)I"⟩
abbrev cX8_inRange : ByteArray := prog_1_method_28_code
def yX8_inRange : MethodName := ⟨RX8, "inRange", "(III)Z"⟩
def RX9 : String := "TeamRoomsModel"
def TX9 : u_T := fun k => match k with
  | _ => ("", "", "", false)
def tyX9 : Nat → FieldType := fun k => match k with
  | _ => .int
theorem nmX9 : ∀ a, a < 0 → ∀ b, b < 0 → a ≠ b → (TX9 a).2.1 ≠ (TX9 b).2.1 := by decide +kernel
theorem tyX9_ok : ∀ k, k < 0 → parseFieldDescriptor (TX9 k).2.2.1 = some (tyX9 k) := by decide +kernel
def RJ9 : String := "java/lang/Math"
def TJ9 : u_T := fun k => match k with
  | _ => ("", "", "", false)
def tyJ9 : Nat → FieldType := fun k => match k with
  | _ => .int
theorem nmJ9 : ∀ a, a < 0 → ∀ b, b < 0 → a ≠ b → (TJ9 a).2.1 ≠ (TJ9 b).2.1 := by decide +kernel
theorem tyJ9_ok : ∀ k, k < 0 → parseFieldDescriptor (TJ9 k).2.2.1 = some (tyJ9 k) := by decide +kernel
abbrev cJ9_abs_0f7a4 : ByteArray := prog_12_method_59_code
def yJ9_abs_0f7a4 : MethodName := ⟨RJ9, "abs", "(I)I"⟩
abbrev cJ9_max_7cf53 : ByteArray := prog_12_method_65_code
def yJ9_max_7cf53 : MethodName := ⟨RJ9, "max", "(II)I"⟩
abbrev cJ9_min_7cf53 : ByteArray := prog_12_method_69_code
def yJ9_min_7cf53 : MethodName := ⟨RJ9, "min", "(II)I"⟩
def RJ10 : String := "java/lang/System"
def TJ10 : u_T := fun k => match k with
  | _ => ("", "", "", false)
def tyJ10 : Nat → FieldType := fun k => match k with
  | _ => .int
theorem nmJ10 : ∀ a, a < 0 → ∀ b, b < 0 → a ≠ b → (TJ10 a).2.1 ≠ (TJ10 b).2.1 := by decide +kernel
theorem tyJ10_ok : ∀ k, k < 0 → parseFieldDescriptor (TJ10 k).2.2.1 = some (tyJ10 k) := by decide +kernel
def RL : String := "TeamRoomsLaw"
abbrev cL_cell : ByteArray := method_2_code
def yL_cell : MethodName := ⟨RL, "cell", "([II)I"⟩
abbrev cL_low : ByteArray := method_3_code
def yL_low : MethodName := ⟨RL, "low", "(II)I"⟩
abbrev cL_may : ByteArray := method_4_code
def yL_may : MethodName := ⟨RL, "may", "([I[I[IIII)Z"⟩
abbrev cL_next : ByteArray := method_5_code
def yL_next : MethodName := ⟨RL, "next", "([I[III)I"⟩
abbrev cL_late : ByteArray := method_6_code
def yL_late : MethodName := ⟨RL, "late", "([I[I[III)I"⟩
abbrev cL_share : ByteArray := method_7_code
def yL_share : MethodName := ⟨RL, "share", "([III)I"⟩
abbrev cL_paid : ByteArray := method_8_code
def yL_paid : MethodName := ⟨RL, "paid", "([I[I[II)I"⟩
abbrev cL_refunds : ByteArray := method_9_code
def yL_refunds : MethodName := ⟨RL, "refunds", "([I[I[I[III)V"⟩
abbrev cL_acts : ByteArray := method_10_code
def yL_acts : MethodName := ⟨RL, "acts", "(LTeamRooms;[I[I[I[I[I[II)Z"⟩
abbrev cL_isSo : ByteArray := method_11_code
def yL_isSo : MethodName := ⟨RL, "isSo", "(LTeamRooms;[I[I[I[I[I[I)Z"⟩
abbrev cL_law : ByteArray := code
def yL_law : MethodName := ⟨RL, "law", "([I)Z"⟩
abbrev vwCl : List vw_C := [(RX0, TX0, 5), (RX1, TX1, 2), (RX2, TX2, 3), (RX3, TX3, 6), (RX4, TX4, 2), (RX5, TX5, 3), (RX6, TX6, 4), (RX7, TX7, 6), (RX8, TX8, 6)]
def BIG : List Cond := lw_tbl.filter goodWord
theorem big_good : ∀ w ∈ BIG, goodWord w = true := fun w h => (List.mem_filter.mp h).2
theorem big_in : ∀ w ∈ BIG, w ∈ lw_tbl := fun w h => (List.mem_filter.mp h).1
theorem bg1 (i : Nat) {w : Cond} (e : tables_1_1[i]? = some w) (hg : goodWord w = true) : w ∈ BIG := by
  have h := List.mem_of_getElem? e
  exact List.mem_filter.mpr ⟨List.mem_append_right _ (List.mem_append_left _ h), hg⟩
theorem bg2 (i : Nat) {w : Cond} (e : tables_1_2[i]? = some w) (hg : goodWord w = true) : w ∈ BIG := by
  have h := List.mem_of_getElem? e
  exact List.mem_filter.mpr ⟨List.mem_append_right _ (List.mem_append_right _ (List.mem_append_left _ h)), hg⟩
theorem bg3 (i : Nat) {w : Cond} (e : tables_1_3[i]? = some w) (hg : goodWord w = true) : w ∈ BIG := by
  have h := List.mem_of_getElem? e
  exact List.mem_filter.mpr ⟨List.mem_append_right _ (List.mem_append_right _ (List.mem_append_right _ (h))), hg⟩
theorem bgs (i : Nat) {q : MethodName × Nat} (e : lw_privs[i]? = some q) (hg : goodWord (Cond.selects q.1.cls q.1 q.1) = true) : Cond.selects q.1.cls q.1 q.1 ∈ BIG := List.mem_filter.mpr ⟨List.mem_append_left _ (List.mem_map.mpr ⟨q, List.mem_of_getElem? e, rfl⟩), hg⟩
end
section
theorem bw1_0 : (Cond.initialized RL) ∈ BIG := bg1 0 rfl rfl
theorem bw1_1 : (Cond.initialized RX8) ∈ BIG := bg1 1 rfl rfl
theorem bw1_2 : (Cond.initialized RX5) ∈ BIG := bg1 2 rfl rfl
theorem bw1_3 : (Cond.initialized RX7) ∈ BIG := bg1 3 rfl rfl
theorem bw1_4 : (Cond.initialized RX6) ∈ BIG := bg1 4 rfl rfl
theorem bw1_5 : (Cond.initialized RJ9) ∈ BIG := bg1 5 rfl rfl
theorem bw1_6 : (Cond.initialized RX4) ∈ BIG := bg1 6 rfl rfl
theorem bw1_7 : (Cond.initialized RX0) ∈ BIG := bg1 7 rfl rfl
theorem bw1_8 : (Cond.initialized RX2) ∈ BIG := bg1 8 rfl rfl
theorem bw1_9 : (Cond.initialized RX1) ∈ BIG := bg1 9 rfl rfl
theorem bw1_10 : (Cond.initialized RX3) ∈ BIG := bg1 10 rfl rfl
theorem bw1_11 : (Cond.initialized RJ10) ∈ BIG := bg1 11 rfl rfl
theorem bw1_12 : (Cond.classLink RL 21 RX8) ∈ BIG := bg1 12 rfl rfl
theorem bw1_13 : (Cond.instantiable RX8 6) ∈ BIG := bg1 13 rfl rfl
theorem bw1_14 : (Cond.methodLink RL 86 yX8_init) ∈ BIG := bg1 14 rfl rfl
theorem bw1_15 : (Cond.instanceMethod yX8_init) ∈ BIG := bg1 15 rfl rfl
theorem bw1_16 : (Cond.code yX8_init cX8_init 1 none) ∈ BIG := bg1 16 rfl rfl
theorem bw1_17 : (Cond.methodLink RX8 1 objectInit) ∈ BIG := bg1 17 rfl rfl
theorem bw1_18 : (Cond.instanceMethod objectInit) ∈ BIG := bg1 18 rfl rfl
theorem bw1_19 : (Cond.code objectInit object_method_1_code 1 (Option.none : Option Jvm.ClassFile.FieldType)) ∈ BIG := bg1 19 rfl rfl
theorem bw1_20 : (Cond.classLink RX8 7 RX5) ∈ BIG := bg1 20 rfl rfl
theorem bw1_21 : (Cond.instantiable RX5 3) ∈ BIG := bg1 21 rfl rfl
theorem bw1_22 : (Cond.methodLink RX8 9 yX5_init) ∈ BIG := bg1 22 rfl rfl
theorem bw1_23 : (Cond.instanceMethod yX5_init) ∈ BIG := bg1 23 rfl rfl
theorem bw1_24 : (Cond.code yX5_init cX5_init 1 none) ∈ BIG := bg1 24 rfl rfl
theorem bw1_25 : (Cond.methodLink RX5 1 objectInit) ∈ BIG := bg1 25 rfl rfl
theorem bw1_26 : (Cond.classLink RX5 7 RX7) ∈ BIG := bg1 26 rfl rfl
theorem bw1_27 : (Cond.instantiable RX7 6) ∈ BIG := bg1 27 rfl rfl
theorem bw1_28 : (Cond.methodLink RX5 9 yX7_init) ∈ BIG := bg1 28 rfl rfl
theorem bw1_29 : (Cond.instanceMethod yX7_init) ∈ BIG := bg1 29 rfl rfl
theorem bw1_30 : (Cond.code yX7_init cX7_init 2 none) ∈ BIG := bg1 30 rfl rfl
theorem bw1_31 : (Cond.methodLink RX7 3 objectInit) ∈ BIG := bg1 31 rfl rfl
theorem bw1_32 : (Cond.classLink RX7 9 RX6) ∈ BIG := bg1 32 rfl rfl
theorem bw1_33 : (Cond.instantiable RX6 4) ∈ BIG := bg1 33 rfl rfl
theorem bw1_34 : (Cond.methodLink RX7 11 yX6_init) ∈ BIG := bg1 34 rfl rfl
theorem bw1_35 : (Cond.instanceMethod yX6_init) ∈ BIG := bg1 35 rfl rfl
theorem bw1_36 : (Cond.code yX6_init cX6_init 4 none) ∈ BIG := bg1 36 rfl rfl
theorem bw1_37 : (Cond.methodLink RX6 3 objectInit) ∈ BIG := bg1 37 rfl rfl
theorem bw1_38 : (Cond.methodLink RX6 9 yJ9_max_7cf53) ∈ BIG := bg1 38 rfl rfl
theorem bw1_39 : (Cond.static yJ9_max_7cf53) ∈ BIG := bg1 39 rfl rfl
theorem bw1_40 : (Cond.code yJ9_max_7cf53 cJ9_max_7cf53 2 (some .int)) ∈ BIG := bg1 40 rfl rfl
theorem bw1_41 : (Cond.fieldLink RX6 24 "TeamRooms$Table" "cells" "[I") ∈ BIG := bg1 41 rfl rfl
theorem bw1_42 : (Cond.fieldLink RX6 15 "TeamRooms$Table" "capacity" "I") ∈ BIG := bg1 42 rfl rfl
theorem bw1_43 : (Cond.fieldLink RX6 21 "TeamRooms$Table" "width" "I") ∈ BIG := bg1 43 rfl rfl
theorem bw1_44 : (Cond.fieldLink RX6 28 "TeamRooms$Table" "used" "I") ∈ BIG := bg1 44 rfl rfl
theorem bw1_45 : (Cond.laysFinal RX6 "TeamRooms$Table" "cells" "[I") ∈ BIG := bg1 45 rfl rfl
theorem bw1_47 : (Cond.laysFinal RX6 "TeamRooms$Table" "capacity" "I") ∈ BIG := bg1 47 rfl rfl
theorem bw1_49 : (Cond.laysFinal RX6 "TeamRooms$Table" "width" "I") ∈ BIG := bg1 49 rfl rfl
theorem bw1_51 : (Cond.lays RX6 "TeamRooms$Table" "used" "I") ∈ BIG := bg1 51 rfl rfl
theorem bw1_54 : (Cond.arrayClass Jvm.ClassFile.FieldType.int) ∈ BIG := bg1 54 rfl rfl
theorem bw1_57 : (Cond.methodLink RX7 36 yX6_addRow) ∈ BIG := bg1 57 rfl rfl
theorem bw1_58 : (Cond.instanceMethod yX6_addRow) ∈ BIG := bg1 58 rfl rfl
theorem bw1_59 : (Cond.selects RX6 yX6_addRow yX6_addRow) ∈ BIG := bg1 59 rfl rfl
theorem bw1_60 : (Cond.code yX6_addRow cX6_addRow 3 (some .int)) ∈ BIG := bg1 60 rfl rfl
theorem bw1_61 : (Cond.methodLink RX6 31 yX6_isFull) ∈ BIG := bg1 61 rfl rfl
theorem bw1_62 : (Cond.instanceMethod yX6_isFull) ∈ BIG := bg1 62 rfl rfl
theorem bw1_63 : (Cond.selects RX6 yX6_isFull yX6_isFull) ∈ BIG := bg1 63 rfl rfl
theorem bw1_64 : (Cond.code yX6_isFull cX6_isFull 1 (some .boolean)) ∈ BIG := bg1 64 rfl rfl
theorem bw1_65 : (Cond.methodLink RX6 35 yX6_put) ∈ BIG := bg1 65 rfl rfl
theorem bw1_66 : (Cond.instanceMethod yX6_put) ∈ BIG := bg1 66 rfl rfl
theorem bw1_67 : (Cond.selects RX6 yX6_put yX6_put) ∈ BIG := bg1 67 rfl rfl
theorem bw1_68 : (Cond.code yX6_put cX6_put 6 none) ∈ BIG := bg1 68 rfl rfl
theorem bw1_69 : (Cond.methodLink RX7 40 yX6_put) ∈ BIG := bg1 69 rfl rfl
theorem bw1_70 : (Cond.fieldLink RX0 15 "TeamRooms$Venue" "rooms" "LTeamRooms$Table;") ∈ BIG := bg1 70 rfl rfl
theorem bw1_71 : (Cond.fieldLink RX2 15 "TeamRooms$Venue" "rooms" "LTeamRooms$Table;") ∈ BIG := bg1 71 rfl rfl
theorem bw1_72 : (Cond.fieldLink RX7 14 "TeamRooms$Venue" "rooms" "LTeamRooms$Table;") ∈ BIG := bg1 72 rfl rfl
theorem bw1_73 : (Cond.fieldLink RX8 141 "TeamRooms$Venue" "rooms" "LTeamRooms$Table;") ∈ BIG := bg1 73 rfl rfl
theorem bw1_74 : (Cond.fieldLink RX0 22 "TeamRooms$Venue" "bookings" "LTeamRooms$Table;") ∈ BIG := bg1 74 rfl rfl
theorem bw1_75 : (Cond.fieldLink RX2 22 "TeamRooms$Venue" "bookings" "LTeamRooms$Table;") ∈ BIG := bg1 75 rfl rfl
theorem bw1_76 : (Cond.fieldLink RX7 20 "TeamRooms$Venue" "bookings" "LTeamRooms$Table;") ∈ BIG := bg1 76 rfl rfl
theorem bw1_77 : (Cond.fieldLink RX8 150 "TeamRooms$Venue" "bookings" "LTeamRooms$Table;") ∈ BIG := bg1 77 rfl rfl
theorem bw1_78 : (Cond.fieldLink RX0 26 "TeamRooms$Venue" "vouchers" "LTeamRooms$Table;") ∈ BIG := bg1 78 rfl rfl
theorem bw1_79 : (Cond.fieldLink RX7 23 "TeamRooms$Venue" "vouchers" "LTeamRooms$Table;") ∈ BIG := bg1 79 rfl rfl
theorem bw1_80 : (Cond.fieldLink RX8 153 "TeamRooms$Venue" "vouchers" "LTeamRooms$Table;") ∈ BIG := bg1 80 rfl rfl
theorem bw1_81 : (Cond.fieldLink RX0 30 "TeamRooms$Venue" "payments" "LTeamRooms$Table;") ∈ BIG := bg1 81 rfl rfl
theorem bw1_82 : (Cond.fieldLink RX7 26 "TeamRooms$Venue" "payments" "LTeamRooms$Table;") ∈ BIG := bg1 82 rfl rfl
theorem bw1_83 : (Cond.fieldLink RX8 183 "TeamRooms$Venue" "payments" "LTeamRooms$Table;") ∈ BIG := bg1 83 rfl rfl
theorem bw1_84 : (Cond.fieldLink RX7 33 "TeamRooms$Venue" "settings" "LTeamRooms$Table;") ∈ BIG := bg1 84 rfl rfl
theorem bw1_85 : (Cond.fieldLink RX0 68 "TeamRooms$Venue" "settings" "LTeamRooms$Table;") ∈ BIG := bg1 85 rfl rfl
theorem bw1_86 : (Cond.fieldLink RX7 48 "TeamRooms$Venue" "till" "I") ∈ BIG := bg1 86 rfl rfl
theorem bw1_87 : (Cond.fieldLink RX0 71 "TeamRooms$Venue" "till" "I") ∈ BIG := bg1 87 rfl rfl
theorem bw1_88 : (Cond.fieldLink RX8 101 "TeamRooms$Venue" "till" "I") ∈ BIG := bg1 88 rfl rfl
theorem bw1_89 : (Cond.laysFinal RX7 "TeamRooms$Venue" "rooms" "LTeamRooms$Table;") ∈ BIG := bg1 89 rfl rfl
theorem bw1_91 : (Cond.laysFinal RX7 "TeamRooms$Venue" "bookings" "LTeamRooms$Table;") ∈ BIG := bg1 91 rfl rfl
theorem bw1_93 : (Cond.laysFinal RX7 "TeamRooms$Venue" "vouchers" "LTeamRooms$Table;") ∈ BIG := bg1 93 rfl rfl
theorem bw1_95 : (Cond.laysFinal RX7 "TeamRooms$Venue" "payments" "LTeamRooms$Table;") ∈ BIG := bg1 95 rfl rfl
theorem bw1_97 : (Cond.laysFinal RX7 "TeamRooms$Venue" "settings" "LTeamRooms$Table;") ∈ BIG := bg1 97 rfl rfl
theorem bw1_99 : (Cond.lays RX7 "TeamRooms$Venue" "till" "I") ∈ BIG := bg1 99 rfl rfl
theorem bw1_102 : (Cond.classLink RX5 16 RX4) ∈ BIG := bg1 102 rfl rfl
theorem bw1_103 : (Cond.instantiable RX4 2) ∈ BIG := bg1 103 rfl rfl
theorem bw1_104 : (Cond.methodLink RX5 18 yX4_init) ∈ BIG := bg1 104 rfl rfl
theorem bw1_105 : (Cond.instanceMethod yX4_init) ∈ BIG := bg1 105 rfl rfl
theorem bw1_106 : (Cond.code yX4_init cX4_init 1 none) ∈ BIG := bg1 106 rfl rfl
theorem bw1_107 : (Cond.methodLink RX4 1 objectInit) ∈ BIG := bg1 107 rfl rfl
theorem bw1_108 : (Cond.classLink RX4 7 RX7) ∈ BIG := bg1 108 rfl rfl
theorem bw1_109 : (Cond.methodLink RX4 9 yX7_init) ∈ BIG := bg1 109 rfl rfl
theorem bw1_110 : (Cond.fieldLink RX4 10 "TeamRooms$Slot" "kept" "LTeamRooms$Venue;") ∈ BIG := bg1 110 rfl rfl
theorem bw1_111 : (Cond.fieldLink RX4 20 "TeamRooms$Slot" "taken" "Z") ∈ BIG := bg1 111 rfl rfl
theorem bw1_112 : (Cond.fieldLink RX5 26 "TeamRooms$Slot" "taken" "Z") ∈ BIG := bg1 112 rfl rfl
theorem bw1_113 : (Cond.laysFinal RX4 "TeamRooms$Slot" "kept" "LTeamRooms$Venue;") ∈ BIG := bg1 113 rfl rfl
theorem bw1_115 : (Cond.lays RX4 "TeamRooms$Slot" "taken" "Z") ∈ BIG := bg1 115 rfl rfl
theorem bw1_118 : (Cond.fieldLink RX5 10 "TeamRooms$State" "venue" "LTeamRooms$Venue;") ∈ BIG := bg1 118 rfl rfl
theorem bw1_119 : (Cond.fieldLink RX8 16 "TeamRooms$State" "venue" "LTeamRooms$Venue;") ∈ BIG := bg1 119 rfl rfl
theorem bw1_120 : (Cond.fieldLink RX5 19 "TeamRooms$State" "first" "LTeamRooms$Slot;") ∈ BIG := bg1 120 rfl rfl
theorem bw1_121 : (Cond.fieldLink RX5 23 "TeamRooms$State" "second" "LTeamRooms$Slot;") ∈ BIG := bg1 121 rfl rfl
theorem bw1_122 : (Cond.laysFinal RX5 "TeamRooms$State" "venue" "LTeamRooms$Venue;") ∈ BIG := bg1 122 rfl rfl
theorem bw1_124 : (Cond.laysFinal RX5 "TeamRooms$State" "first" "LTeamRooms$Slot;") ∈ BIG := bg1 124 rfl rfl
theorem bw1_126 : (Cond.laysFinal RX5 "TeamRooms$State" "second" "LTeamRooms$Slot;") ∈ BIG := bg1 126 rfl rfl
theorem bw1_129 : (Cond.classLink RX8 21 RX0) ∈ BIG := bg1 129 rfl rfl
theorem bw1_130 : (Cond.instantiable RX0 5) ∈ BIG := bg1 130 rfl rfl
theorem bw1_131 : (Cond.methodLink RX8 23 yX0_init) ∈ BIG := bg1 131 rfl rfl
theorem bw1_132 : (Cond.instanceMethod yX0_init) ∈ BIG := bg1 132 rfl rfl
theorem bw1_133 : (Cond.code yX0_init cX0_init 2 none) ∈ BIG := bg1 133 rfl rfl
theorem bw1_134 : (Cond.methodLink RX0 3 objectInit) ∈ BIG := bg1 134 rfl rfl
theorem bw1_135 : (Cond.fieldLink RX0 9 "TeamRooms$Desk" "venue" "LTeamRooms$Venue;") ∈ BIG := bg1 135 rfl rfl
theorem bw1_136 : (Cond.fieldLink RX0 21 "TeamRooms$Desk" "rooms" "LTeamRooms$Table;") ∈ BIG := bg1 136 rfl rfl
theorem bw1_137 : (Cond.fieldLink RX0 25 "TeamRooms$Desk" "bookings" "LTeamRooms$Table;") ∈ BIG := bg1 137 rfl rfl
theorem bw1_138 : (Cond.fieldLink RX0 29 "TeamRooms$Desk" "vouchers" "LTeamRooms$Table;") ∈ BIG := bg1 138 rfl rfl
theorem bw1_139 : (Cond.fieldLink RX0 33 "TeamRooms$Desk" "payments" "LTeamRooms$Table;") ∈ BIG := bg1 139 rfl rfl
theorem bw1_140 : (Cond.laysFinal RX0 "TeamRooms$Desk" "venue" "LTeamRooms$Venue;") ∈ BIG := bg1 140 rfl rfl
theorem bw1_142 : (Cond.laysFinal RX0 "TeamRooms$Desk" "rooms" "LTeamRooms$Table;") ∈ BIG := bg1 142 rfl rfl
theorem bw1_144 : (Cond.laysFinal RX0 "TeamRooms$Desk" "bookings" "LTeamRooms$Table;") ∈ BIG := bg1 144 rfl rfl
theorem bw1_146 : (Cond.laysFinal RX0 "TeamRooms$Desk" "vouchers" "LTeamRooms$Table;") ∈ BIG := bg1 146 rfl rfl
theorem bw1_148 : (Cond.laysFinal RX0 "TeamRooms$Desk" "payments" "LTeamRooms$Table;") ∈ BIG := bg1 148 rfl rfl
theorem bw1_151 : (Cond.classLink RX8 30 RX2) ∈ BIG := bg1 151 rfl rfl
theorem bw1_152 : (Cond.instantiable RX2 3) ∈ BIG := bg1 152 rfl rfl
theorem bw1_153 : (Cond.methodLink RX8 32 yX2_init) ∈ BIG := bg1 153 rfl rfl
theorem bw1_154 : (Cond.instanceMethod yX2_init) ∈ BIG := bg1 154 rfl rfl
theorem bw1_155 : (Cond.code yX2_init cX2_init 2 none) ∈ BIG := bg1 155 rfl rfl
theorem bw1_156 : (Cond.methodLink RX2 3 objectInit) ∈ BIG := bg1 156 rfl rfl
theorem bw1_157 : (Cond.fieldLink RX2 9 "TeamRooms$Outlook" "venue" "LTeamRooms$Venue;") ∈ BIG := bg1 157 rfl rfl
theorem bw1_158 : (Cond.fieldLink RX2 21 "TeamRooms$Outlook" "rooms" "LTeamRooms$Table;") ∈ BIG := bg1 158 rfl rfl
theorem bw1_159 : (Cond.fieldLink RX2 25 "TeamRooms$Outlook" "bookings" "LTeamRooms$Table;") ∈ BIG := bg1 159 rfl rfl
theorem bw1_160 : (Cond.laysFinal RX2 "TeamRooms$Outlook" "venue" "LTeamRooms$Venue;") ∈ BIG := bg1 160 rfl rfl
theorem bw1_162 : (Cond.laysFinal RX2 "TeamRooms$Outlook" "rooms" "LTeamRooms$Table;") ∈ BIG := bg1 162 rfl rfl
theorem bw1_164 : (Cond.laysFinal RX2 "TeamRooms$Outlook" "bookings" "LTeamRooms$Table;") ∈ BIG := bg1 164 rfl rfl
theorem bw1_167 : (Cond.classLink RX8 37 RX1) ∈ BIG := bg1 167 rfl rfl
theorem bw1_168 : (Cond.instantiable RX1 2) ∈ BIG := bg1 168 rfl rfl
theorem bw1_169 : (Cond.methodLink RX8 39 yX1_init) ∈ BIG := bg1 169 rfl rfl
theorem bw1_170 : (Cond.instanceMethod yX1_init) ∈ BIG := bg1 170 rfl rfl
theorem bw1_171 : (Cond.code yX1_init cX1_init 2 none) ∈ BIG := bg1 171 rfl rfl
theorem bw1_172 : (Cond.methodLink RX1 3 objectInit) ∈ BIG := bg1 172 rfl rfl
theorem bw1_173 : (Cond.classLink RX1 9 RX5) ∈ BIG := bg1 173 rfl rfl
theorem bw1_175 : (Cond.methodLink RX1 17 yX5_init) ∈ BIG := bg1 175 rfl rfl
theorem bw1_176 : (Cond.fieldLink RX1 11 "TeamRooms$History" "states" "[LTeamRooms$State;") ∈ BIG := bg1 176 rfl rfl
theorem bw1_177 : (Cond.fieldLink RX1 18 "TeamRooms$History" "recorded" "I") ∈ BIG := bg1 177 rfl rfl
theorem bw1_178 : (Cond.laysFinal RX1 "TeamRooms$History" "states" "[LTeamRooms$State;") ∈ BIG := bg1 178 rfl rfl
theorem bw1_180 : (Cond.lays RX1 "TeamRooms$History" "recorded" "I") ∈ BIG := bg1 180 rfl rfl
theorem bw1_183 : (Cond.classLink RX8 44 RX3) ∈ BIG := bg1 183 rfl rfl
theorem bw1_184 : (Cond.instantiable RX3 6) ∈ BIG := bg1 184 rfl rfl
theorem bw1_185 : (Cond.methodLink RX8 46 yX3_init) ∈ BIG := bg1 185 rfl rfl
theorem bw1_186 : (Cond.instanceMethod yX3_init) ∈ BIG := bg1 186 rfl rfl
theorem bw1_187 : (Cond.code yX3_init cX3_init 1 none) ∈ BIG := bg1 187 rfl rfl
theorem bw1_188 : (Cond.methodLink RX3 3 objectInit) ∈ BIG := bg1 188 rfl rfl
theorem bw1_189 : (Cond.fieldLink RX3 9 "TeamRooms$Program" "text" "[I") ∈ BIG := bg1 189 rfl rfl
theorem bw1_190 : (Cond.fieldLink RX3 15 "TeamRooms$Program" "numbers" "[I") ∈ BIG := bg1 190 rfl rfl
theorem bw1_191 : (Cond.fieldLink RX3 18 "TeamRooms$Program" "length" "I") ∈ BIG := bg1 191 rfl rfl
theorem bw1_192 : (Cond.laysFinal RX3 "TeamRooms$Program" "text" "[I") ∈ BIG := bg1 192 rfl rfl
theorem bw1_194 : (Cond.laysFinal RX3 "TeamRooms$Program" "numbers" "[I") ∈ BIG := bg1 194 rfl rfl
theorem bw1_196 : (Cond.lays RX3 "TeamRooms$Program" "length" "I") ∈ BIG := bg1 196 rfl rfl
theorem bw1_198 : (Cond.lays RX3 "TeamRooms$Program" "kind" "I") ∈ BIG := bg1 198 rfl rfl
theorem bw1_200 : (Cond.lays RX3 "TeamRooms$Program" "start" "I") ∈ BIG := bg1 200 rfl rfl
theorem bw1_202 : (Cond.lays RX3 "TeamRooms$Program" "end" "I") ∈ BIG := bg1 202 rfl rfl
theorem bw1_205 : (Cond.fieldLink RX8 10 "TeamRooms" "now" "LTeamRooms$State;") ∈ BIG := bg1 205 rfl rfl
theorem bw1_206 : (Cond.fieldLink RX8 20 "TeamRooms" "venue" "LTeamRooms$Venue;") ∈ BIG := bg1 206 rfl rfl
theorem bw1_207 : (Cond.fieldLink RX8 26 "TeamRooms" "desk" "LTeamRooms$Desk;") ∈ BIG := bg1 207 rfl rfl
theorem bw1_208 : (Cond.fieldLink RX8 33 "TeamRooms" "outlook" "LTeamRooms$Outlook;") ∈ BIG := bg1 208 rfl rfl
theorem bw1_209 : (Cond.fieldLink RX8 40 "TeamRooms" "history" "LTeamRooms$History;") ∈ BIG := bg1 209 rfl rfl
theorem bw1_210 : (Cond.fieldLink RX8 47 "TeamRooms" "program" "LTeamRooms$Program;") ∈ BIG := bg1 210 rfl rfl
theorem bw1_211 : (Cond.laysFinal RX8 "TeamRooms" "now" "LTeamRooms$State;") ∈ BIG := bg1 211 rfl rfl
theorem bw1_213 : (Cond.laysFinal RX8 "TeamRooms" "venue" "LTeamRooms$Venue;") ∈ BIG := bg1 213 rfl rfl
theorem bw1_215 : (Cond.laysFinal RX8 "TeamRooms" "desk" "LTeamRooms$Desk;") ∈ BIG := bg1 215 rfl rfl
theorem bw1_217 : (Cond.laysFinal RX8 "TeamRooms" "outlook" "LTeamRooms$Outlook;") ∈ BIG := bg1 217 rfl rfl
theorem bw1_219 : (Cond.laysFinal RX8 "TeamRooms" "history" "LTeamRooms$History;") ∈ BIG := bg1 219 rfl rfl
theorem bw1_221 : (Cond.laysFinal RX8 "TeamRooms" "program" "LTeamRooms$Program;") ∈ BIG := bg1 221 rfl rfl
theorem bw1_224 : (Cond.methodLink RL 71 yX8_count) ∈ BIG := bg1 224 rfl rfl
theorem bw1_225 : (Cond.instanceMethod yX8_count) ∈ BIG := bg1 225 rfl rfl
theorem bw1_226 : (Cond.selects RX8 yX8_count yX8_count) ∈ BIG := bg1 226 rfl rfl
theorem bw1_227 : (Cond.code yX8_count cX8_count 2 (some .int)) ∈ BIG := bg1 227 rfl rfl
theorem bw1_228 : (Cond.methodLink RX8 88 yX8_inRange) ∈ BIG := bg1 228 rfl rfl
theorem bw1_229 : (Cond.static yX8_inRange) ∈ BIG := bg1 229 rfl rfl
theorem bw1_230 : (Cond.code yX8_inRange cX8_inRange 3 (some .boolean)) ∈ BIG := bg1 230 rfl rfl
theorem bw1_231 : (Cond.methodLink RX8 135 yX7_setting) ∈ BIG := bg1 231 rfl rfl
theorem bw1_232 : (Cond.instanceMethod yX7_setting) ∈ BIG := bg1 232 rfl rfl
theorem bw1_233 : (Cond.selects RX7 yX7_setting yX7_setting) ∈ BIG := bg1 233 rfl rfl
theorem bw1_234 : (Cond.code yX7_setting cX7_setting 2 (some .int)) ∈ BIG := bg1 234 rfl rfl
theorem bw1_235 : (Cond.methodLink RX7 52 yX6_cell) ∈ BIG := bg1 235 rfl rfl
theorem bw1_236 : (Cond.instanceMethod yX6_cell) ∈ BIG := bg1 236 rfl rfl
theorem bw1_237 : (Cond.selects RX6 yX6_cell yX6_cell) ∈ BIG := bg1 237 rfl rfl
theorem bw1_238 : (Cond.code yX6_cell cX6_cell 5 (some .int)) ∈ BIG := bg1 238 rfl rfl
theorem bw1_239 : (Cond.methodLink RX8 138 yX7_bookingsInState) ∈ BIG := bg1 239 rfl rfl
theorem bw2_0 : (Cond.instanceMethod yX7_bookingsInState) ∈ BIG := bg2 0 rfl rfl
theorem bw2_1 : (Cond.selects RX7 yX7_bookingsInState yX7_bookingsInState) ∈ BIG := bg2 1 rfl rfl
theorem bw2_2 : (Cond.code yX7_bookingsInState cX7_bookingsInState 4 (some .int)) ∈ BIG := bg2 2 rfl rfl
theorem bw2_3 : (Cond.methodLink RX7 60 yX6_size) ∈ BIG := bg2 3 rfl rfl
theorem bw2_4 : (Cond.instanceMethod yX6_size) ∈ BIG := bg2 4 rfl rfl
theorem bw2_5 : (Cond.selects RX6 yX6_size yX6_size) ∈ BIG := bg2 5 rfl rfl
theorem bw2_6 : (Cond.code yX6_size cX6_size 1 (some .int)) ∈ BIG := bg2 6 rfl rfl
theorem bw2_7 : (Cond.methodLink RX8 145 yX6_size) ∈ BIG := bg2 7 rfl rfl
theorem bw2_8 : (Cond.methodLink RX8 156 yX5_snapshots) ∈ BIG := bg2 8 rfl rfl
theorem bw2_9 : (Cond.instanceMethod yX5_snapshots) ∈ BIG := bg2 9 rfl rfl
theorem bw2_10 : (Cond.selects RX5 yX5_snapshots yX5_snapshots) ∈ BIG := bg2 10 rfl rfl
theorem bw2_11 : (Cond.code yX5_snapshots cX5_snapshots 1 (some .int)) ∈ BIG := bg2 11 rfl rfl
theorem bw2_12 : (Cond.methodLink RX8 159 yX1_size) ∈ BIG := bg2 12 rfl rfl
theorem bw2_13 : (Cond.instanceMethod yX1_size) ∈ BIG := bg2 13 rfl rfl
theorem bw2_14 : (Cond.selects RX1 yX1_size yX1_size) ∈ BIG := bg2 14 rfl rfl
theorem bw2_15 : (Cond.code yX1_size cX1_size 1 (some .int)) ∈ BIG := bg2 15 rfl rfl
theorem bw2_16 : (Cond.methodLink RX8 160 yX3_size) ∈ BIG := bg2 16 rfl rfl
theorem bw2_17 : (Cond.instanceMethod yX3_size) ∈ BIG := bg2 17 rfl rfl
theorem bw2_18 : (Cond.selects RX3 yX3_size yX3_size) ∈ BIG := bg2 18 rfl rfl
theorem bw2_19 : (Cond.code yX3_size cX3_size 1 (some .int)) ∈ BIG := bg2 19 rfl rfl
theorem bw2_20 : (Cond.methodLink RL 74 yX8_money) ∈ BIG := bg2 20 rfl rfl
theorem bw2_21 : (Cond.instanceMethod yX8_money) ∈ BIG := bg2 21 rfl rfl
theorem bw2_22 : (Cond.selects RX8 yX8_money yX8_money) ∈ BIG := bg2 22 rfl rfl
theorem bw2_23 : (Cond.code yX8_money cX8_money 2 (some .int)) ∈ BIG := bg2 23 rfl rfl
theorem bw2_24 : (Cond.methodLink RX8 180 yX6_total) ∈ BIG := bg2 24 rfl rfl
theorem bw2_25 : (Cond.instanceMethod yX6_total) ∈ BIG := bg2 25 rfl rfl
theorem bw2_26 : (Cond.selects RX6 yX6_total yX6_total) ∈ BIG := bg2 26 rfl rfl
theorem bw2_27 : (Cond.code yX6_total cX6_total 4 (some .int)) ∈ BIG := bg2 27 rfl rfl
theorem bw2_28 : (Cond.methodLink RX6 39 yX6_cell) ∈ BIG := bg2 28 rfl rfl
theorem bw2_29 : (Cond.methodLink RL 91 yL_cell) ∈ BIG := bg2 29 rfl rfl
theorem bw2_30 : (Cond.static yL_cell) ∈ BIG := bg2 30 rfl rfl
theorem bw2_31 : (Cond.code yL_cell cL_cell 2 (some .int)) ∈ BIG := bg2 31 rfl rfl
theorem bw2_32 : (Cond.constant RL 7 (40503)) ∈ BIG := bg2 32 rfl rfl
theorem bw2_33 : (Cond.methodLink RL 16 yL_low) ∈ BIG := bg2 33 rfl rfl
theorem bw2_34 : (Cond.static yL_low) ∈ BIG := bg2 34 rfl rfl
theorem bw2_35 : (Cond.code yL_low cL_low 2 (some .int)) ∈ BIG := bg2 35 rfl rfl
theorem bw2_36 : (Cond.constant RL 8 (2147483647)) ∈ BIG := bg2 36 rfl rfl
theorem bw2_37 : (Cond.methodLink RL 95 yL_acts) ∈ BIG := bg2 37 rfl rfl
theorem bw2_38 : (Cond.static yL_acts) ∈ BIG := bg2 38 rfl rfl
theorem bw2_39 : (Cond.code yL_acts cL_acts 21 (some .boolean)) ∈ BIG := bg2 39 rfl rfl
theorem bw2_40 : (Cond.constant RL 15 (10000000)) ∈ BIG := bg2 40 rfl rfl
theorem bw2_41 : (Cond.methodLink RL 20 yX8_addRoom) ∈ BIG := bg2 41 rfl rfl
theorem bw2_42 : (Cond.instanceMethod yX8_addRoom) ∈ BIG := bg2 42 rfl rfl
theorem bw2_43 : (Cond.selects RX8 yX8_addRoom yX8_addRoom) ∈ BIG := bg2 43 rfl rfl
theorem bw2_44 : (Cond.code yX8_addRoom cX8_addRoom 5 (some .int)) ∈ BIG := bg2 44 rfl rfl
theorem bw2_45 : (Cond.methodLink RX8 51 yX1_prepare) ∈ BIG := bg2 45 rfl rfl
theorem bw2_46 : (Cond.instanceMethod yX1_prepare) ∈ BIG := bg2 46 rfl rfl
theorem bw2_47 : (Cond.selects RX1 yX1_prepare yX1_prepare) ∈ BIG := bg2 47 rfl rfl
theorem bw2_48 : (Cond.code yX1_prepare cX1_prepare 3 none) ∈ BIG := bg2 48 rfl rfl
theorem bw2_49 : (Cond.methodLink RX1 22 yX1_stateAt) ∈ BIG := bg2 49 rfl rfl
theorem bw2_51 : (Cond.instanceMethod yX1_stateAt) ∈ BIG := bg2 51 rfl rfl
theorem bw2_52 : (Cond.code yX1_stateAt cX1_stateAt 2 (Option.some (Jvm.ClassFile.FieldType.object "TeamRooms$State"))) ∈ BIG := bg2 52 rfl rfl
theorem bw2_53 : (Cond.methodLink RX1 26 yX5_copyFrom) ∈ BIG := bg2 53 rfl rfl
theorem bw2_54 : (Cond.instanceMethod yX5_copyFrom) ∈ BIG := bg2 54 rfl rfl
theorem bw2_55 : (Cond.selects RX5 yX5_copyFrom yX5_copyFrom) ∈ BIG := bg2 55 rfl rfl
theorem bw2_56 : (Cond.code yX5_copyFrom cX5_copyFrom 2 none) ∈ BIG := bg2 56 rfl rfl
theorem bw2_57 : (Cond.methodLink RX5 30 yX7_copyFrom) ∈ BIG := bg2 57 rfl rfl
theorem bw2_58 : (Cond.instanceMethod yX7_copyFrom) ∈ BIG := bg2 58 rfl rfl
theorem bw2_59 : (Cond.selects RX7 yX7_copyFrom yX7_copyFrom) ∈ BIG := bg2 59 rfl rfl
theorem bw2_60 : (Cond.code yX7_copyFrom cX7_copyFrom 2 none) ∈ BIG := bg2 60 rfl rfl
theorem bw2_61 : (Cond.methodLink RX7 44 yX6_copyFrom) ∈ BIG := bg2 61 rfl rfl
theorem bw2_62 : (Cond.instanceMethod yX6_copyFrom) ∈ BIG := bg2 62 rfl rfl
theorem bw2_63 : (Cond.selects RX6 yX6_copyFrom yX6_copyFrom) ∈ BIG := bg2 63 rfl rfl
theorem bw2_64 : (Cond.code yX6_copyFrom cX6_copyFrom 3 none) ∈ BIG := bg2 64 rfl rfl
theorem bw2_65 : (Cond.methodLink RX6 42 yJ9_min_7cf53) ∈ BIG := bg2 65 rfl rfl
theorem bw2_66 : (Cond.static yJ9_min_7cf53) ∈ BIG := bg2 66 rfl rfl
theorem bw2_67 : (Cond.code yJ9_min_7cf53 cJ9_min_7cf53 2 (some .int)) ∈ BIG := bg2 67 rfl rfl
theorem bw2_68 : (Cond.methodLink RX6 45 ⟨"java/lang/System", "arraycopy", "(Ljava/lang/Object;ILjava/lang/Object;II)V"⟩) ∈ BIG := bg2 68 rfl rfl
theorem bw2_69 : (Cond.static ⟨"java/lang/System", "arraycopy", "(Ljava/lang/Object;ILjava/lang/Object;II)V"⟩) ∈ BIG := bg2 69 rfl rfl
theorem bw2_70 : (Cond.native ⟨"java/lang/System", "arraycopy", "(Ljava/lang/Object;ILjava/lang/Object;II)V"⟩) ∈ BIG := bg2 70 rfl rfl
theorem bw2_71 : (Cond.methodLink RX5 34 yX4_copyFrom) ∈ BIG := bg2 71 rfl rfl
theorem bw2_72 : (Cond.instanceMethod yX4_copyFrom) ∈ BIG := bg2 72 rfl rfl
theorem bw2_73 : (Cond.selects RX4 yX4_copyFrom yX4_copyFrom) ∈ BIG := bg2 73 rfl rfl
theorem bw2_74 : (Cond.code yX4_copyFrom cX4_copyFrom 2 none) ∈ BIG := bg2 74 rfl rfl
theorem bw2_75 : (Cond.methodLink RX4 16 yX7_copyFrom) ∈ BIG := bg2 75 rfl rfl
theorem bw2_76 : (Cond.methodLink RX8 55 yX0_newRoom) ∈ BIG := bg2 76 rfl rfl
theorem bw2_77 : (Cond.instanceMethod yX0_newRoom) ∈ BIG := bg2 77 rfl rfl
theorem bw2_78 : (Cond.selects RX0 yX0_newRoom yX0_newRoom) ∈ BIG := bg2 78 rfl rfl
theorem bw2_79 : (Cond.code yX0_newRoom cX0_newRoom 6 (some .int)) ∈ BIG := bg2 79 rfl rfl
theorem bw2_81 : (Cond.methodLink RX0 38 yX6_isFull) ∈ BIG := bg2 81 rfl rfl
theorem bw2_82 : (Cond.methodLink RX0 44 yX6_addRow) ∈ BIG := bg2 82 rfl rfl
theorem bw2_83 : (Cond.methodLink RX0 48 yX6_put) ∈ BIG := bg2 83 rfl rfl
theorem bw2_84 : (Cond.methodLink RX8 59 yX1_settle) ∈ BIG := bg2 84 rfl rfl
theorem bw2_85 : (Cond.instanceMethod yX1_settle) ∈ BIG := bg2 85 rfl rfl
theorem bw2_86 : (Cond.selects RX1 yX1_settle yX1_settle) ∈ BIG := bg2 86 rfl rfl
theorem bw2_87 : (Cond.code yX1_settle cX1_settle 2 (some .int)) ∈ BIG := bg2 87 rfl rfl
theorem bw2_88 : (Cond.methodLink RX1 30 yX1_record) ∈ BIG := bg2 88 rfl rfl
theorem bw2_90 : (Cond.instanceMethod yX1_record) ∈ BIG := bg2 90 rfl rfl
theorem bw2_91 : (Cond.code yX1_record cX1_record 3 none) ∈ BIG := bg2 91 rfl rfl
theorem bw2_92 : (Cond.methodLink RL 26 yX8_sellVoucher) ∈ BIG := bg2 92 rfl rfl
theorem bw2_93 : (Cond.instanceMethod yX8_sellVoucher) ∈ BIG := bg2 93 rfl rfl
theorem bw2_94 : (Cond.selects RX8 yX8_sellVoucher yX8_sellVoucher) ∈ BIG := bg2 94 rfl rfl
theorem bw2_95 : (Cond.code yX8_sellVoucher cX8_sellVoucher 2 (some .int)) ∈ BIG := bg2 95 rfl rfl
theorem bw2_96 : (Cond.methodLink RX8 70 yX0_newVoucher) ∈ BIG := bg2 96 rfl rfl
theorem bw2_97 : (Cond.instanceMethod yX0_newVoucher) ∈ BIG := bg2 97 rfl rfl
theorem bw2_98 : (Cond.selects RX0 yX0_newVoucher yX0_newVoucher) ∈ BIG := bg2 98 rfl rfl
theorem bw2_99 : (Cond.code yX0_newVoucher cX0_newVoucher 3 (some .int)) ∈ BIG := bg2 99 rfl rfl
theorem bw2_100 : (Cond.methodLink RL 30 yL_may) ∈ BIG := bg2 100 rfl rfl
theorem bw2_101 : (Cond.static yL_may) ∈ BIG := bg2 101 rfl rfl
theorem bw2_102 : (Cond.code yL_may cL_may 11 (some .boolean)) ∈ BIG := bg2 102 rfl rfl
theorem bw2_103 : (Cond.methodLink RL 34 yX8_book) ∈ BIG := bg2 103 rfl rfl
theorem bw2_104 : (Cond.instanceMethod yX8_book) ∈ BIG := bg2 104 rfl rfl
theorem bw2_105 : (Cond.selects RX8 yX8_book yX8_book) ∈ BIG := bg2 105 rfl rfl
theorem bw2_106 : (Cond.code yX8_book cX8_book 5 (some .int)) ∈ BIG := bg2 106 rfl rfl
theorem bw2_107 : (Cond.methodLink RX8 73 yX0_newBooking) ∈ BIG := bg2 107 rfl rfl
theorem bw2_108 : (Cond.instanceMethod yX0_newBooking) ∈ BIG := bg2 108 rfl rfl
theorem bw2_109 : (Cond.selects RX0 yX0_newBooking yX0_newBooking) ∈ BIG := bg2 109 rfl rfl
theorem bw2_110 : (Cond.code yX0_newBooking cX0_newBooking 6 (some .int)) ∈ BIG := bg2 110 rfl rfl
theorem bw2_111 : (Cond.methodLink RX0 52 yX6_has) ∈ BIG := bg2 111 rfl rfl
theorem bw2_112 : (Cond.instanceMethod yX6_has) ∈ BIG := bg2 112 rfl rfl
theorem bw2_113 : (Cond.selects RX6 yX6_has yX6_has) ∈ BIG := bg2 113 rfl rfl
theorem bw2_114 : (Cond.code yX6_has cX6_has 2 (some .boolean)) ∈ BIG := bg2 114 rfl rfl
theorem bw2_115 : (Cond.methodLink RX0 56 yX6_cell) ∈ BIG := bg2 115 rfl rfl
theorem bw2_116 : (Cond.methodLink RX0 75 yX7_isPossible) ∈ BIG := bg2 116 rfl rfl
theorem bw2_117 : (Cond.instanceMethod yX7_isPossible) ∈ BIG := bg2 117 rfl rfl
theorem bw2_118 : (Cond.selects RX7 yX7_isPossible yX7_isPossible) ∈ BIG := bg2 118 rfl rfl
theorem bw2_119 : (Cond.code yX7_isPossible cX7_isPossible 4 (some .boolean)) ∈ BIG := bg2 119 rfl rfl
theorem bw2_120 : (Cond.methodLink RX7 75 yX7_timeBehindPlays) ∈ BIG := bg2 120 rfl rfl
theorem bw2_121 : (Cond.instanceMethod yX7_timeBehindPlays) ∈ BIG := bg2 121 rfl rfl
theorem bw2_122 : (Cond.selects RX7 yX7_timeBehindPlays yX7_timeBehindPlays) ∈ BIG := bg2 122 rfl rfl
theorem bw2_123 : (Cond.code yX7_timeBehindPlays cX7_timeBehindPlays 4 (some .int)) ∈ BIG := bg2 123 rfl rfl
theorem bw2_124 : (Cond.methodLink RX7 63 yJ9_max_7cf53) ∈ BIG := bg2 124 rfl rfl
theorem bw2_125 : (Cond.methodLink RX7 78 yX7_collision) ∈ BIG := bg2 125 rfl rfl
theorem bw2_126 : (Cond.instanceMethod yX7_collision) ∈ BIG := bg2 126 rfl rfl
theorem bw2_127 : (Cond.selects RX7 yX7_collision yX7_collision) ∈ BIG := bg2 127 rfl rfl
theorem bw2_128 : (Cond.code yX7_collision cX7_collision 8 (some .int)) ∈ BIG := bg2 128 rfl rfl
theorem bw2_129 : (Cond.methodLink RX7 68 yX7_period) ∈ BIG := bg2 129 rfl rfl
theorem bw2_130 : (Cond.instanceMethod yX7_period) ∈ BIG := bg2 130 rfl rfl
theorem bw2_131 : (Cond.selects RX7 yX7_period yX7_period) ∈ BIG := bg2 131 rfl rfl
theorem bw2_132 : (Cond.code yX7_period cX7_period 2 (some .int)) ∈ BIG := bg2 132 rfl rfl
theorem bw2_133 : (Cond.methodLink RX7 72 yJ9_abs_0f7a4) ∈ BIG := bg2 133 rfl rfl
theorem bw2_134 : (Cond.static yJ9_abs_0f7a4) ∈ BIG := bg2 134 rfl rfl
theorem bw2_135 : (Cond.code yJ9_abs_0f7a4 cJ9_abs_0f7a4 1 (some .int)) ∈ BIG := bg2 135 rfl rfl
theorem bw2_136 : (Cond.methodLink RX0 78 yX0_payCharge) ∈ BIG := bg2 136 rfl rfl
theorem bw2_138 : (Cond.instanceMethod yX0_payCharge) ∈ BIG := bg2 138 rfl rfl
theorem bw2_139 : (Cond.code yX0_payCharge cX0_payCharge 6 none) ∈ BIG := bg2 139 rfl rfl
theorem bw2_140 : (Cond.methodLink RX0 81 yJ9_min_7cf53) ∈ BIG := bg2 140 rfl rfl
theorem bw2_141 : (Cond.methodLink RX0 86 yX6_raise) ∈ BIG := bg2 141 rfl rfl
theorem bw2_142 : (Cond.instanceMethod yX6_raise) ∈ BIG := bg2 142 rfl rfl
theorem bw2_143 : (Cond.selects RX6 yX6_raise yX6_raise) ∈ BIG := bg2 143 rfl rfl
theorem bw2_144 : (Cond.code yX6_raise cX6_raise 4 none) ∈ BIG := bg2 144 rfl rfl
theorem bw2_145 : (Cond.methodLink RL 37 yX8_setPrice) ∈ BIG := bg2 145 rfl rfl
theorem bw2_146 : (Cond.instanceMethod yX8_setPrice) ∈ BIG := bg2 146 rfl rfl
theorem bw2_147 : (Cond.selects RX8 yX8_setPrice yX8_setPrice) ∈ BIG := bg2 147 rfl rfl
theorem bw2_148 : (Cond.code yX8_setPrice cX8_setPrice 3 (some .int)) ∈ BIG := bg2 148 rfl rfl
theorem bw2_149 : (Cond.methodLink RX8 63 yX0_changePrice) ∈ BIG := bg2 149 rfl rfl
theorem bw2_150 : (Cond.instanceMethod yX0_changePrice) ∈ BIG := bg2 150 rfl rfl
theorem bw2_151 : (Cond.selects RX0 yX0_changePrice yX0_changePrice) ∈ BIG := bg2 151 rfl rfl
theorem bw2_152 : (Cond.code yX0_changePrice cX0_changePrice 4 (some .int)) ∈ BIG := bg2 152 rfl rfl
theorem bw2_153 : (Cond.methodLink RL 40 yX8_set) ∈ BIG := bg2 153 rfl rfl
theorem bw2_154 : (Cond.instanceMethod yX8_set) ∈ BIG := bg2 154 rfl rfl
theorem bw2_155 : (Cond.selects RX8 yX8_set yX8_set) ∈ BIG := bg2 155 rfl rfl
theorem bw2_156 : (Cond.code yX8_set cX8_set 3 (some .int)) ∈ BIG := bg2 156 rfl rfl
theorem bw2_157 : (Cond.methodLink RX8 67 yX0_changeSetting) ∈ BIG := bg2 157 rfl rfl
theorem bw2_158 : (Cond.instanceMethod yX0_changeSetting) ∈ BIG := bg2 158 rfl rfl
theorem bw2_159 : (Cond.selects RX0 yX0_changeSetting yX0_changeSetting) ∈ BIG := bg2 159 rfl rfl
theorem bw2_160 : (Cond.code yX0_changeSetting cX0_changeSetting 4 (some .int)) ∈ BIG := bg2 160 rfl rfl
theorem bw2_163 : (Cond.methodLink RX0 64 yX7_setting) ∈ BIG := bg2 163 rfl rfl
theorem bw2_164 : (Cond.methodLink RL 43 yX8_cancel) ∈ BIG := bg2 164 rfl rfl
theorem bw2_165 : (Cond.instanceMethod yX8_cancel) ∈ BIG := bg2 165 rfl rfl
theorem bw2_166 : (Cond.selects RX8 yX8_cancel yX8_cancel) ∈ BIG := bg2 166 rfl rfl
theorem bw2_167 : (Cond.code yX8_cancel cX8_cancel 2 (some .int)) ∈ BIG := bg2 167 rfl rfl
theorem bw2_168 : (Cond.methodLink RX8 79 yX0_callOff) ∈ BIG := bg2 168 rfl rfl
theorem bw2_169 : (Cond.instanceMethod yX0_callOff) ∈ BIG := bg2 169 rfl rfl
theorem bw2_170 : (Cond.selects RX0 yX0_callOff yX0_callOff) ∈ BIG := bg2 170 rfl rfl
theorem bw2_171 : (Cond.code yX0_callOff cX0_callOff 5 (some .int)) ∈ BIG := bg2 171 rfl rfl
theorem bw2_172 : (Cond.methodLink RX0 89 yX7_isBooked) ∈ BIG := bg2 172 rfl rfl
theorem bw2_173 : (Cond.instanceMethod yX7_isBooked) ∈ BIG := bg2 173 rfl rfl
theorem bw2_174 : (Cond.selects RX7 yX7_isBooked yX7_isBooked) ∈ BIG := bg2 174 rfl rfl
theorem bw2_175 : (Cond.code yX7_isBooked cX7_isBooked 2 (some .boolean)) ∈ BIG := bg2 175 rfl rfl
theorem bw2_176 : (Cond.methodLink RX7 56 yX6_has) ∈ BIG := bg2 176 rfl rfl
theorem bw2_177 : (Cond.methodLink RX0 92 yX7_forecastStart) ∈ BIG := bg2 177 rfl rfl
theorem bw2_178 : (Cond.instanceMethod yX7_forecastStart) ∈ BIG := bg2 178 rfl rfl
theorem bw2_179 : (Cond.selects RX7 yX7_forecastStart yX7_forecastStart) ∈ BIG := bg2 179 rfl rfl
theorem bw2_180 : (Cond.code yX7_forecastStart cX7_forecastStart 7 (some .int)) ∈ BIG := bg2 180 rfl rfl
theorem bw2_181 : (Cond.methodLink RX7 82 yX7_nextBooked) ∈ BIG := bg2 181 rfl rfl
theorem bw2_182 : (Cond.instanceMethod yX7_nextBooked) ∈ BIG := bg2 182 rfl rfl
theorem bw2_183 : (Cond.selects RX7 yX7_nextBooked yX7_nextBooked) ∈ BIG := bg2 183 rfl rfl
theorem bw2_184 : (Cond.code yX7_nextBooked cX7_nextBooked 8 (some .int)) ∈ BIG := bg2 184 rfl rfl
theorem bw2_185 : (Cond.methodLink RX0 95 yX7_paidByVouchers) ∈ BIG := bg2 185 rfl rfl
theorem bw2_186 : (Cond.instanceMethod yX7_paidByVouchers) ∈ BIG := bg2 186 rfl rfl
theorem bw2_187 : (Cond.selects RX7 yX7_paidByVouchers yX7_paidByVouchers) ∈ BIG := bg2 187 rfl rfl
theorem bw2_188 : (Cond.code yX7_paidByVouchers cX7_paidByVouchers 4 (some .int)) ∈ BIG := bg2 188 rfl rfl
theorem bw2_189 : (Cond.methodLink RX0 98 yX0_refund) ∈ BIG := bg2 189 rfl rfl
theorem bw2_191 : (Cond.instanceMethod yX0_refund) ∈ BIG := bg2 191 rfl rfl
theorem bw2_192 : (Cond.code yX0_refund cX0_refund 6 none) ∈ BIG := bg2 192 rfl rfl
theorem bw2_193 : (Cond.methodLink RX0 102 yX7_paymentAt) ∈ BIG := bg2 193 rfl rfl
theorem bw2_194 : (Cond.instanceMethod yX7_paymentAt) ∈ BIG := bg2 194 rfl rfl
theorem bw2_195 : (Cond.selects RX7 yX7_paymentAt yX7_paymentAt) ∈ BIG := bg2 195 rfl rfl
theorem bw2_196 : (Cond.code yX7_paymentAt cX7_paymentAt 4 (some .int)) ∈ BIG := bg2 196 rfl rfl
theorem bw2_197 : (Cond.methodLink RX0 105 yX0_refundPayment) ∈ BIG := bg2 197 rfl rfl
theorem bw2_199 : (Cond.instanceMethod yX0_refundPayment) ∈ BIG := bg2 199 rfl rfl
theorem bw2_200 : (Cond.code yX0_refundPayment cX0_refundPayment 4 (some .int)) ∈ BIG := bg2 200 rfl rfl
theorem bw2_201 : (Cond.methodLink RL 46 yX8_move) ∈ BIG := bg2 201 rfl rfl
theorem bw2_202 : (Cond.instanceMethod yX8_move) ∈ BIG := bg2 202 rfl rfl
theorem bw2_203 : (Cond.selects RX8 yX8_move yX8_move) ∈ BIG := bg2 203 rfl rfl
theorem bw2_204 : (Cond.code yX8_move cX8_move 3 (some .int)) ∈ BIG := bg2 204 rfl rfl
theorem bw2_205 : (Cond.methodLink RX8 76 yX0_changeTime) ∈ BIG := bg2 205 rfl rfl
theorem bw2_206 : (Cond.instanceMethod yX0_changeTime) ∈ BIG := bg2 206 rfl rfl
theorem bw2_207 : (Cond.selects RX0 yX0_changeTime yX0_changeTime) ∈ BIG := bg2 207 rfl rfl
theorem bw2_208 : (Cond.code yX0_changeTime cX0_changeTime 5 (some .int)) ∈ BIG := bg2 208 rfl rfl
theorem bw2_209 : (Cond.methodLink RL 49 yX8_merge) ∈ BIG := bg2 209 rfl rfl
theorem bw2_210 : (Cond.instanceMethod yX8_merge) ∈ BIG := bg2 210 rfl rfl
theorem bw2_211 : (Cond.selects RX8 yX8_merge yX8_merge) ∈ BIG := bg2 211 rfl rfl
theorem bw2_212 : (Cond.code yX8_merge cX8_merge 3 (some .int)) ∈ BIG := bg2 212 rfl rfl
theorem bw2_213 : (Cond.methodLink RX8 82 yX0_joinTeams) ∈ BIG := bg2 213 rfl rfl
theorem bw2_214 : (Cond.instanceMethod yX0_joinTeams) ∈ BIG := bg2 214 rfl rfl
theorem bw2_215 : (Cond.selects RX0 yX0_joinTeams yX0_joinTeams) ∈ BIG := bg2 215 rfl rfl
theorem bw2_216 : (Cond.code yX0_joinTeams cX0_joinTeams 5 (some .int)) ∈ BIG := bg2 216 rfl rfl
end
section
theorem bw2_217 : (Cond.methodLink RX0 108 yX0_handOver) ∈ BIG := bg2 217 rfl rfl
theorem bw2_219 : (Cond.instanceMethod yX0_handOver) ∈ BIG := bg2 219 rfl rfl
theorem bw2_220 : (Cond.code yX0_handOver cX0_handOver 4 none) ∈ BIG := bg2 220 rfl rfl
theorem bw2_221 : (Cond.methodLink RX0 111 yX0_handOverPayments) ∈ BIG := bg2 221 rfl rfl
theorem bw2_223 : (Cond.instanceMethod yX0_handOverPayments) ∈ BIG := bg2 223 rfl rfl
theorem bw2_224 : (Cond.code yX0_handOverPayments cX0_handOverPayments 5 none) ∈ BIG := bg2 224 rfl rfl
theorem bw2_225 : (Cond.methodLink RX0 114 yX7_paymentsLeft) ∈ BIG := bg2 225 rfl rfl
theorem bw2_226 : (Cond.instanceMethod yX7_paymentsLeft) ∈ BIG := bg2 226 rfl rfl
theorem bw2_227 : (Cond.selects RX7 yX7_paymentsLeft yX7_paymentsLeft) ∈ BIG := bg2 227 rfl rfl
theorem bw2_228 : (Cond.code yX7_paymentsLeft cX7_paymentsLeft 4 (some .int)) ∈ BIG := bg2 228 rfl rfl
theorem bw2_229 : (Cond.methodLink RX0 117 yX6_size) ∈ BIG := bg2 229 rfl rfl
theorem bw2_230 : (Cond.methodLink RL 52 yX8_play) ∈ BIG := bg2 230 rfl rfl
theorem bw2_231 : (Cond.instanceMethod yX8_play) ∈ BIG := bg2 231 rfl rfl
theorem bw2_232 : (Cond.selects RX8 yX8_play yX8_play) ∈ BIG := bg2 232 rfl rfl
theorem bw2_233 : (Cond.code yX8_play cX8_play 5 (some .int)) ∈ BIG := bg2 233 rfl rfl
theorem bw2_234 : (Cond.methodLink RX8 85 yX0_letPlay) ∈ BIG := bg2 234 rfl rfl
theorem bw2_235 : (Cond.instanceMethod yX0_letPlay) ∈ BIG := bg2 235 rfl rfl
theorem bw2_236 : (Cond.selects RX0 yX0_letPlay yX0_letPlay) ∈ BIG := bg2 236 rfl rfl
theorem bw2_237 : (Cond.code yX0_letPlay cX0_letPlay 11 (some .int)) ∈ BIG := bg2 237 rfl rfl
theorem bw2_238 : (Cond.methodLink RX0 120 yX7_nextBooked) ∈ BIG := bg2 238 rfl rfl
theorem bw2_239 : (Cond.methodLink RX0 123 yX0_occupy) ∈ BIG := bg2 239 rfl rfl
theorem bw3_1 : (Cond.instanceMethod yX0_occupy) ∈ BIG := bg3 1 rfl rfl
theorem bw3_2 : (Cond.code yX0_occupy cX0_occupy 9 (some .int)) ∈ BIG := bg3 2 rfl rfl
theorem bw3_3 : (Cond.methodLink RX0 130 yJ9_max_7cf53) ∈ BIG := bg3 3 rfl rfl
theorem bw3_4 : (Cond.methodLink RX0 127 yX7_refundForDelay) ∈ BIG := bg3 4 rfl rfl
theorem bw3_5 : (Cond.instanceMethod yX7_refundForDelay) ∈ BIG := bg3 5 rfl rfl
theorem bw3_6 : (Cond.selects RX7 yX7_refundForDelay yX7_refundForDelay) ∈ BIG := bg3 6 rfl rfl
theorem bw3_7 : (Cond.code yX7_refundForDelay cX7_refundForDelay 5 (some .int)) ∈ BIG := bg3 7 rfl rfl
theorem bw3_8 : (Cond.methodLink RX7 85 yX7_setting) ∈ BIG := bg3 8 rfl rfl
theorem bw3_9 : (Cond.methodLink RX7 88 yJ9_min_7cf53) ∈ BIG := bg3 9 rfl rfl
theorem bw3_10 : (Cond.methodLink RL 55 yL_paid) ∈ BIG := bg3 10 rfl rfl
theorem bw3_11 : (Cond.static yL_paid) ∈ BIG := bg3 11 rfl rfl
theorem bw3_12 : (Cond.code yL_paid cL_paid 6 (some .int)) ∈ BIG := bg3 12 rfl rfl
theorem bw3_13 : (Cond.methodLink RL 59 yL_late) ∈ BIG := bg3 13 rfl rfl
theorem bw3_14 : (Cond.static yL_late) ∈ BIG := bg3 14 rfl rfl
theorem bw3_15 : (Cond.code yL_late cL_late 11 (some .int)) ∈ BIG := bg3 15 rfl rfl
theorem bw3_16 : (Cond.methodLink RL 9 yL_next) ∈ BIG := bg3 16 rfl rfl
theorem bw3_17 : (Cond.static yL_next) ∈ BIG := bg3 17 rfl rfl
theorem bw3_18 : (Cond.code yL_next cL_next 7 (some .int)) ∈ BIG := bg3 18 rfl rfl
theorem bw3_19 : (Cond.methodLink RL 63 yL_refunds) ∈ BIG := bg3 19 rfl rfl
theorem bw3_20 : (Cond.static yL_refunds) ∈ BIG := bg3 20 rfl rfl
theorem bw3_21 : (Cond.code yL_refunds cL_refunds 11 none) ∈ BIG := bg3 21 rfl rfl
theorem bw3_22 : (Cond.methodLink RL 67 yL_share) ∈ BIG := bg3 22 rfl rfl
theorem bw3_23 : (Cond.static yL_share) ∈ BIG := bg3 23 rfl rfl
theorem bw3_24 : (Cond.code yL_share cL_share 5 (some .int)) ∈ BIG := bg3 24 rfl rfl
theorem bw3_25 : (Cond.methodLink RL 87 yL_isSo) ∈ BIG := bg3 25 rfl rfl
theorem bw3_26 : (Cond.static yL_isSo) ∈ BIG := bg3 26 rfl rfl
theorem bw3_27 : (Cond.code yL_isSo cL_isSo 15 (some .boolean)) ∈ BIG := bg3 27 rfl rfl
theorem bw3_28 : (Cond.methodLink RL 77 yX8_room) ∈ BIG := bg3 28 rfl rfl
theorem bw3_29 : (Cond.instanceMethod yX8_room) ∈ BIG := bg3 29 rfl rfl
theorem bw3_30 : (Cond.selects RX8 yX8_room yX8_room) ∈ BIG := bg3 30 rfl rfl
theorem bw3_31 : (Cond.code yX8_room cX8_room 3 (some .int)) ∈ BIG := bg3 31 rfl rfl
theorem bw3_32 : (Cond.methodLink RX8 161 yX6_has) ∈ BIG := bg3 32 rfl rfl
theorem bw3_33 : (Cond.methodLink RX8 165 yX7_nextBooked) ∈ BIG := bg3 33 rfl rfl
theorem bw3_34 : (Cond.methodLink RX8 168 yX6_cell) ∈ BIG := bg3 34 rfl rfl
theorem bw3_35 : (Cond.methodLink RL 80 yX8_booking) ∈ BIG := bg3 35 rfl rfl
theorem bw3_36 : (Cond.instanceMethod yX8_booking) ∈ BIG := bg3 36 rfl rfl
theorem bw3_37 : (Cond.selects RX8 yX8_booking yX8_booking) ∈ BIG := bg3 37 rfl rfl
theorem bw3_38 : (Cond.code yX8_booking cX8_booking 3 (some .int)) ∈ BIG := bg3 38 rfl rfl
theorem bw3_39 : (Cond.methodLink RX8 171 yX7_paidByVouchers) ∈ BIG := bg3 39 rfl rfl
theorem bw3_40 : (Cond.methodLink RX8 174 yX7_paymentsLeft) ∈ BIG := bg3 40 rfl rfl
theorem bw3_41 : (Cond.methodLink RL 83 yX8_voucher) ∈ BIG := bg3 41 rfl rfl
theorem bw3_42 : (Cond.instanceMethod yX8_voucher) ∈ BIG := bg3 42 rfl rfl
theorem bw3_43 : (Cond.selects RX8 yX8_voucher yX8_voucher) ∈ BIG := bg3 43 rfl rfl
theorem bw3_44 : (Cond.code yX8_voucher cX8_voucher 3 (some .int)) ∈ BIG := bg3 44 rfl rfl
theorem bw3_45 : (Cond.methodLink RX8 177 yX7_bookingsPaidWith) ∈ BIG := bg3 45 rfl rfl
theorem bw3_46 : (Cond.instanceMethod yX7_bookingsPaidWith) ∈ BIG := bg3 46 rfl rfl
theorem bw3_47 : (Cond.selects RX7 yX7_bookingsPaidWith yX7_bookingsPaidWith) ∈ BIG := bg3 47 rfl rfl
theorem bw3_48 : (Cond.code yX7_bookingsPaidWith cX7_bookingsPaidWith 4 (some .int)) ∈ BIG := bg3 48 rfl rfl
theorem bw3_49 : (Cond.methodLink RX7 91 yX7_isPaidWith) ∈ BIG := bg3 49 rfl rfl
theorem bw3_51 : (Cond.instanceMethod yX7_isPaidWith) ∈ BIG := bg3 51 rfl rfl
theorem bw3_52 : (Cond.code yX7_isPaidWith cX7_isPaidWith 4 (some .boolean)) ∈ BIG := bg3 52 rfl rfl
theorem bs0 : (Cond.selects RX1 yX1_stateAt yX1_stateAt) ∈ BIG := bgs 0 (q := (yX1_stateAt, _)) rfl rfl
theorem bs1 : (Cond.selects RX1 yX1_record yX1_record) ∈ BIG := bgs 1 (q := (yX1_record, _)) rfl rfl
theorem bs2 : (Cond.selects RX0 yX0_payCharge yX0_payCharge) ∈ BIG := bgs 2 (q := (yX0_payCharge, _)) rfl rfl
theorem bs3 : (Cond.selects RX0 yX0_refund yX0_refund) ∈ BIG := bgs 3 (q := (yX0_refund, _)) rfl rfl
theorem bs4 : (Cond.selects RX0 yX0_refundPayment yX0_refundPayment) ∈ BIG := bgs 4 (q := (yX0_refundPayment, _)) rfl rfl
theorem bs5 : (Cond.selects RX0 yX0_handOver yX0_handOver) ∈ BIG := bgs 5 (q := (yX0_handOver, _)) rfl rfl
theorem bs6 : (Cond.selects RX0 yX0_handOverPayments yX0_handOverPayments) ∈ BIG := bgs 6 (q := (yX0_handOverPayments, _)) rfl rfl
theorem bs7 : (Cond.selects RX0 yX0_occupy yX0_occupy) ∈ BIG := bgs 7 (q := (yX0_occupy, _)) rfl rfl
theorem bs8 : (Cond.selects RX7 yX7_isPaidWith yX7_isPaidWith) ∈ BIG := bgs 8 (q := (yX7_isPaidWith, _)) rfl rfl
end
section
theorem dX0_init_0 : decode cX0_init 0 = .ok (.aload_n 0, 1) := by decide +kernel
theorem dX0_init_1 : decode cX0_init 1 = .ok (.invokespecial 3, 3) := by decide +kernel
theorem dX0_init_4 : decode cX0_init 4 = .ok (.aload_n 0, 1) := by decide +kernel
theorem dX0_init_5 : decode cX0_init 5 = .ok (.aload_n 1, 1) := by decide +kernel
theorem dX0_init_6 : decode cX0_init 6 = .ok (.putfield 9, 3) := by decide +kernel
theorem dX0_init_9 : decode cX0_init 9 = .ok (.aload_n 0, 1) := by decide +kernel
theorem dX0_init_10 : decode cX0_init 10 = .ok (.aload_n 1, 1) := by decide +kernel
theorem dX0_init_11 : decode cX0_init 11 = .ok (.getfield 15, 3) := by decide +kernel
theorem dX0_init_14 : decode cX0_init 14 = .ok (.putfield 21, 3) := by decide +kernel
theorem dX0_init_17 : decode cX0_init 17 = .ok (.aload_n 0, 1) := by decide +kernel
theorem dX0_init_18 : decode cX0_init 18 = .ok (.aload_n 1, 1) := by decide +kernel
theorem dX0_init_19 : decode cX0_init 19 = .ok (.getfield 22, 3) := by decide +kernel
theorem dX0_init_22 : decode cX0_init 22 = .ok (.putfield 25, 3) := by decide +kernel
theorem dX0_init_25 : decode cX0_init 25 = .ok (.aload_n 0, 1) := by decide +kernel
theorem dX0_init_26 : decode cX0_init 26 = .ok (.aload_n 1, 1) := by decide +kernel
theorem dX0_init_27 : decode cX0_init 27 = .ok (.getfield 26, 3) := by decide +kernel
theorem dX0_init_30 : decode cX0_init 30 = .ok (.putfield 29, 3) := by decide +kernel
theorem dX0_init_33 : decode cX0_init 33 = .ok (.aload_n 0, 1) := by decide +kernel
theorem dX0_init_34 : decode cX0_init 34 = .ok (.aload_n 1, 1) := by decide +kernel
theorem dX0_init_35 : decode cX0_init 35 = .ok (.getfield 30, 3) := by decide +kernel
theorem dX0_init_38 : decode cX0_init 38 = .ok (.putfield 33, 3) := by decide +kernel
theorem dX0_init_41 : decode cX0_init 41 = .ok (.return_, 1) := by decide +kernel
theorem dX0_newRoom_0 : decode cX0_newRoom 0 = .ok (.iload_n 1, 1) := by decide +kernel
theorem dX0_newRoom_1 : decode cX0_newRoom 1 = .ok (.bipush 20, 2) := by decide +kernel
theorem dX0_newRoom_3 : decode cX0_newRoom 3 = .ok (.bipush 120, 2) := by decide +kernel
theorem dX0_newRoom_5 : decode cX0_newRoom 5 = .ok (.invokestatic 34, 3) := by decide +kernel
theorem dX0_newRoom_8 : decode cX0_newRoom 8 = .ok (.ifCond .eq 35, 3) := by decide +kernel
theorem dX0_newRoom_11 : decode cX0_newRoom 11 = .ok (.iload_n 2, 1) := by decide +kernel
theorem dX0_newRoom_12 : decode cX0_newRoom 12 = .ok (.iconst 0, 1) := by decide +kernel
theorem dX0_newRoom_13 : decode cX0_newRoom 13 = .ok (.bipush 60, 2) := by decide +kernel
theorem dX0_newRoom_15 : decode cX0_newRoom 15 = .ok (.invokestatic 34, 3) := by decide +kernel
theorem dX0_newRoom_18 : decode cX0_newRoom 18 = .ok (.ifCond .eq 25, 3) := by decide +kernel
theorem dX0_newRoom_21 : decode cX0_newRoom 21 = .ok (.iload_n 3, 1) := by decide +kernel
theorem dX0_newRoom_22 : decode cX0_newRoom 22 = .ok (.iconst 1, 1) := by decide +kernel
theorem dX0_newRoom_23 : decode cX0_newRoom 23 = .ok (.sipush 200, 3) := by decide +kernel
theorem dX0_newRoom_26 : decode cX0_newRoom 26 = .ok (.invokestatic 34, 3) := by decide +kernel
theorem dX0_newRoom_29 : decode cX0_newRoom 29 = .ok (.ifCond .eq 14, 3) := by decide +kernel
theorem dX0_newRoom_32 : decode cX0_newRoom 32 = .ok (.iload 4, 2) := by decide +kernel
theorem dX0_newRoom_34 : decode cX0_newRoom 34 = .ok (.iconst 2, 1) := by decide +kernel
theorem dX0_newRoom_35 : decode cX0_newRoom 35 = .ok (.bipush 8, 2) := by decide +kernel
theorem dX0_newRoom_37 : decode cX0_newRoom 37 = .ok (.invokestatic 34, 3) := by decide +kernel
theorem dX0_newRoom_40 : decode cX0_newRoom 40 = .ok (.ifCond .ne 5, 3) := by decide +kernel
theorem dX0_newRoom_43 : decode cX0_newRoom 43 = .ok (.iconst (-1), 1) := by decide +kernel
theorem dX0_newRoom_44 : decode cX0_newRoom 44 = .ok (.ireturn, 1) := by decide +kernel
theorem dX0_newRoom_45 : decode cX0_newRoom 45 = .ok (.aload_n 0, 1) := by decide +kernel
theorem dX0_newRoom_46 : decode cX0_newRoom 46 = .ok (.getfield 21, 3) := by decide +kernel
theorem dX0_newRoom_49 : decode cX0_newRoom 49 = .ok (.invokevirtual 38, 3) := by decide +kernel
theorem dX0_newRoom_52 : decode cX0_newRoom 52 = .ok (.ifCond .eq 6, 3) := by decide +kernel
theorem dX0_newRoom_55 : decode cX0_newRoom 55 = .ok (.bipush (-3), 2) := by decide +kernel
theorem dX0_newRoom_57 : decode cX0_newRoom 57 = .ok (.ireturn, 1) := by decide +kernel
theorem dX0_newRoom_58 : decode cX0_newRoom 58 = .ok (.aload_n 0, 1) := by decide +kernel
theorem dX0_newRoom_59 : decode cX0_newRoom 59 = .ok (.getfield 21, 3) := by decide +kernel
theorem dX0_newRoom_62 : decode cX0_newRoom 62 = .ok (.invokevirtual 44, 3) := by decide +kernel
theorem dX0_newRoom_65 : decode cX0_newRoom 65 = .ok (.istore 5, 2) := by decide +kernel
theorem dX0_newRoom_67 : decode cX0_newRoom 67 = .ok (.aload_n 0, 1) := by decide +kernel
theorem dX0_newRoom_68 : decode cX0_newRoom 68 = .ok (.getfield 21, 3) := by decide +kernel
theorem dX0_newRoom_71 : decode cX0_newRoom 71 = .ok (.iload 5, 2) := by decide +kernel
theorem dX0_newRoom_73 : decode cX0_newRoom 73 = .ok (.iconst 0, 1) := by decide +kernel
theorem dX0_newRoom_74 : decode cX0_newRoom 74 = .ok (.iload_n 1, 1) := by decide +kernel
theorem dX0_newRoom_75 : decode cX0_newRoom 75 = .ok (.invokevirtual 48, 3) := by decide +kernel
theorem dX0_newRoom_78 : decode cX0_newRoom 78 = .ok (.aload_n 0, 1) := by decide +kernel
theorem dX0_newRoom_79 : decode cX0_newRoom 79 = .ok (.getfield 21, 3) := by decide +kernel
theorem dX0_newRoom_82 : decode cX0_newRoom 82 = .ok (.iload 5, 2) := by decide +kernel
theorem dX0_newRoom_84 : decode cX0_newRoom 84 = .ok (.iconst 1, 1) := by decide +kernel
theorem dX0_newRoom_85 : decode cX0_newRoom 85 = .ok (.iload_n 2, 1) := by decide +kernel
theorem dX0_newRoom_86 : decode cX0_newRoom 86 = .ok (.invokevirtual 48, 3) := by decide +kernel
theorem dX0_newRoom_89 : decode cX0_newRoom 89 = .ok (.aload_n 0, 1) := by decide +kernel
theorem dX0_newRoom_90 : decode cX0_newRoom 90 = .ok (.getfield 21, 3) := by decide +kernel
theorem dX0_newRoom_93 : decode cX0_newRoom 93 = .ok (.iload 5, 2) := by decide +kernel
theorem dX0_newRoom_95 : decode cX0_newRoom 95 = .ok (.iconst 2, 1) := by decide +kernel
theorem dX0_newRoom_96 : decode cX0_newRoom 96 = .ok (.iload_n 3, 1) := by decide +kernel
theorem dX0_newRoom_97 : decode cX0_newRoom 97 = .ok (.invokevirtual 48, 3) := by decide +kernel
theorem dX0_newRoom_100 : decode cX0_newRoom 100 = .ok (.aload_n 0, 1) := by decide +kernel
theorem dX0_newRoom_101 : decode cX0_newRoom 101 = .ok (.getfield 21, 3) := by decide +kernel
theorem dX0_newRoom_104 : decode cX0_newRoom 104 = .ok (.iload 5, 2) := by decide +kernel
theorem dX0_newRoom_106 : decode cX0_newRoom 106 = .ok (.iconst 3, 1) := by decide +kernel
theorem dX0_newRoom_107 : decode cX0_newRoom 107 = .ok (.iload 4, 2) := by decide +kernel
theorem dX0_newRoom_109 : decode cX0_newRoom 109 = .ok (.invokevirtual 48, 3) := by decide +kernel
theorem dX0_newRoom_112 : decode cX0_newRoom 112 = .ok (.iload 5, 2) := by decide +kernel
theorem dX0_newRoom_114 : decode cX0_newRoom 114 = .ok (.ireturn, 1) := by decide +kernel
theorem dX0_changePrice_0 : decode cX0_changePrice 0 = .ok (.aload_n 0, 1) := by decide +kernel
theorem dX0_changePrice_1 : decode cX0_changePrice 1 = .ok (.getfield 21, 3) := by decide +kernel
theorem dX0_changePrice_4 : decode cX0_changePrice 4 = .ok (.iload_n 1, 1) := by decide +kernel
theorem dX0_changePrice_5 : decode cX0_changePrice 5 = .ok (.invokevirtual 52, 3) := by decide +kernel
theorem dX0_changePrice_8 : decode cX0_changePrice 8 = .ok (.ifCond .eq 14, 3) := by decide +kernel
theorem dX0_changePrice_11 : decode cX0_changePrice 11 = .ok (.iload_n 2, 1) := by decide +kernel
theorem dX0_changePrice_12 : decode cX0_changePrice 12 = .ok (.iconst 1, 1) := by decide +kernel
theorem dX0_changePrice_13 : decode cX0_changePrice 13 = .ok (.sipush 200, 3) := by decide +kernel
theorem dX0_changePrice_16 : decode cX0_changePrice 16 = .ok (.invokestatic 34, 3) := by decide +kernel
theorem dX0_changePrice_19 : decode cX0_changePrice 19 = .ok (.ifCond .ne 5, 3) := by decide +kernel
theorem dX0_changePrice_22 : decode cX0_changePrice 22 = .ok (.iconst (-1), 1) := by decide +kernel
theorem dX0_changePrice_23 : decode cX0_changePrice 23 = .ok (.ireturn, 1) := by decide +kernel
theorem dX0_changePrice_24 : decode cX0_changePrice 24 = .ok (.aload_n 0, 1) := by decide +kernel
theorem dX0_changePrice_25 : decode cX0_changePrice 25 = .ok (.getfield 21, 3) := by decide +kernel
theorem dX0_changePrice_28 : decode cX0_changePrice 28 = .ok (.iload_n 1, 1) := by decide +kernel
theorem dX0_changePrice_29 : decode cX0_changePrice 29 = .ok (.iconst 2, 1) := by decide +kernel
theorem dX0_changePrice_30 : decode cX0_changePrice 30 = .ok (.invokevirtual 56, 3) := by decide +kernel
theorem dX0_changePrice_33 : decode cX0_changePrice 33 = .ok (.istore_n 3, 1) := by decide +kernel
theorem dX0_changePrice_34 : decode cX0_changePrice 34 = .ok (.aload_n 0, 1) := by decide +kernel
theorem dX0_changePrice_35 : decode cX0_changePrice 35 = .ok (.getfield 21, 3) := by decide +kernel
theorem dX0_changePrice_38 : decode cX0_changePrice 38 = .ok (.iload_n 1, 1) := by decide +kernel
theorem dX0_changePrice_39 : decode cX0_changePrice 39 = .ok (.iconst 2, 1) := by decide +kernel
theorem dX0_changePrice_40 : decode cX0_changePrice 40 = .ok (.iload_n 2, 1) := by decide +kernel
theorem dX0_changePrice_41 : decode cX0_changePrice 41 = .ok (.invokevirtual 48, 3) := by decide +kernel
theorem dX0_changePrice_44 : decode cX0_changePrice 44 = .ok (.iload_n 3, 1) := by decide +kernel
theorem dX0_changePrice_45 : decode cX0_changePrice 45 = .ok (.ireturn, 1) := by decide +kernel
theorem dX0_changeSetting_0 : decode cX0_changeSetting 0 = .ok (.iload_n 1, 1) := by decide +kernel
theorem dX0_changeSetting_1 : decode cX0_changeSetting 1 = .ok (.ifCond .lt 24, 3) := by decide +kernel
theorem dX0_changeSetting_4 : decode cX0_changeSetting 4 = .ok (.iload_n 1, 1) := by decide +kernel
theorem dX0_changeSetting_5 : decode cX0_changeSetting 5 = .ok (.getstatic 60, 3) := by decide +kernel
theorem dX0_changeSetting_8 : decode cX0_changeSetting 8 = .ok (.arraylength, 1) := by decide +kernel
theorem dX0_changeSetting_9 : decode cX0_changeSetting 9 = .ok (.if_icmp .ge 16, 3) := by decide +kernel
theorem dX0_changeSetting_12 : decode cX0_changeSetting 12 = .ok (.iload_n 2, 1) := by decide +kernel
theorem dX0_changeSetting_13 : decode cX0_changeSetting 13 = .ok (.iconst 0, 1) := by decide +kernel
theorem dX0_changeSetting_14 : decode cX0_changeSetting 14 = .ok (.getstatic 60, 3) := by decide +kernel
theorem dX0_changeSetting_17 : decode cX0_changeSetting 17 = .ok (.iload_n 1, 1) := by decide +kernel
theorem dX0_changeSetting_18 : decode cX0_changeSetting 18 = .ok (.iaload, 1) := by decide +kernel
theorem dX0_changeSetting_19 : decode cX0_changeSetting 19 = .ok (.invokestatic 34, 3) := by decide +kernel
theorem dX0_changeSetting_22 : decode cX0_changeSetting 22 = .ok (.ifCond .ne 5, 3) := by decide +kernel
theorem dX0_changeSetting_25 : decode cX0_changeSetting 25 = .ok (.iconst (-1), 1) := by decide +kernel
theorem dX0_changeSetting_26 : decode cX0_changeSetting 26 = .ok (.ireturn, 1) := by decide +kernel
theorem dX0_changeSetting_27 : decode cX0_changeSetting 27 = .ok (.aload_n 0, 1) := by decide +kernel
theorem dX0_changeSetting_28 : decode cX0_changeSetting 28 = .ok (.getfield 9, 3) := by decide +kernel
theorem dX0_changeSetting_31 : decode cX0_changeSetting 31 = .ok (.iload_n 1, 1) := by decide +kernel
theorem dX0_changeSetting_32 : decode cX0_changeSetting 32 = .ok (.invokevirtual 64, 3) := by decide +kernel
theorem dX0_changeSetting_35 : decode cX0_changeSetting 35 = .ok (.istore_n 3, 1) := by decide +kernel
theorem dX0_changeSetting_36 : decode cX0_changeSetting 36 = .ok (.aload_n 0, 1) := by decide +kernel
theorem dX0_changeSetting_37 : decode cX0_changeSetting 37 = .ok (.getfield 9, 3) := by decide +kernel
theorem dX0_changeSetting_40 : decode cX0_changeSetting 40 = .ok (.getfield 68, 3) := by decide +kernel
theorem dX0_changeSetting_43 : decode cX0_changeSetting 43 = .ok (.iload_n 1, 1) := by decide +kernel
theorem dX0_changeSetting_44 : decode cX0_changeSetting 44 = .ok (.iconst 0, 1) := by decide +kernel
theorem dX0_changeSetting_45 : decode cX0_changeSetting 45 = .ok (.iload_n 2, 1) := by decide +kernel
theorem dX0_changeSetting_46 : decode cX0_changeSetting 46 = .ok (.invokevirtual 48, 3) := by decide +kernel
theorem dX0_changeSetting_49 : decode cX0_changeSetting 49 = .ok (.iload_n 3, 1) := by decide +kernel
theorem dX0_changeSetting_50 : decode cX0_changeSetting 50 = .ok (.ireturn, 1) := by decide +kernel
theorem dX0_newVoucher_0 : decode cX0_newVoucher 0 = .ok (.iload_n 1, 1) := by decide +kernel
theorem dX0_newVoucher_1 : decode cX0_newVoucher 1 = .ok (.iconst 1, 1) := by decide +kernel
theorem dX0_newVoucher_2 : decode cX0_newVoucher 2 = .ok (.sipush 500, 3) := by decide +kernel
theorem dX0_newVoucher_5 : decode cX0_newVoucher 5 = .ok (.invokestatic 34, 3) := by decide +kernel
theorem dX0_newVoucher_8 : decode cX0_newVoucher 8 = .ok (.ifCond .ne 5, 3) := by decide +kernel
theorem dX0_newVoucher_11 : decode cX0_newVoucher 11 = .ok (.iconst (-1), 1) := by decide +kernel
theorem dX0_newVoucher_12 : decode cX0_newVoucher 12 = .ok (.ireturn, 1) := by decide +kernel
theorem dX0_newVoucher_13 : decode cX0_newVoucher 13 = .ok (.aload_n 0, 1) := by decide +kernel
theorem dX0_newVoucher_14 : decode cX0_newVoucher 14 = .ok (.getfield 29, 3) := by decide +kernel
theorem dX0_newVoucher_17 : decode cX0_newVoucher 17 = .ok (.invokevirtual 38, 3) := by decide +kernel
theorem dX0_newVoucher_20 : decode cX0_newVoucher 20 = .ok (.ifCond .eq 6, 3) := by decide +kernel
theorem dX0_newVoucher_23 : decode cX0_newVoucher 23 = .ok (.bipush (-3), 2) := by decide +kernel
theorem dX0_newVoucher_25 : decode cX0_newVoucher 25 = .ok (.ireturn, 1) := by decide +kernel
theorem dX0_newVoucher_26 : decode cX0_newVoucher 26 = .ok (.aload_n 0, 1) := by decide +kernel
theorem dX0_newVoucher_27 : decode cX0_newVoucher 27 = .ok (.getfield 29, 3) := by decide +kernel
theorem dX0_newVoucher_30 : decode cX0_newVoucher 30 = .ok (.invokevirtual 44, 3) := by decide +kernel
theorem dX0_newVoucher_33 : decode cX0_newVoucher 33 = .ok (.istore_n 2, 1) := by decide +kernel
theorem dX0_newVoucher_34 : decode cX0_newVoucher 34 = .ok (.aload_n 0, 1) := by decide +kernel
theorem dX0_newVoucher_35 : decode cX0_newVoucher 35 = .ok (.getfield 29, 3) := by decide +kernel
theorem dX0_newVoucher_38 : decode cX0_newVoucher 38 = .ok (.iload_n 2, 1) := by decide +kernel
theorem dX0_newVoucher_39 : decode cX0_newVoucher 39 = .ok (.iconst 0, 1) := by decide +kernel
theorem dX0_newVoucher_40 : decode cX0_newVoucher 40 = .ok (.iload_n 1, 1) := by decide +kernel
theorem dX0_newVoucher_41 : decode cX0_newVoucher 41 = .ok (.invokevirtual 48, 3) := by decide +kernel
theorem dX0_newVoucher_44 : decode cX0_newVoucher 44 = .ok (.aload_n 0, 1) := by decide +kernel
theorem dX0_newVoucher_45 : decode cX0_newVoucher 45 = .ok (.getfield 29, 3) := by decide +kernel
theorem dX0_newVoucher_48 : decode cX0_newVoucher 48 = .ok (.iload_n 2, 1) := by decide +kernel
theorem dX0_newVoucher_49 : decode cX0_newVoucher 49 = .ok (.iconst 1, 1) := by decide +kernel
theorem dX0_newVoucher_50 : decode cX0_newVoucher 50 = .ok (.iload_n 1, 1) := by decide +kernel
theorem dX0_newVoucher_51 : decode cX0_newVoucher 51 = .ok (.invokevirtual 48, 3) := by decide +kernel
theorem dX0_newVoucher_54 : decode cX0_newVoucher 54 = .ok (.aload_n 0, 1) := by decide +kernel
theorem dX0_newVoucher_55 : decode cX0_newVoucher 55 = .ok (.getfield 9, 3) := by decide +kernel
theorem dX0_newVoucher_58 : decode cX0_newVoucher 58 = .ok (.dup, 1) := by decide +kernel
theorem dX0_newVoucher_59 : decode cX0_newVoucher 59 = .ok (.getfield 71, 3) := by decide +kernel
theorem dX0_newVoucher_62 : decode cX0_newVoucher 62 = .ok (.iload_n 1, 1) := by decide +kernel
theorem dX0_newVoucher_63 : decode cX0_newVoucher 63 = .ok (.iadd, 1) := by decide +kernel
theorem dX0_newVoucher_64 : decode cX0_newVoucher 64 = .ok (.putfield 71, 3) := by decide +kernel
theorem dX0_newVoucher_67 : decode cX0_newVoucher 67 = .ok (.iload_n 2, 1) := by decide +kernel
theorem dX0_newVoucher_68 : decode cX0_newVoucher 68 = .ok (.ireturn, 1) := by decide +kernel
theorem dX0_newBooking_0 : decode cX0_newBooking 0 = .ok (.aload_n 0, 1) := by decide +kernel
theorem dX0_newBooking_1 : decode cX0_newBooking 1 = .ok (.getfield 21, 3) := by decide +kernel
theorem dX0_newBooking_4 : decode cX0_newBooking 4 = .ok (.iload_n 1, 1) := by decide +kernel
theorem dX0_newBooking_5 : decode cX0_newBooking 5 = .ok (.invokevirtual 52, 3) := by decide +kernel
theorem dX0_newBooking_8 : decode cX0_newBooking 8 = .ok (.ifCond .eq 49, 3) := by decide +kernel
theorem dX0_newBooking_11 : decode cX0_newBooking 11 = .ok (.iload_n 2, 1) := by decide +kernel
theorem dX0_newBooking_12 : decode cX0_newBooking 12 = .ok (.iconst 0, 1) := by decide +kernel
theorem dX0_newBooking_13 : decode cX0_newBooking 13 = .ok (.sipush 720, 3) := by decide +kernel
theorem dX0_newBooking_16 : decode cX0_newBooking 16 = .ok (.invokestatic 34, 3) := by decide +kernel
theorem dX0_newBooking_19 : decode cX0_newBooking 19 = .ok (.ifCond .eq 38, 3) := by decide +kernel
theorem dX0_newBooking_22 : decode cX0_newBooking 22 = .ok (.iload_n 3, 1) := by decide +kernel
theorem dX0_newBooking_23 : decode cX0_newBooking 23 = .ok (.iconst 2, 1) := by decide +kernel
theorem dX0_newBooking_24 : decode cX0_newBooking 24 = .ok (.aload_n 0, 1) := by decide +kernel
theorem dX0_newBooking_25 : decode cX0_newBooking 25 = .ok (.getfield 21, 3) := by decide +kernel
theorem dX0_newBooking_28 : decode cX0_newBooking 28 = .ok (.iload_n 1, 1) := by decide +kernel
theorem dX0_newBooking_29 : decode cX0_newBooking 29 = .ok (.iconst 3, 1) := by decide +kernel
theorem dX0_newBooking_30 : decode cX0_newBooking 30 = .ok (.invokevirtual 56, 3) := by decide +kernel
theorem dX0_newBooking_33 : decode cX0_newBooking 33 = .ok (.invokestatic 34, 3) := by decide +kernel
theorem dX0_newBooking_36 : decode cX0_newBooking 36 = .ok (.ifCond .eq 21, 3) := by decide +kernel
theorem dX0_newBooking_39 : decode cX0_newBooking 39 = .ok (.iload 4, 2) := by decide +kernel
theorem dX0_newBooking_41 : decode cX0_newBooking 41 = .ok (.iconst (-1), 1) := by decide +kernel
theorem dX0_newBooking_42 : decode cX0_newBooking 42 = .ok (.if_icmp .eq 17, 3) := by decide +kernel
theorem dX0_newBooking_45 : decode cX0_newBooking 45 = .ok (.aload_n 0, 1) := by decide +kernel
theorem dX0_newBooking_46 : decode cX0_newBooking 46 = .ok (.getfield 29, 3) := by decide +kernel
theorem dX0_newBooking_49 : decode cX0_newBooking 49 = .ok (.iload 4, 2) := by decide +kernel
theorem dX0_newBooking_51 : decode cX0_newBooking 51 = .ok (.invokevirtual 52, 3) := by decide +kernel
theorem dX0_newBooking_54 : decode cX0_newBooking 54 = .ok (.ifCond .ne 5, 3) := by decide +kernel
theorem dX0_newBooking_57 : decode cX0_newBooking 57 = .ok (.iconst (-1), 1) := by decide +kernel
theorem dX0_newBooking_58 : decode cX0_newBooking 58 = .ok (.ireturn, 1) := by decide +kernel
theorem dX0_newBooking_59 : decode cX0_newBooking 59 = .ok (.aload_n 0, 1) := by decide +kernel
theorem dX0_newBooking_60 : decode cX0_newBooking 60 = .ok (.getfield 9, 3) := by decide +kernel
theorem dX0_newBooking_63 : decode cX0_newBooking 63 = .ok (.iload_n 1, 1) := by decide +kernel
theorem dX0_newBooking_64 : decode cX0_newBooking 64 = .ok (.iload_n 2, 1) := by decide +kernel
theorem dX0_newBooking_65 : decode cX0_newBooking 65 = .ok (.bipush (-9), 2) := by decide +kernel
theorem dX0_newBooking_67 : decode cX0_newBooking 67 = .ok (.invokevirtual 75, 3) := by decide +kernel
theorem dX0_newBooking_70 : decode cX0_newBooking 70 = .ok (.ifCond .ne 6, 3) := by decide +kernel
theorem dX0_newBooking_73 : decode cX0_newBooking 73 = .ok (.bipush (-2), 2) := by decide +kernel
theorem dX0_newBooking_75 : decode cX0_newBooking 75 = .ok (.ireturn, 1) := by decide +kernel
theorem dX0_newBooking_76 : decode cX0_newBooking 76 = .ok (.aload_n 0, 1) := by decide +kernel
theorem dX0_newBooking_77 : decode cX0_newBooking 77 = .ok (.getfield 25, 3) := by decide +kernel
theorem dX0_newBooking_80 : decode cX0_newBooking 80 = .ok (.invokevirtual 38, 3) := by decide +kernel
theorem dX0_newBooking_83 : decode cX0_newBooking 83 = .ok (.ifCond .eq 6, 3) := by decide +kernel
theorem dX0_newBooking_86 : decode cX0_newBooking 86 = .ok (.bipush (-3), 2) := by decide +kernel
theorem dX0_newBooking_88 : decode cX0_newBooking 88 = .ok (.ireturn, 1) := by decide +kernel
theorem dX0_newBooking_89 : decode cX0_newBooking 89 = .ok (.aload_n 0, 1) := by decide +kernel
theorem dX0_newBooking_90 : decode cX0_newBooking 90 = .ok (.getfield 25, 3) := by decide +kernel
theorem dX0_newBooking_93 : decode cX0_newBooking 93 = .ok (.invokevirtual 44, 3) := by decide +kernel
theorem dX0_newBooking_96 : decode cX0_newBooking 96 = .ok (.istore 5, 2) := by decide +kernel
theorem dX0_newBooking_98 : decode cX0_newBooking 98 = .ok (.aload_n 0, 1) := by decide +kernel
theorem dX0_newBooking_99 : decode cX0_newBooking 99 = .ok (.getfield 25, 3) := by decide +kernel
theorem dX0_newBooking_102 : decode cX0_newBooking 102 = .ok (.iload 5, 2) := by decide +kernel
theorem dX0_newBooking_104 : decode cX0_newBooking 104 = .ok (.iconst 0, 1) := by decide +kernel
theorem dX0_newBooking_105 : decode cX0_newBooking 105 = .ok (.iload_n 1, 1) := by decide +kernel
theorem dX0_newBooking_106 : decode cX0_newBooking 106 = .ok (.invokevirtual 48, 3) := by decide +kernel
theorem dX0_newBooking_109 : decode cX0_newBooking 109 = .ok (.aload_n 0, 1) := by decide +kernel
theorem dX0_newBooking_110 : decode cX0_newBooking 110 = .ok (.getfield 25, 3) := by decide +kernel
theorem dX0_newBooking_113 : decode cX0_newBooking 113 = .ok (.iload 5, 2) := by decide +kernel
theorem dX0_newBooking_115 : decode cX0_newBooking 115 = .ok (.iconst 1, 1) := by decide +kernel
theorem dX0_newBooking_116 : decode cX0_newBooking 116 = .ok (.iload_n 2, 1) := by decide +kernel
theorem dX0_newBooking_117 : decode cX0_newBooking 117 = .ok (.invokevirtual 48, 3) := by decide +kernel
theorem dX0_newBooking_120 : decode cX0_newBooking 120 = .ok (.aload_n 0, 1) := by decide +kernel
theorem dX0_newBooking_121 : decode cX0_newBooking 121 = .ok (.getfield 25, 3) := by decide +kernel
theorem dX0_newBooking_124 : decode cX0_newBooking 124 = .ok (.iload 5, 2) := by decide +kernel
theorem dX0_newBooking_126 : decode cX0_newBooking 126 = .ok (.iconst 2, 1) := by decide +kernel
theorem dX0_newBooking_127 : decode cX0_newBooking 127 = .ok (.iload_n 3, 1) := by decide +kernel
theorem dX0_newBooking_128 : decode cX0_newBooking 128 = .ok (.invokevirtual 48, 3) := by decide +kernel
theorem dX0_newBooking_131 : decode cX0_newBooking 131 = .ok (.aload_n 0, 1) := by decide +kernel
theorem dX0_newBooking_132 : decode cX0_newBooking 132 = .ok (.getfield 25, 3) := by decide +kernel
theorem dX0_newBooking_135 : decode cX0_newBooking 135 = .ok (.iload 5, 2) := by decide +kernel
theorem dX0_newBooking_137 : decode cX0_newBooking 137 = .ok (.iconst 3, 1) := by decide +kernel
theorem dX0_newBooking_138 : decode cX0_newBooking 138 = .ok (.iconst 0, 1) := by decide +kernel
theorem dX0_newBooking_139 : decode cX0_newBooking 139 = .ok (.invokevirtual 48, 3) := by decide +kernel
theorem dX0_newBooking_142 : decode cX0_newBooking 142 = .ok (.aload_n 0, 1) := by decide +kernel
theorem dX0_newBooking_143 : decode cX0_newBooking 143 = .ok (.getfield 25, 3) := by decide +kernel
theorem dX0_newBooking_146 : decode cX0_newBooking 146 = .ok (.iload 5, 2) := by decide +kernel
theorem dX0_newBooking_148 : decode cX0_newBooking 148 = .ok (.bipush 8, 2) := by decide +kernel
theorem dX0_newBooking_150 : decode cX0_newBooking 150 = .ok (.bipush (-9), 2) := by decide +kernel
theorem dX0_newBooking_152 : decode cX0_newBooking 152 = .ok (.invokevirtual 48, 3) := by decide +kernel
theorem dX0_newBooking_155 : decode cX0_newBooking 155 = .ok (.aload_n 0, 1) := by decide +kernel
theorem dX0_newBooking_156 : decode cX0_newBooking 156 = .ok (.getfield 25, 3) := by decide +kernel
theorem dX0_newBooking_159 : decode cX0_newBooking 159 = .ok (.iload 5, 2) := by decide +kernel
theorem dX0_newBooking_161 : decode cX0_newBooking 161 = .ok (.bipush 9, 2) := by decide +kernel
theorem dX0_newBooking_163 : decode cX0_newBooking 163 = .ok (.bipush (-9), 2) := by decide +kernel
theorem dX0_newBooking_165 : decode cX0_newBooking 165 = .ok (.invokevirtual 48, 3) := by decide +kernel
theorem dX0_newBooking_168 : decode cX0_newBooking 168 = .ok (.aload_n 0, 1) := by decide +kernel
theorem dX0_newBooking_169 : decode cX0_newBooking 169 = .ok (.iload 5, 2) := by decide +kernel
theorem dX0_newBooking_171 : decode cX0_newBooking 171 = .ok (.aload_n 0, 1) := by decide +kernel
theorem dX0_newBooking_172 : decode cX0_newBooking 172 = .ok (.getfield 21, 3) := by decide +kernel
theorem dX0_newBooking_175 : decode cX0_newBooking 175 = .ok (.iload_n 1, 1) := by decide +kernel
theorem dX0_newBooking_176 : decode cX0_newBooking 176 = .ok (.iconst 2, 1) := by decide +kernel
theorem dX0_newBooking_177 : decode cX0_newBooking 177 = .ok (.invokevirtual 56, 3) := by decide +kernel
theorem dX0_newBooking_180 : decode cX0_newBooking 180 = .ok (.iload_n 3, 1) := by decide +kernel
theorem dX0_newBooking_181 : decode cX0_newBooking 181 = .ok (.imul, 1) := by decide +kernel
theorem dX0_newBooking_182 : decode cX0_newBooking 182 = .ok (.iload 4, 2) := by decide +kernel
theorem dX0_newBooking_184 : decode cX0_newBooking 184 = .ok (.invokevirtual 78, 3) := by decide +kernel
theorem dX0_newBooking_187 : decode cX0_newBooking 187 = .ok (.iload 5, 2) := by decide +kernel
theorem dX0_newBooking_189 : decode cX0_newBooking 189 = .ok (.ireturn, 1) := by decide +kernel
theorem dX0_payCharge_0 : decode cX0_payCharge 0 = .ok (.iload_n 2, 1) := by decide +kernel
theorem dX0_payCharge_1 : decode cX0_payCharge 1 = .ok (.aload_n 0, 1) := by decide +kernel
theorem dX0_payCharge_2 : decode cX0_payCharge 2 = .ok (.getfield 29, 3) := by decide +kernel
theorem dX0_payCharge_5 : decode cX0_payCharge 5 = .ok (.iload_n 3, 1) := by decide +kernel
theorem dX0_payCharge_6 : decode cX0_payCharge 6 = .ok (.iconst 1, 1) := by decide +kernel
theorem dX0_payCharge_7 : decode cX0_payCharge 7 = .ok (.invokevirtual 56, 3) := by decide +kernel
theorem dX0_payCharge_10 : decode cX0_payCharge 10 = .ok (.invokestatic 81, 3) := by decide +kernel
theorem dX0_payCharge_13 : decode cX0_payCharge 13 = .ok (.istore 4, 2) := by decide +kernel
theorem dX0_payCharge_15 : decode cX0_payCharge 15 = .ok (.iload 4, 2) := by decide +kernel
theorem dX0_payCharge_17 : decode cX0_payCharge 17 = .ok (.ifCond .le 58, 3) := by decide +kernel
theorem dX0_payCharge_20 : decode cX0_payCharge 20 = .ok (.aload_n 0, 1) := by decide +kernel
theorem dX0_payCharge_21 : decode cX0_payCharge 21 = .ok (.getfield 29, 3) := by decide +kernel
theorem dX0_payCharge_24 : decode cX0_payCharge 24 = .ok (.iload_n 3, 1) := by decide +kernel
theorem dX0_payCharge_25 : decode cX0_payCharge 25 = .ok (.iconst 1, 1) := by decide +kernel
theorem dX0_payCharge_26 : decode cX0_payCharge 26 = .ok (.iload 4, 2) := by decide +kernel
theorem dX0_payCharge_28 : decode cX0_payCharge 28 = .ok (.ineg, 1) := by decide +kernel
theorem dX0_payCharge_29 : decode cX0_payCharge 29 = .ok (.invokevirtual 86, 3) := by decide +kernel
theorem dX0_payCharge_32 : decode cX0_payCharge 32 = .ok (.aload_n 0, 1) := by decide +kernel
theorem dX0_payCharge_33 : decode cX0_payCharge 33 = .ok (.getfield 33, 3) := by decide +kernel
theorem dX0_payCharge_36 : decode cX0_payCharge 36 = .ok (.invokevirtual 44, 3) := by decide +kernel
theorem dX0_payCharge_39 : decode cX0_payCharge 39 = .ok (.istore 5, 2) := by decide +kernel
theorem dX0_payCharge_41 : decode cX0_payCharge 41 = .ok (.aload_n 0, 1) := by decide +kernel
theorem dX0_payCharge_42 : decode cX0_payCharge 42 = .ok (.getfield 33, 3) := by decide +kernel
theorem dX0_payCharge_45 : decode cX0_payCharge 45 = .ok (.iload 5, 2) := by decide +kernel
theorem dX0_payCharge_47 : decode cX0_payCharge 47 = .ok (.iconst 0, 1) := by decide +kernel
theorem dX0_payCharge_48 : decode cX0_payCharge 48 = .ok (.iload_n 1, 1) := by decide +kernel
theorem dX0_payCharge_49 : decode cX0_payCharge 49 = .ok (.invokevirtual 48, 3) := by decide +kernel
theorem dX0_payCharge_52 : decode cX0_payCharge 52 = .ok (.aload_n 0, 1) := by decide +kernel
theorem dX0_payCharge_53 : decode cX0_payCharge 53 = .ok (.getfield 33, 3) := by decide +kernel
theorem dX0_payCharge_56 : decode cX0_payCharge 56 = .ok (.iload 5, 2) := by decide +kernel
theorem dX0_payCharge_58 : decode cX0_payCharge 58 = .ok (.iconst 1, 1) := by decide +kernel
theorem dX0_payCharge_59 : decode cX0_payCharge 59 = .ok (.iload_n 3, 1) := by decide +kernel
theorem dX0_payCharge_60 : decode cX0_payCharge 60 = .ok (.invokevirtual 48, 3) := by decide +kernel
theorem dX0_payCharge_63 : decode cX0_payCharge 63 = .ok (.aload_n 0, 1) := by decide +kernel
theorem dX0_payCharge_64 : decode cX0_payCharge 64 = .ok (.getfield 33, 3) := by decide +kernel
theorem dX0_payCharge_67 : decode cX0_payCharge 67 = .ok (.iload 5, 2) := by decide +kernel
theorem dX0_payCharge_69 : decode cX0_payCharge 69 = .ok (.iconst 2, 1) := by decide +kernel
theorem dX0_payCharge_70 : decode cX0_payCharge 70 = .ok (.iload 4, 2) := by decide +kernel
theorem dX0_payCharge_72 : decode cX0_payCharge 72 = .ok (.invokevirtual 48, 3) := by decide +kernel
theorem dX0_payCharge_75 : decode cX0_payCharge 75 = .ok (.aload_n 0, 1) := by decide +kernel
theorem dX0_payCharge_76 : decode cX0_payCharge 76 = .ok (.getfield 25, 3) := by decide +kernel
theorem dX0_payCharge_79 : decode cX0_payCharge 79 = .ok (.iload_n 1, 1) := by decide +kernel
theorem dX0_payCharge_80 : decode cX0_payCharge 80 = .ok (.iconst 4, 1) := by decide +kernel
theorem dX0_payCharge_81 : decode cX0_payCharge 81 = .ok (.iload_n 2, 1) := by decide +kernel
theorem dX0_payCharge_82 : decode cX0_payCharge 82 = .ok (.invokevirtual 48, 3) := by decide +kernel
theorem dX0_payCharge_85 : decode cX0_payCharge 85 = .ok (.aload_n 0, 1) := by decide +kernel
theorem dX0_payCharge_86 : decode cX0_payCharge 86 = .ok (.getfield 25, 3) := by decide +kernel
theorem dX0_payCharge_89 : decode cX0_payCharge 89 = .ok (.iload_n 1, 1) := by decide +kernel
theorem dX0_payCharge_90 : decode cX0_payCharge 90 = .ok (.iconst 5, 1) := by decide +kernel
theorem dX0_payCharge_91 : decode cX0_payCharge 91 = .ok (.iload_n 2, 1) := by decide +kernel
theorem dX0_payCharge_92 : decode cX0_payCharge 92 = .ok (.iload 4, 2) := by decide +kernel
theorem dX0_payCharge_94 : decode cX0_payCharge 94 = .ok (.isub, 1) := by decide +kernel
theorem dX0_payCharge_95 : decode cX0_payCharge 95 = .ok (.invokevirtual 48, 3) := by decide +kernel
theorem dX0_payCharge_98 : decode cX0_payCharge 98 = .ok (.aload_n 0, 1) := by decide +kernel
theorem dX0_payCharge_99 : decode cX0_payCharge 99 = .ok (.getfield 9, 3) := by decide +kernel
theorem dX0_payCharge_102 : decode cX0_payCharge 102 = .ok (.dup, 1) := by decide +kernel
theorem dX0_payCharge_103 : decode cX0_payCharge 103 = .ok (.getfield 71, 3) := by decide +kernel
theorem dX0_payCharge_106 : decode cX0_payCharge 106 = .ok (.iload_n 2, 1) := by decide +kernel
theorem dX0_payCharge_107 : decode cX0_payCharge 107 = .ok (.iload 4, 2) := by decide +kernel
theorem dX0_payCharge_109 : decode cX0_payCharge 109 = .ok (.isub, 1) := by decide +kernel
theorem dX0_payCharge_110 : decode cX0_payCharge 110 = .ok (.iadd, 1) := by decide +kernel
theorem dX0_payCharge_111 : decode cX0_payCharge 111 = .ok (.putfield 71, 3) := by decide +kernel
theorem dX0_payCharge_114 : decode cX0_payCharge 114 = .ok (.return_, 1) := by decide +kernel
theorem dX0_changeTime_0 : decode cX0_changeTime 0 = .ok (.aload_n 0, 1) := by decide +kernel
theorem dX0_changeTime_1 : decode cX0_changeTime 1 = .ok (.getfield 25, 3) := by decide +kernel
theorem dX0_changeTime_4 : decode cX0_changeTime 4 = .ok (.iload_n 1, 1) := by decide +kernel
theorem dX0_changeTime_5 : decode cX0_changeTime 5 = .ok (.invokevirtual 52, 3) := by decide +kernel
theorem dX0_changeTime_8 : decode cX0_changeTime 8 = .ok (.ifCond .eq 14, 3) := by decide +kernel
theorem dX0_changeTime_11 : decode cX0_changeTime 11 = .ok (.iload_n 2, 1) := by decide +kernel
theorem dX0_changeTime_12 : decode cX0_changeTime 12 = .ok (.iconst 0, 1) := by decide +kernel
theorem dX0_changeTime_13 : decode cX0_changeTime 13 = .ok (.sipush 720, 3) := by decide +kernel
theorem dX0_changeTime_16 : decode cX0_changeTime 16 = .ok (.invokestatic 34, 3) := by decide +kernel
theorem dX0_changeTime_19 : decode cX0_changeTime 19 = .ok (.ifCond .ne 5, 3) := by decide +kernel
theorem dX0_changeTime_22 : decode cX0_changeTime 22 = .ok (.iconst (-1), 1) := by decide +kernel
theorem dX0_changeTime_23 : decode cX0_changeTime 23 = .ok (.ireturn, 1) := by decide +kernel
theorem dX0_changeTime_24 : decode cX0_changeTime 24 = .ok (.aload_n 0, 1) := by decide +kernel
theorem dX0_changeTime_25 : decode cX0_changeTime 25 = .ok (.getfield 25, 3) := by decide +kernel
theorem dX0_changeTime_28 : decode cX0_changeTime 28 = .ok (.iload_n 1, 1) := by decide +kernel
theorem dX0_changeTime_29 : decode cX0_changeTime 29 = .ok (.iconst 0, 1) := by decide +kernel
theorem dX0_changeTime_30 : decode cX0_changeTime 30 = .ok (.invokevirtual 56, 3) := by decide +kernel
theorem dX0_changeTime_33 : decode cX0_changeTime 33 = .ok (.istore_n 3, 1) := by decide +kernel
theorem dX0_changeTime_34 : decode cX0_changeTime 34 = .ok (.aload_n 0, 1) := by decide +kernel
theorem dX0_changeTime_35 : decode cX0_changeTime 35 = .ok (.getfield 9, 3) := by decide +kernel
theorem dX0_changeTime_38 : decode cX0_changeTime 38 = .ok (.iload_n 1, 1) := by decide +kernel
theorem dX0_changeTime_39 : decode cX0_changeTime 39 = .ok (.invokevirtual 89, 3) := by decide +kernel
theorem dX0_changeTime_42 : decode cX0_changeTime 42 = .ok (.ifCond .eq 16, 3) := by decide +kernel
theorem dX0_changeTime_45 : decode cX0_changeTime 45 = .ok (.aload_n 0, 1) := by decide +kernel
theorem dX0_changeTime_46 : decode cX0_changeTime 46 = .ok (.getfield 9, 3) := by decide +kernel
theorem dX0_changeTime_49 : decode cX0_changeTime 49 = .ok (.iload_n 3, 1) := by decide +kernel
theorem dX0_changeTime_50 : decode cX0_changeTime 50 = .ok (.iload_n 2, 1) := by decide +kernel
theorem dX0_changeTime_51 : decode cX0_changeTime 51 = .ok (.iload_n 1, 1) := by decide +kernel
theorem dX0_changeTime_52 : decode cX0_changeTime 52 = .ok (.invokevirtual 75, 3) := by decide +kernel
theorem dX0_changeTime_55 : decode cX0_changeTime 55 = .ok (.ifCond .ne 6, 3) := by decide +kernel
theorem dX0_changeTime_58 : decode cX0_changeTime 58 = .ok (.bipush (-2), 2) := by decide +kernel
theorem dX0_changeTime_60 : decode cX0_changeTime 60 = .ok (.ireturn, 1) := by decide +kernel
theorem dX0_changeTime_61 : decode cX0_changeTime 61 = .ok (.aload_n 0, 1) := by decide +kernel
theorem dX0_changeTime_62 : decode cX0_changeTime 62 = .ok (.getfield 25, 3) := by decide +kernel
theorem dX0_changeTime_65 : decode cX0_changeTime 65 = .ok (.iload_n 1, 1) := by decide +kernel
theorem dX0_changeTime_66 : decode cX0_changeTime 66 = .ok (.iconst 1, 1) := by decide +kernel
theorem dX0_changeTime_67 : decode cX0_changeTime 67 = .ok (.invokevirtual 56, 3) := by decide +kernel
theorem dX0_changeTime_70 : decode cX0_changeTime 70 = .ok (.istore 4, 2) := by decide +kernel
theorem dX0_changeTime_72 : decode cX0_changeTime 72 = .ok (.aload_n 0, 1) := by decide +kernel
theorem dX0_changeTime_73 : decode cX0_changeTime 73 = .ok (.getfield 25, 3) := by decide +kernel
theorem dX0_changeTime_76 : decode cX0_changeTime 76 = .ok (.iload_n 1, 1) := by decide +kernel
theorem dX0_changeTime_77 : decode cX0_changeTime 77 = .ok (.iconst 1, 1) := by decide +kernel
theorem dX0_changeTime_78 : decode cX0_changeTime 78 = .ok (.iload_n 2, 1) := by decide +kernel
theorem dX0_changeTime_79 : decode cX0_changeTime 79 = .ok (.invokevirtual 48, 3) := by decide +kernel
theorem dX0_changeTime_82 : decode cX0_changeTime 82 = .ok (.iload 4, 2) := by decide +kernel
theorem dX0_changeTime_84 : decode cX0_changeTime 84 = .ok (.ireturn, 1) := by decide +kernel
theorem dX0_callOff_0 : decode cX0_callOff 0 = .ok (.aload_n 0, 1) := by decide +kernel
theorem dX0_callOff_1 : decode cX0_callOff 1 = .ok (.getfield 25, 3) := by decide +kernel
theorem dX0_callOff_4 : decode cX0_callOff 4 = .ok (.iload_n 1, 1) := by decide +kernel
theorem dX0_callOff_5 : decode cX0_callOff 5 = .ok (.invokevirtual 52, 3) := by decide +kernel
theorem dX0_callOff_8 : decode cX0_callOff 8 = .ok (.ifCond .ne 5, 3) := by decide +kernel
theorem dX0_callOff_11 : decode cX0_callOff 11 = .ok (.iconst (-1), 1) := by decide +kernel
theorem dX0_callOff_12 : decode cX0_callOff 12 = .ok (.ireturn, 1) := by decide +kernel
theorem dX0_callOff_13 : decode cX0_callOff 13 = .ok (.aload_n 0, 1) := by decide +kernel
theorem dX0_callOff_14 : decode cX0_callOff 14 = .ok (.getfield 9, 3) := by decide +kernel
theorem dX0_callOff_17 : decode cX0_callOff 17 = .ok (.iload_n 1, 1) := by decide +kernel
theorem dX0_callOff_18 : decode cX0_callOff 18 = .ok (.invokevirtual 89, 3) := by decide +kernel
theorem dX0_callOff_21 : decode cX0_callOff 21 = .ok (.ifCond .ne 6, 3) := by decide +kernel
theorem dX0_callOff_24 : decode cX0_callOff 24 = .ok (.bipush (-2), 2) := by decide +kernel
theorem dX0_callOff_26 : decode cX0_callOff 26 = .ok (.ireturn, 1) := by decide +kernel
theorem dX0_callOff_27 : decode cX0_callOff 27 = .ok (.aload_n 0, 1) := by decide +kernel
theorem dX0_callOff_28 : decode cX0_callOff 28 = .ok (.getfield 9, 3) := by decide +kernel
theorem dX0_callOff_31 : decode cX0_callOff 31 = .ok (.iload_n 1, 1) := by decide +kernel
theorem dX0_callOff_32 : decode cX0_callOff 32 = .ok (.invokevirtual 92, 3) := by decide +kernel
theorem dX0_callOff_35 : decode cX0_callOff 35 = .ok (.aload_n 0, 1) := by decide +kernel
theorem dX0_callOff_36 : decode cX0_callOff 36 = .ok (.getfield 25, 3) := by decide +kernel
theorem dX0_callOff_39 : decode cX0_callOff 39 = .ok (.iload_n 1, 1) := by decide +kernel
theorem dX0_callOff_40 : decode cX0_callOff 40 = .ok (.iconst 1, 1) := by decide +kernel
theorem dX0_callOff_41 : decode cX0_callOff 41 = .ok (.invokevirtual 56, 3) := by decide +kernel
theorem dX0_callOff_44 : decode cX0_callOff 44 = .ok (.isub, 1) := by decide +kernel
theorem dX0_callOff_45 : decode cX0_callOff 45 = .ok (.istore_n 2, 1) := by decide +kernel
theorem dX0_callOff_46 : decode cX0_callOff 46 = .ok (.aload_n 0, 1) := by decide +kernel
theorem dX0_callOff_47 : decode cX0_callOff 47 = .ok (.getfield 25, 3) := by decide +kernel
theorem dX0_callOff_50 : decode cX0_callOff 50 = .ok (.iload_n 1, 1) := by decide +kernel
theorem dX0_callOff_51 : decode cX0_callOff 51 = .ok (.iconst 5, 1) := by decide +kernel
theorem dX0_callOff_52 : decode cX0_callOff 52 = .ok (.invokevirtual 56, 3) := by decide +kernel
theorem dX0_callOff_55 : decode cX0_callOff 55 = .ok (.aload_n 0, 1) := by decide +kernel
theorem dX0_callOff_56 : decode cX0_callOff 56 = .ok (.getfield 9, 3) := by decide +kernel
theorem dX0_callOff_59 : decode cX0_callOff 59 = .ok (.iload_n 1, 1) := by decide +kernel
theorem dX0_callOff_60 : decode cX0_callOff 60 = .ok (.invokevirtual 95, 3) := by decide +kernel
theorem dX0_callOff_63 : decode cX0_callOff 63 = .ok (.iadd, 1) := by decide +kernel
theorem dX0_callOff_64 : decode cX0_callOff 64 = .ok (.istore_n 3, 1) := by decide +kernel
theorem dX0_callOff_65 : decode cX0_callOff 65 = .ok (.iload_n 2, 1) := by decide +kernel
theorem dX0_callOff_66 : decode cX0_callOff 66 = .ok (.aload_n 0, 1) := by decide +kernel
theorem dX0_callOff_67 : decode cX0_callOff 67 = .ok (.getfield 9, 3) := by decide +kernel
theorem dX0_callOff_70 : decode cX0_callOff 70 = .ok (.iconst 3, 1) := by decide +kernel
theorem dX0_callOff_71 : decode cX0_callOff 71 = .ok (.invokevirtual 64, 3) := by decide +kernel
theorem dX0_callOff_74 : decode cX0_callOff 74 = .ok (.if_icmp .le 7, 3) := by decide +kernel
theorem dX0_callOff_77 : decode cX0_callOff 77 = .ok (.iload_n 3, 1) := by decide +kernel
theorem dX0_callOff_78 : decode cX0_callOff 78 = .ok (.goto 6, 3) := by decide +kernel
theorem dX0_callOff_81 : decode cX0_callOff 81 = .ok (.iload_n 3, 1) := by decide +kernel
theorem dX0_callOff_82 : decode cX0_callOff 82 = .ok (.iconst 2, 1) := by decide +kernel
theorem dX0_callOff_83 : decode cX0_callOff 83 = .ok (.idiv, 1) := by decide +kernel
theorem dX0_callOff_84 : decode cX0_callOff 84 = .ok (.istore 4, 2) := by decide +kernel
theorem dX0_callOff_86 : decode cX0_callOff 86 = .ok (.aload_n 0, 1) := by decide +kernel
theorem dX0_callOff_87 : decode cX0_callOff 87 = .ok (.getfield 25, 3) := by decide +kernel
theorem dX0_callOff_90 : decode cX0_callOff 90 = .ok (.iload_n 1, 1) := by decide +kernel
theorem dX0_callOff_91 : decode cX0_callOff 91 = .ok (.iconst 3, 1) := by decide +kernel
theorem dX0_callOff_92 : decode cX0_callOff 92 = .ok (.iconst 2, 1) := by decide +kernel
theorem dX0_callOff_93 : decode cX0_callOff 93 = .ok (.invokevirtual 48, 3) := by decide +kernel
theorem dX0_callOff_96 : decode cX0_callOff 96 = .ok (.aload_n 0, 1) := by decide +kernel
theorem dX0_callOff_97 : decode cX0_callOff 97 = .ok (.iload_n 1, 1) := by decide +kernel
theorem dX0_callOff_98 : decode cX0_callOff 98 = .ok (.iload 4, 2) := by decide +kernel
theorem dX0_callOff_100 : decode cX0_callOff 100 = .ok (.invokevirtual 98, 3) := by decide +kernel
theorem dX0_callOff_103 : decode cX0_callOff 103 = .ok (.iload 4, 2) := by decide +kernel
theorem dX0_callOff_105 : decode cX0_callOff 105 = .ok (.ireturn, 1) := by decide +kernel
theorem dX0_refund_0 : decode cX0_refund 0 = .ok (.iload_n 2, 1) := by decide +kernel
theorem dX0_refund_1 : decode cX0_refund 1 = .ok (.aload_n 0, 1) := by decide +kernel
theorem dX0_refund_2 : decode cX0_refund 2 = .ok (.getfield 25, 3) := by decide +kernel
theorem dX0_refund_5 : decode cX0_refund 5 = .ok (.iload_n 1, 1) := by decide +kernel
theorem dX0_refund_6 : decode cX0_refund 6 = .ok (.iconst 5, 1) := by decide +kernel
theorem dX0_refund_7 : decode cX0_refund 7 = .ok (.invokevirtual 56, 3) := by decide +kernel
theorem dX0_refund_10 : decode cX0_refund 10 = .ok (.invokestatic 81, 3) := by decide +kernel
theorem dX0_refund_13 : decode cX0_refund 13 = .ok (.istore_n 3, 1) := by decide +kernel
theorem dX0_refund_14 : decode cX0_refund 14 = .ok (.aload_n 0, 1) := by decide +kernel
theorem dX0_refund_15 : decode cX0_refund 15 = .ok (.getfield 25, 3) := by decide +kernel
theorem dX0_refund_18 : decode cX0_refund 18 = .ok (.iload_n 1, 1) := by decide +kernel
theorem dX0_refund_19 : decode cX0_refund 19 = .ok (.iconst 5, 1) := by decide +kernel
theorem dX0_refund_20 : decode cX0_refund 20 = .ok (.iload_n 3, 1) := by decide +kernel
theorem dX0_refund_21 : decode cX0_refund 21 = .ok (.ineg, 1) := by decide +kernel
theorem dX0_refund_22 : decode cX0_refund 22 = .ok (.invokevirtual 86, 3) := by decide +kernel
theorem dX0_refund_25 : decode cX0_refund 25 = .ok (.aload_n 0, 1) := by decide +kernel
theorem dX0_refund_26 : decode cX0_refund 26 = .ok (.getfield 9, 3) := by decide +kernel
theorem dX0_refund_29 : decode cX0_refund 29 = .ok (.dup, 1) := by decide +kernel
theorem dX0_refund_30 : decode cX0_refund 30 = .ok (.getfield 71, 3) := by decide +kernel
theorem dX0_refund_33 : decode cX0_refund 33 = .ok (.iload_n 3, 1) := by decide +kernel
theorem dX0_refund_34 : decode cX0_refund 34 = .ok (.isub, 1) := by decide +kernel
theorem dX0_refund_35 : decode cX0_refund 35 = .ok (.putfield 71, 3) := by decide +kernel
theorem dX0_refund_38 : decode cX0_refund 38 = .ok (.iload_n 2, 1) := by decide +kernel
theorem dX0_refund_39 : decode cX0_refund 39 = .ok (.iload_n 3, 1) := by decide +kernel
theorem dX0_refund_40 : decode cX0_refund 40 = .ok (.isub, 1) := by decide +kernel
theorem dX0_refund_41 : decode cX0_refund 41 = .ok (.istore 4, 2) := by decide +kernel
theorem dX0_refund_43 : decode cX0_refund 43 = .ok (.bipush 15, 2) := by decide +kernel
theorem dX0_refund_45 : decode cX0_refund 45 = .ok (.istore 5, 2) := by decide +kernel
theorem dX0_refund_47 : decode cX0_refund 47 = .ok (.iload 5, 2) := by decide +kernel
theorem dX0_refund_49 : decode cX0_refund 49 = .ok (.ifCond .lt 35, 3) := by decide +kernel
theorem dX0_refund_52 : decode cX0_refund 52 = .ok (.iload 4, 2) := by decide +kernel
theorem dX0_refund_54 : decode cX0_refund 54 = .ok (.ifCond .le 30, 3) := by decide +kernel
theorem dX0_refund_57 : decode cX0_refund 57 = .ok (.iload 4, 2) := by decide +kernel
theorem dX0_refund_59 : decode cX0_refund 59 = .ok (.aload_n 0, 1) := by decide +kernel
theorem dX0_refund_60 : decode cX0_refund 60 = .ok (.aload_n 0, 1) := by decide +kernel
theorem dX0_refund_61 : decode cX0_refund 61 = .ok (.getfield 9, 3) := by decide +kernel
theorem dX0_refund_64 : decode cX0_refund 64 = .ok (.iload_n 1, 1) := by decide +kernel
theorem dX0_refund_65 : decode cX0_refund 65 = .ok (.iload 5, 2) := by decide +kernel
theorem dX0_refund_67 : decode cX0_refund 67 = .ok (.invokevirtual 102, 3) := by decide +kernel
theorem dX0_refund_70 : decode cX0_refund 70 = .ok (.iload 4, 2) := by decide +kernel
theorem dX0_refund_72 : decode cX0_refund 72 = .ok (.invokevirtual 105, 3) := by decide +kernel
theorem dX0_refund_75 : decode cX0_refund 75 = .ok (.isub, 1) := by decide +kernel
theorem dX0_refund_76 : decode cX0_refund 76 = .ok (.istore 4, 2) := by decide +kernel
theorem dX0_refund_78 : decode cX0_refund 78 = .ok (.iinc 5 (-1), 3) := by decide +kernel
theorem dX0_refund_81 : decode cX0_refund 81 = .ok (.goto (-34), 3) := by decide +kernel
theorem dX0_refund_84 : decode cX0_refund 84 = .ok (.aload_n 0, 1) := by decide +kernel
theorem dX0_refund_85 : decode cX0_refund 85 = .ok (.getfield 25, 3) := by decide +kernel
theorem dX0_refund_88 : decode cX0_refund 88 = .ok (.iload_n 1, 1) := by decide +kernel
theorem dX0_refund_89 : decode cX0_refund 89 = .ok (.bipush 7, 2) := by decide +kernel
theorem dX0_refund_91 : decode cX0_refund 91 = .ok (.iload_n 2, 1) := by decide +kernel
theorem dX0_refund_92 : decode cX0_refund 92 = .ok (.iload 4, 2) := by decide +kernel
theorem dX0_refund_94 : decode cX0_refund 94 = .ok (.isub, 1) := by decide +kernel
theorem dX0_refund_95 : decode cX0_refund 95 = .ok (.invokevirtual 86, 3) := by decide +kernel
theorem dX0_refund_98 : decode cX0_refund 98 = .ok (.return_, 1) := by decide +kernel
theorem dX0_refundPayment_0 : decode cX0_refundPayment 0 = .ok (.iload_n 2, 1) := by decide +kernel
theorem dX0_refundPayment_1 : decode cX0_refundPayment 1 = .ok (.aload_n 0, 1) := by decide +kernel
theorem dX0_refundPayment_2 : decode cX0_refundPayment 2 = .ok (.getfield 33, 3) := by decide +kernel
theorem dX0_refundPayment_5 : decode cX0_refundPayment 5 = .ok (.iload_n 1, 1) := by decide +kernel
theorem dX0_refundPayment_6 : decode cX0_refundPayment 6 = .ok (.iconst 2, 1) := by decide +kernel
theorem dX0_refundPayment_7 : decode cX0_refundPayment 7 = .ok (.invokevirtual 56, 3) := by decide +kernel
theorem dX0_refundPayment_10 : decode cX0_refundPayment 10 = .ok (.invokestatic 81, 3) := by decide +kernel
theorem dX0_refundPayment_13 : decode cX0_refundPayment 13 = .ok (.istore_n 3, 1) := by decide +kernel
theorem dX0_refundPayment_14 : decode cX0_refundPayment 14 = .ok (.iload_n 3, 1) := by decide +kernel
theorem dX0_refundPayment_15 : decode cX0_refundPayment 15 = .ok (.ifCond .le 32, 3) := by decide +kernel
theorem dX0_refundPayment_18 : decode cX0_refundPayment 18 = .ok (.aload_n 0, 1) := by decide +kernel
theorem dX0_refundPayment_19 : decode cX0_refundPayment 19 = .ok (.getfield 33, 3) := by decide +kernel
theorem dX0_refundPayment_22 : decode cX0_refundPayment 22 = .ok (.iload_n 1, 1) := by decide +kernel
theorem dX0_refundPayment_23 : decode cX0_refundPayment 23 = .ok (.iconst 2, 1) := by decide +kernel
theorem dX0_refundPayment_24 : decode cX0_refundPayment 24 = .ok (.iload_n 3, 1) := by decide +kernel
theorem dX0_refundPayment_25 : decode cX0_refundPayment 25 = .ok (.ineg, 1) := by decide +kernel
theorem dX0_refundPayment_26 : decode cX0_refundPayment 26 = .ok (.invokevirtual 86, 3) := by decide +kernel
theorem dX0_refundPayment_29 : decode cX0_refundPayment 29 = .ok (.aload_n 0, 1) := by decide +kernel
theorem dX0_refundPayment_30 : decode cX0_refundPayment 30 = .ok (.getfield 29, 3) := by decide +kernel
theorem dX0_refundPayment_33 : decode cX0_refundPayment 33 = .ok (.aload_n 0, 1) := by decide +kernel
theorem dX0_refundPayment_34 : decode cX0_refundPayment 34 = .ok (.getfield 33, 3) := by decide +kernel
theorem dX0_refundPayment_37 : decode cX0_refundPayment 37 = .ok (.iload_n 1, 1) := by decide +kernel
theorem dX0_refundPayment_38 : decode cX0_refundPayment 38 = .ok (.iconst 1, 1) := by decide +kernel
theorem dX0_refundPayment_39 : decode cX0_refundPayment 39 = .ok (.invokevirtual 56, 3) := by decide +kernel
theorem dX0_refundPayment_42 : decode cX0_refundPayment 42 = .ok (.iconst 1, 1) := by decide +kernel
theorem dX0_refundPayment_43 : decode cX0_refundPayment 43 = .ok (.iload_n 3, 1) := by decide +kernel
theorem dX0_refundPayment_44 : decode cX0_refundPayment 44 = .ok (.invokevirtual 86, 3) := by decide +kernel
theorem dX0_refundPayment_47 : decode cX0_refundPayment 47 = .ok (.iload_n 3, 1) := by decide +kernel
theorem dX0_refundPayment_48 : decode cX0_refundPayment 48 = .ok (.ireturn, 1) := by decide +kernel
theorem dX0_joinTeams_0 : decode cX0_joinTeams 0 = .ok (.aload_n 0, 1) := by decide +kernel
theorem dX0_joinTeams_1 : decode cX0_joinTeams 1 = .ok (.getfield 25, 3) := by decide +kernel
theorem dX0_joinTeams_4 : decode cX0_joinTeams 4 = .ok (.iload_n 1, 1) := by decide +kernel
theorem dX0_joinTeams_5 : decode cX0_joinTeams 5 = .ok (.invokevirtual 52, 3) := by decide +kernel
theorem dX0_joinTeams_8 : decode cX0_joinTeams 8 = .ok (.ifCond .eq 19, 3) := by decide +kernel
theorem dX0_joinTeams_11 : decode cX0_joinTeams 11 = .ok (.aload_n 0, 1) := by decide +kernel
theorem dX0_joinTeams_12 : decode cX0_joinTeams 12 = .ok (.getfield 25, 3) := by decide +kernel
theorem dX0_joinTeams_15 : decode cX0_joinTeams 15 = .ok (.iload_n 2, 1) := by decide +kernel
theorem dX0_joinTeams_16 : decode cX0_joinTeams 16 = .ok (.invokevirtual 52, 3) := by decide +kernel
theorem dX0_joinTeams_19 : decode cX0_joinTeams 19 = .ok (.ifCond .eq 8, 3) := by decide +kernel
theorem dX0_joinTeams_22 : decode cX0_joinTeams 22 = .ok (.iload_n 1, 1) := by decide +kernel
theorem dX0_joinTeams_23 : decode cX0_joinTeams 23 = .ok (.iload_n 2, 1) := by decide +kernel
theorem dX0_joinTeams_24 : decode cX0_joinTeams 24 = .ok (.if_icmp .ne 5, 3) := by decide +kernel
theorem dX0_joinTeams_27 : decode cX0_joinTeams 27 = .ok (.iconst (-1), 1) := by decide +kernel
theorem dX0_joinTeams_28 : decode cX0_joinTeams 28 = .ok (.ireturn, 1) := by decide +kernel
theorem dX0_joinTeams_29 : decode cX0_joinTeams 29 = .ok (.aload_n 0, 1) := by decide +kernel
theorem dX0_joinTeams_30 : decode cX0_joinTeams 30 = .ok (.getfield 25, 3) := by decide +kernel
theorem dX0_joinTeams_33 : decode cX0_joinTeams 33 = .ok (.iload_n 2, 1) := by decide +kernel
theorem dX0_joinTeams_34 : decode cX0_joinTeams 34 = .ok (.iconst 0, 1) := by decide +kernel
theorem dX0_joinTeams_35 : decode cX0_joinTeams 35 = .ok (.invokevirtual 56, 3) := by decide +kernel
theorem dX0_joinTeams_38 : decode cX0_joinTeams 38 = .ok (.istore_n 3, 1) := by decide +kernel
theorem dX0_joinTeams_39 : decode cX0_joinTeams 39 = .ok (.aload_n 0, 1) := by decide +kernel
theorem dX0_joinTeams_40 : decode cX0_joinTeams 40 = .ok (.getfield 9, 3) := by decide +kernel
theorem dX0_joinTeams_43 : decode cX0_joinTeams 43 = .ok (.iload_n 1, 1) := by decide +kernel
theorem dX0_joinTeams_44 : decode cX0_joinTeams 44 = .ok (.invokevirtual 89, 3) := by decide +kernel
theorem dX0_joinTeams_47 : decode cX0_joinTeams 47 = .ok (.ifCond .eq 27, 3) := by decide +kernel
theorem dX0_joinTeams_50 : decode cX0_joinTeams 50 = .ok (.aload_n 0, 1) := by decide +kernel
theorem dX0_joinTeams_51 : decode cX0_joinTeams 51 = .ok (.getfield 9, 3) := by decide +kernel
theorem dX0_joinTeams_54 : decode cX0_joinTeams 54 = .ok (.iload_n 2, 1) := by decide +kernel
theorem dX0_joinTeams_55 : decode cX0_joinTeams 55 = .ok (.invokevirtual 89, 3) := by decide +kernel
theorem dX0_joinTeams_58 : decode cX0_joinTeams 58 = .ok (.ifCond .eq 16, 3) := by decide +kernel
theorem dX0_joinTeams_61 : decode cX0_joinTeams 61 = .ok (.aload_n 0, 1) := by decide +kernel
theorem dX0_joinTeams_62 : decode cX0_joinTeams 62 = .ok (.getfield 25, 3) := by decide +kernel
theorem dX0_joinTeams_65 : decode cX0_joinTeams 65 = .ok (.iload_n 1, 1) := by decide +kernel
theorem dX0_joinTeams_66 : decode cX0_joinTeams 66 = .ok (.iconst 0, 1) := by decide +kernel
theorem dX0_joinTeams_67 : decode cX0_joinTeams 67 = .ok (.invokevirtual 56, 3) := by decide +kernel
theorem dX0_joinTeams_70 : decode cX0_joinTeams 70 = .ok (.iload_n 3, 1) := by decide +kernel
theorem dX0_joinTeams_71 : decode cX0_joinTeams 71 = .ok (.if_icmp .eq 6, 3) := by decide +kernel
theorem dX0_joinTeams_74 : decode cX0_joinTeams 74 = .ok (.bipush (-2), 2) := by decide +kernel
theorem dX0_joinTeams_76 : decode cX0_joinTeams 76 = .ok (.ireturn, 1) := by decide +kernel
theorem dX0_joinTeams_77 : decode cX0_joinTeams 77 = .ok (.aload_n 0, 1) := by decide +kernel
theorem dX0_joinTeams_78 : decode cX0_joinTeams 78 = .ok (.getfield 25, 3) := by decide +kernel
theorem dX0_joinTeams_81 : decode cX0_joinTeams 81 = .ok (.iload_n 1, 1) := by decide +kernel
theorem dX0_joinTeams_82 : decode cX0_joinTeams 82 = .ok (.iconst 2, 1) := by decide +kernel
theorem dX0_joinTeams_83 : decode cX0_joinTeams 83 = .ok (.invokevirtual 56, 3) := by decide +kernel
theorem dX0_joinTeams_86 : decode cX0_joinTeams 86 = .ok (.aload_n 0, 1) := by decide +kernel
theorem dX0_joinTeams_87 : decode cX0_joinTeams 87 = .ok (.getfield 25, 3) := by decide +kernel
theorem dX0_joinTeams_90 : decode cX0_joinTeams 90 = .ok (.iload_n 2, 1) := by decide +kernel
theorem dX0_joinTeams_91 : decode cX0_joinTeams 91 = .ok (.iconst 2, 1) := by decide +kernel
theorem dX0_joinTeams_92 : decode cX0_joinTeams 92 = .ok (.invokevirtual 56, 3) := by decide +kernel
theorem dX0_joinTeams_95 : decode cX0_joinTeams 95 = .ok (.iadd, 1) := by decide +kernel
theorem dX0_joinTeams_96 : decode cX0_joinTeams 96 = .ok (.istore 4, 2) := by decide +kernel
theorem dX0_joinTeams_98 : decode cX0_joinTeams 98 = .ok (.iload 4, 2) := by decide +kernel
theorem dX0_joinTeams_100 : decode cX0_joinTeams 100 = .ok (.aload_n 0, 1) := by decide +kernel
theorem dX0_joinTeams_101 : decode cX0_joinTeams 101 = .ok (.getfield 21, 3) := by decide +kernel
theorem dX0_joinTeams_104 : decode cX0_joinTeams 104 = .ok (.iload_n 3, 1) := by decide +kernel
theorem dX0_joinTeams_105 : decode cX0_joinTeams 105 = .ok (.iconst 3, 1) := by decide +kernel
theorem dX0_joinTeams_106 : decode cX0_joinTeams 106 = .ok (.invokevirtual 56, 3) := by decide +kernel
theorem dX0_joinTeams_109 : decode cX0_joinTeams 109 = .ok (.if_icmp .le 6, 3) := by decide +kernel
theorem dX0_joinTeams_112 : decode cX0_joinTeams 112 = .ok (.bipush (-3), 2) := by decide +kernel
theorem dX0_joinTeams_114 : decode cX0_joinTeams 114 = .ok (.ireturn, 1) := by decide +kernel
theorem dX0_joinTeams_115 : decode cX0_joinTeams 115 = .ok (.aload_n 0, 1) := by decide +kernel
theorem dX0_joinTeams_116 : decode cX0_joinTeams 116 = .ok (.iload_n 1, 1) := by decide +kernel
theorem dX0_joinTeams_117 : decode cX0_joinTeams 117 = .ok (.iload_n 2, 1) := by decide +kernel
theorem dX0_joinTeams_118 : decode cX0_joinTeams 118 = .ok (.iconst 2, 1) := by decide +kernel
theorem dX0_joinTeams_119 : decode cX0_joinTeams 119 = .ok (.invokevirtual 108, 3) := by decide +kernel
theorem dX0_joinTeams_122 : decode cX0_joinTeams 122 = .ok (.aload_n 0, 1) := by decide +kernel
theorem dX0_joinTeams_123 : decode cX0_joinTeams 123 = .ok (.iload_n 1, 1) := by decide +kernel
theorem dX0_joinTeams_124 : decode cX0_joinTeams 124 = .ok (.iload_n 2, 1) := by decide +kernel
theorem dX0_joinTeams_125 : decode cX0_joinTeams 125 = .ok (.iconst 4, 1) := by decide +kernel
theorem dX0_joinTeams_126 : decode cX0_joinTeams 126 = .ok (.invokevirtual 108, 3) := by decide +kernel
theorem dX0_joinTeams_129 : decode cX0_joinTeams 129 = .ok (.aload_n 0, 1) := by decide +kernel
theorem dX0_joinTeams_130 : decode cX0_joinTeams 130 = .ok (.iload_n 1, 1) := by decide +kernel
theorem dX0_joinTeams_131 : decode cX0_joinTeams 131 = .ok (.iload_n 2, 1) := by decide +kernel
theorem dX0_joinTeams_132 : decode cX0_joinTeams 132 = .ok (.iconst 5, 1) := by decide +kernel
theorem dX0_joinTeams_133 : decode cX0_joinTeams 133 = .ok (.invokevirtual 108, 3) := by decide +kernel
theorem dX0_joinTeams_136 : decode cX0_joinTeams 136 = .ok (.aload_n 0, 1) := by decide +kernel
theorem dX0_joinTeams_137 : decode cX0_joinTeams 137 = .ok (.iload_n 1, 1) := by decide +kernel
theorem dX0_joinTeams_138 : decode cX0_joinTeams 138 = .ok (.iload_n 2, 1) := by decide +kernel
theorem dX0_joinTeams_139 : decode cX0_joinTeams 139 = .ok (.invokevirtual 111, 3) := by decide +kernel
theorem dX0_joinTeams_142 : decode cX0_joinTeams 142 = .ok (.aload_n 0, 1) := by decide +kernel
theorem dX0_joinTeams_143 : decode cX0_joinTeams 143 = .ok (.getfield 25, 3) := by decide +kernel
theorem dX0_joinTeams_146 : decode cX0_joinTeams 146 = .ok (.iload_n 1, 1) := by decide +kernel
theorem dX0_joinTeams_147 : decode cX0_joinTeams 147 = .ok (.iconst 3, 1) := by decide +kernel
theorem dX0_joinTeams_148 : decode cX0_joinTeams 148 = .ok (.iconst 3, 1) := by decide +kernel
theorem dX0_joinTeams_149 : decode cX0_joinTeams 149 = .ok (.invokevirtual 48, 3) := by decide +kernel
theorem dX0_joinTeams_152 : decode cX0_joinTeams 152 = .ok (.iload 4, 2) := by decide +kernel
theorem dX0_joinTeams_154 : decode cX0_joinTeams 154 = .ok (.ireturn, 1) := by decide +kernel
theorem dX0_handOver_0 : decode cX0_handOver 0 = .ok (.aload_n 0, 1) := by decide +kernel
theorem dX0_handOver_1 : decode cX0_handOver 1 = .ok (.getfield 25, 3) := by decide +kernel
theorem dX0_handOver_4 : decode cX0_handOver 4 = .ok (.iload_n 2, 1) := by decide +kernel
theorem dX0_handOver_5 : decode cX0_handOver 5 = .ok (.iload_n 3, 1) := by decide +kernel
theorem dX0_handOver_6 : decode cX0_handOver 6 = .ok (.aload_n 0, 1) := by decide +kernel
theorem dX0_handOver_7 : decode cX0_handOver 7 = .ok (.getfield 25, 3) := by decide +kernel
theorem dX0_handOver_10 : decode cX0_handOver 10 = .ok (.iload_n 1, 1) := by decide +kernel
theorem dX0_handOver_11 : decode cX0_handOver 11 = .ok (.iload_n 3, 1) := by decide +kernel
theorem dX0_handOver_12 : decode cX0_handOver 12 = .ok (.invokevirtual 56, 3) := by decide +kernel
theorem dX0_handOver_15 : decode cX0_handOver 15 = .ok (.invokevirtual 86, 3) := by decide +kernel
theorem dX0_handOver_18 : decode cX0_handOver 18 = .ok (.aload_n 0, 1) := by decide +kernel
theorem dX0_handOver_19 : decode cX0_handOver 19 = .ok (.getfield 25, 3) := by decide +kernel
theorem dX0_handOver_22 : decode cX0_handOver 22 = .ok (.iload_n 1, 1) := by decide +kernel
theorem dX0_handOver_23 : decode cX0_handOver 23 = .ok (.iload_n 3, 1) := by decide +kernel
theorem dX0_handOver_24 : decode cX0_handOver 24 = .ok (.iconst 0, 1) := by decide +kernel
theorem dX0_handOver_25 : decode cX0_handOver 25 = .ok (.invokevirtual 48, 3) := by decide +kernel
theorem dX0_handOver_28 : decode cX0_handOver 28 = .ok (.return_, 1) := by decide +kernel
theorem dX0_handOverPayments_0 : decode cX0_handOverPayments 0 = .ok (.aload_n 0, 1) := by decide +kernel
theorem dX0_handOverPayments_1 : decode cX0_handOverPayments 1 = .ok (.getfield 9, 3) := by decide +kernel
theorem dX0_handOverPayments_4 : decode cX0_handOverPayments 4 = .ok (.iload_n 2, 1) := by decide +kernel
theorem dX0_handOverPayments_5 : decode cX0_handOverPayments 5 = .ok (.invokevirtual 114, 3) := by decide +kernel
theorem dX0_handOverPayments_8 : decode cX0_handOverPayments 8 = .ok (.istore_n 3, 1) := by decide +kernel
theorem dX0_handOverPayments_9 : decode cX0_handOverPayments 9 = .ok (.iconst 0, 1) := by decide +kernel
theorem dX0_handOverPayments_10 : decode cX0_handOverPayments 10 = .ok (.istore 4, 2) := by decide +kernel
theorem dX0_handOverPayments_12 : decode cX0_handOverPayments 12 = .ok (.iload 4, 2) := by decide +kernel
theorem dX0_handOverPayments_14 : decode cX0_handOverPayments 14 = .ok (.aload_n 0, 1) := by decide +kernel
theorem dX0_handOverPayments_15 : decode cX0_handOverPayments 15 = .ok (.getfield 33, 3) := by decide +kernel
theorem dX0_handOverPayments_18 : decode cX0_handOverPayments 18 = .ok (.invokevirtual 117, 3) := by decide +kernel
theorem dX0_handOverPayments_21 : decode cX0_handOverPayments 21 = .ok (.if_icmp .ge 45, 3) := by decide +kernel
theorem dX0_handOverPayments_24 : decode cX0_handOverPayments 24 = .ok (.aload_n 0, 1) := by decide +kernel
theorem dX0_handOverPayments_25 : decode cX0_handOverPayments 25 = .ok (.getfield 33, 3) := by decide +kernel
theorem dX0_handOverPayments_28 : decode cX0_handOverPayments 28 = .ok (.iload 4, 2) := by decide +kernel
theorem dX0_handOverPayments_30 : decode cX0_handOverPayments 30 = .ok (.iconst 0, 1) := by decide +kernel
theorem dX0_handOverPayments_31 : decode cX0_handOverPayments 31 = .ok (.invokevirtual 56, 3) := by decide +kernel
theorem dX0_handOverPayments_34 : decode cX0_handOverPayments 34 = .ok (.iload_n 1, 1) := by decide +kernel
theorem dX0_handOverPayments_35 : decode cX0_handOverPayments 35 = .ok (.if_icmp .ne 25, 3) := by decide +kernel
theorem dX0_handOverPayments_38 : decode cX0_handOverPayments 38 = .ok (.aload_n 0, 1) := by decide +kernel
theorem dX0_handOverPayments_39 : decode cX0_handOverPayments 39 = .ok (.getfield 33, 3) := by decide +kernel
theorem dX0_handOverPayments_42 : decode cX0_handOverPayments 42 = .ok (.iload 4, 2) := by decide +kernel
theorem dX0_handOverPayments_44 : decode cX0_handOverPayments 44 = .ok (.iconst 0, 1) := by decide +kernel
theorem dX0_handOverPayments_45 : decode cX0_handOverPayments 45 = .ok (.iload_n 2, 1) := by decide +kernel
theorem dX0_handOverPayments_46 : decode cX0_handOverPayments 46 = .ok (.invokevirtual 48, 3) := by decide +kernel
theorem dX0_handOverPayments_49 : decode cX0_handOverPayments 49 = .ok (.aload_n 0, 1) := by decide +kernel
theorem dX0_handOverPayments_50 : decode cX0_handOverPayments 50 = .ok (.getfield 33, 3) := by decide +kernel
theorem dX0_handOverPayments_53 : decode cX0_handOverPayments 53 = .ok (.iload 4, 2) := by decide +kernel
theorem dX0_handOverPayments_55 : decode cX0_handOverPayments 55 = .ok (.iconst 3, 1) := by decide +kernel
theorem dX0_handOverPayments_56 : decode cX0_handOverPayments 56 = .ok (.iload_n 3, 1) := by decide +kernel
theorem dX0_handOverPayments_57 : decode cX0_handOverPayments 57 = .ok (.invokevirtual 86, 3) := by decide +kernel
theorem dX0_handOverPayments_60 : decode cX0_handOverPayments 60 = .ok (.iinc 4 1, 3) := by decide +kernel
theorem dX0_handOverPayments_63 : decode cX0_handOverPayments 63 = .ok (.goto (-51), 3) := by decide +kernel
theorem dX0_handOverPayments_66 : decode cX0_handOverPayments 66 = .ok (.return_, 1) := by decide +kernel
theorem dX0_letPlay_0 : decode cX0_letPlay 0 = .ok (.aload_n 0, 1) := by decide +kernel
theorem dX0_letPlay_1 : decode cX0_letPlay 1 = .ok (.getfield 25, 3) := by decide +kernel
theorem dX0_letPlay_4 : decode cX0_letPlay 4 = .ok (.iload_n 1, 1) := by decide +kernel
theorem dX0_letPlay_5 : decode cX0_letPlay 5 = .ok (.iconst 0, 1) := by decide +kernel
theorem dX0_letPlay_6 : decode cX0_letPlay 6 = .ok (.invokevirtual 56, 3) := by decide +kernel
theorem dX0_letPlay_9 : decode cX0_letPlay 9 = .ok (.istore 5, 2) := by decide +kernel
theorem dX0_letPlay_11 : decode cX0_letPlay 11 = .ok (.aload_n 0, 1) := by decide +kernel
theorem dX0_letPlay_12 : decode cX0_letPlay 12 = .ok (.getfield 25, 3) := by decide +kernel
theorem dX0_letPlay_15 : decode cX0_letPlay 15 = .ok (.iload_n 1, 1) := by decide +kernel
theorem dX0_letPlay_16 : decode cX0_letPlay 16 = .ok (.invokevirtual 52, 3) := by decide +kernel
theorem dX0_letPlay_19 : decode cX0_letPlay 19 = .ok (.ifCond .eq 42, 3) := by decide +kernel
theorem dX0_letPlay_22 : decode cX0_letPlay 22 = .ok (.iload_n 2, 1) := by decide +kernel
theorem dX0_letPlay_23 : decode cX0_letPlay 23 = .ok (.iconst 0, 1) := by decide +kernel
theorem dX0_letPlay_24 : decode cX0_letPlay 24 = .ok (.aload_n 0, 1) := by decide +kernel
theorem dX0_letPlay_25 : decode cX0_letPlay 25 = .ok (.getfield 21, 3) := by decide +kernel
theorem dX0_letPlay_28 : decode cX0_letPlay 28 = .ok (.iload 5, 2) := by decide +kernel
theorem dX0_letPlay_30 : decode cX0_letPlay 30 = .ok (.iconst 0, 1) := by decide +kernel
theorem dX0_letPlay_31 : decode cX0_letPlay 31 = .ok (.invokevirtual 56, 3) := by decide +kernel
theorem dX0_letPlay_34 : decode cX0_letPlay 34 = .ok (.invokestatic 34, 3) := by decide +kernel
theorem dX0_letPlay_37 : decode cX0_letPlay 37 = .ok (.ifCond .eq 24, 3) := by decide +kernel
theorem dX0_letPlay_40 : decode cX0_letPlay 40 = .ok (.iload_n 3, 1) := by decide +kernel
theorem dX0_letPlay_41 : decode cX0_letPlay 41 = .ok (.iconst 0, 1) := by decide +kernel
theorem dX0_letPlay_42 : decode cX0_letPlay 42 = .ok (.bipush 20, 2) := by decide +kernel
theorem dX0_letPlay_44 : decode cX0_letPlay 44 = .ok (.invokestatic 34, 3) := by decide +kernel
theorem dX0_letPlay_47 : decode cX0_letPlay 47 = .ok (.ifCond .eq 14, 3) := by decide +kernel
theorem dX0_letPlay_50 : decode cX0_letPlay 50 = .ok (.iload 4, 2) := by decide +kernel
theorem dX0_letPlay_52 : decode cX0_letPlay 52 = .ok (.iconst 0, 1) := by decide +kernel
theorem dX0_letPlay_53 : decode cX0_letPlay 53 = .ok (.bipush 9, 2) := by decide +kernel
theorem dX0_letPlay_55 : decode cX0_letPlay 55 = .ok (.invokestatic 34, 3) := by decide +kernel
theorem dX0_letPlay_58 : decode cX0_letPlay 58 = .ok (.ifCond .ne 5, 3) := by decide +kernel
theorem dX0_letPlay_61 : decode cX0_letPlay 61 = .ok (.iconst (-1), 1) := by decide +kernel
theorem dX0_letPlay_62 : decode cX0_letPlay 62 = .ok (.ireturn, 1) := by decide +kernel
theorem dX0_letPlay_63 : decode cX0_letPlay 63 = .ok (.aload_n 0, 1) := by decide +kernel
theorem dX0_letPlay_64 : decode cX0_letPlay 64 = .ok (.getfield 9, 3) := by decide +kernel
theorem dX0_letPlay_67 : decode cX0_letPlay 67 = .ok (.iload_n 1, 1) := by decide +kernel
theorem dX0_letPlay_68 : decode cX0_letPlay 68 = .ok (.invokevirtual 89, 3) := by decide +kernel
theorem dX0_letPlay_71 : decode cX0_letPlay 71 = .ok (.ifCond .eq 17, 3) := by decide +kernel
theorem dX0_letPlay_74 : decode cX0_letPlay 74 = .ok (.aload_n 0, 1) := by decide +kernel
theorem dX0_letPlay_75 : decode cX0_letPlay 75 = .ok (.getfield 9, 3) := by decide +kernel
theorem dX0_letPlay_78 : decode cX0_letPlay 78 = .ok (.iload 5, 2) := by decide +kernel
theorem dX0_letPlay_80 : decode cX0_letPlay 80 = .ok (.iconst (-1), 1) := by decide +kernel
theorem dX0_letPlay_81 : decode cX0_letPlay 81 = .ok (.invokevirtual 120, 3) := by decide +kernel
theorem dX0_letPlay_84 : decode cX0_letPlay 84 = .ok (.iload_n 1, 1) := by decide +kernel
theorem dX0_letPlay_85 : decode cX0_letPlay 85 = .ok (.if_icmp .eq 6, 3) := by decide +kernel
theorem dX0_letPlay_88 : decode cX0_letPlay 88 = .ok (.bipush (-2), 2) := by decide +kernel
theorem dX0_letPlay_90 : decode cX0_letPlay 90 = .ok (.ireturn, 1) := by decide +kernel
theorem dX0_letPlay_91 : decode cX0_letPlay 91 = .ok (.aload_n 0, 1) := by decide +kernel
theorem dX0_letPlay_92 : decode cX0_letPlay 92 = .ok (.getfield 21, 3) := by decide +kernel
theorem dX0_letPlay_95 : decode cX0_letPlay 95 = .ok (.iload 5, 2) := by decide +kernel
theorem dX0_letPlay_97 : decode cX0_letPlay 97 = .ok (.iconst 0, 1) := by decide +kernel
theorem dX0_letPlay_98 : decode cX0_letPlay 98 = .ok (.invokevirtual 56, 3) := by decide +kernel
theorem dX0_letPlay_101 : decode cX0_letPlay 101 = .ok (.istore 6, 2) := by decide +kernel
theorem dX0_letPlay_103 : decode cX0_letPlay 103 = .ok (.iload 6, 2) := by decide +kernel
theorem dX0_letPlay_105 : decode cX0_letPlay 105 = .ok (.aload_n 0, 1) := by decide +kernel
theorem dX0_letPlay_106 : decode cX0_letPlay 106 = .ok (.getfield 9, 3) := by decide +kernel
theorem dX0_letPlay_109 : decode cX0_letPlay 109 = .ok (.iconst 1, 1) := by decide +kernel
theorem dX0_letPlay_110 : decode cX0_letPlay 110 = .ok (.invokevirtual 64, 3) := by decide +kernel
theorem dX0_letPlay_113 : decode cX0_letPlay 113 = .ok (.iadd, 1) := by decide +kernel
theorem dX0_letPlay_114 : decode cX0_letPlay 114 = .ok (.istore 7, 2) := by decide +kernel
theorem dX0_letPlay_116 : decode cX0_letPlay 116 = .ok (.iload_n 2, 1) := by decide +kernel
theorem dX0_letPlay_117 : decode cX0_letPlay 117 = .ok (.iload_n 3, 1) := by decide +kernel
theorem dX0_letPlay_118 : decode cX0_letPlay 118 = .ok (.aload_n 0, 1) := by decide +kernel
theorem dX0_letPlay_119 : decode cX0_letPlay 119 = .ok (.getfield 9, 3) := by decide +kernel
theorem dX0_letPlay_122 : decode cX0_letPlay 122 = .ok (.iconst 0, 1) := by decide +kernel
theorem dX0_letPlay_123 : decode cX0_letPlay 123 = .ok (.invokevirtual 64, 3) := by decide +kernel
theorem dX0_letPlay_126 : decode cX0_letPlay 126 = .ok (.imul, 1) := by decide +kernel
theorem dX0_letPlay_127 : decode cX0_letPlay 127 = .ok (.iadd, 1) := by decide +kernel
theorem dX0_letPlay_128 : decode cX0_letPlay 128 = .ok (.istore 8, 2) := by decide +kernel
theorem dX0_letPlay_130 : decode cX0_letPlay 130 = .ok (.iload_n 2, 1) := by decide +kernel
theorem dX0_letPlay_131 : decode cX0_letPlay 131 = .ok (.ifCond .ne 8, 3) := by decide +kernel
theorem dX0_letPlay_134 : decode cX0_letPlay 134 = .ok (.iload 6, 2) := by decide +kernel
theorem dX0_letPlay_136 : decode cX0_letPlay 136 = .ok (.goto 10, 3) := by decide +kernel
theorem dX0_letPlay_139 : decode cX0_letPlay 139 = .ok (.iload 8, 2) := by decide +kernel
theorem dX0_letPlay_141 : decode cX0_letPlay 141 = .ok (.iload 7, 2) := by decide +kernel
theorem dX0_letPlay_143 : decode cX0_letPlay 143 = .ok (.invokestatic 81, 3) := by decide +kernel
theorem dX0_letPlay_146 : decode cX0_letPlay 146 = .ok (.istore 9, 2) := by decide +kernel
theorem dX0_letPlay_148 : decode cX0_letPlay 148 = .ok (.aload_n 0, 1) := by decide +kernel
theorem dX0_letPlay_149 : decode cX0_letPlay 149 = .ok (.getfield 21, 3) := by decide +kernel
theorem dX0_letPlay_152 : decode cX0_letPlay 152 = .ok (.iload 5, 2) := by decide +kernel
theorem dX0_letPlay_154 : decode cX0_letPlay 154 = .ok (.iconst 5, 1) := by decide +kernel
theorem dX0_letPlay_155 : decode cX0_letPlay 155 = .ok (.iconst 1, 1) := by decide +kernel
theorem dX0_letPlay_156 : decode cX0_letPlay 156 = .ok (.invokevirtual 86, 3) := by decide +kernel
theorem dX0_letPlay_159 : decode cX0_letPlay 159 = .ok (.aload_n 0, 1) := by decide +kernel
theorem dX0_letPlay_160 : decode cX0_letPlay 160 = .ok (.getfield 21, 3) := by decide +kernel
theorem dX0_letPlay_163 : decode cX0_letPlay 163 = .ok (.iload 5, 2) := by decide +kernel
theorem dX0_letPlay_165 : decode cX0_letPlay 165 = .ok (.bipush 6, 2) := by decide +kernel
theorem dX0_letPlay_167 : decode cX0_letPlay 167 = .ok (.iload_n 2, 1) := by decide +kernel
theorem dX0_letPlay_168 : decode cX0_letPlay 168 = .ok (.ifCond .le 14, 3) := by decide +kernel
theorem dX0_letPlay_171 : decode cX0_letPlay 171 = .ok (.iload 8, 2) := by decide +kernel
theorem dX0_letPlay_173 : decode cX0_letPlay 173 = .ok (.iload 7, 2) := by decide +kernel
theorem dX0_letPlay_175 : decode cX0_letPlay 175 = .ok (.if_icmp .gt 7, 3) := by decide +kernel
theorem dX0_letPlay_178 : decode cX0_letPlay 178 = .ok (.iconst 1, 1) := by decide +kernel
theorem dX0_letPlay_179 : decode cX0_letPlay 179 = .ok (.goto 4, 3) := by decide +kernel
theorem dX0_letPlay_182 : decode cX0_letPlay 182 = .ok (.iconst 0, 1) := by decide +kernel
theorem dX0_letPlay_183 : decode cX0_letPlay 183 = .ok (.invokevirtual 86, 3) := by decide +kernel
theorem dX0_letPlay_186 : decode cX0_letPlay 186 = .ok (.aload_n 0, 1) := by decide +kernel
theorem dX0_letPlay_187 : decode cX0_letPlay 187 = .ok (.getfield 21, 3) := by decide +kernel
theorem dX0_letPlay_190 : decode cX0_letPlay 190 = .ok (.iload 5, 2) := by decide +kernel
theorem dX0_letPlay_192 : decode cX0_letPlay 192 = .ok (.bipush 7, 2) := by decide +kernel
theorem dX0_letPlay_194 : decode cX0_letPlay 194 = .ok (.iload_n 3, 1) := by decide +kernel
theorem dX0_letPlay_195 : decode cX0_letPlay 195 = .ok (.invokevirtual 86, 3) := by decide +kernel
theorem dX0_letPlay_198 : decode cX0_letPlay 198 = .ok (.aload_n 0, 1) := by decide +kernel
theorem dX0_letPlay_199 : decode cX0_letPlay 199 = .ok (.getfield 21, 3) := by decide +kernel
theorem dX0_letPlay_202 : decode cX0_letPlay 202 = .ok (.iload 5, 2) := by decide +kernel
theorem dX0_letPlay_204 : decode cX0_letPlay 204 = .ok (.bipush 8, 2) := by decide +kernel
theorem dX0_letPlay_206 : decode cX0_letPlay 206 = .ok (.iload 9, 2) := by decide +kernel
theorem dX0_letPlay_208 : decode cX0_letPlay 208 = .ok (.invokevirtual 86, 3) := by decide +kernel
theorem dX0_letPlay_211 : decode cX0_letPlay 211 = .ok (.aload_n 0, 1) := by decide +kernel
theorem dX0_letPlay_212 : decode cX0_letPlay 212 = .ok (.getfield 21, 3) := by decide +kernel
theorem dX0_letPlay_215 : decode cX0_letPlay 215 = .ok (.iload 5, 2) := by decide +kernel
theorem dX0_letPlay_217 : decode cX0_letPlay 217 = .ok (.bipush 10, 2) := by decide +kernel
theorem dX0_letPlay_219 : decode cX0_letPlay 219 = .ok (.iload_n 2, 1) := by decide +kernel
theorem dX0_letPlay_220 : decode cX0_letPlay 220 = .ok (.ifCond .le 14, 3) := by decide +kernel
theorem dX0_letPlay_223 : decode cX0_letPlay 223 = .ok (.iload 8, 2) := by decide +kernel
theorem dX0_letPlay_225 : decode cX0_letPlay 225 = .ok (.iload 6, 2) := by decide +kernel
theorem dX0_letPlay_227 : decode cX0_letPlay 227 = .ok (.if_icmp .le 7, 3) := by decide +kernel
theorem dX0_letPlay_230 : decode cX0_letPlay 230 = .ok (.iconst 1, 1) := by decide +kernel
theorem dX0_letPlay_231 : decode cX0_letPlay 231 = .ok (.goto 4, 3) := by decide +kernel
theorem dX0_letPlay_234 : decode cX0_letPlay 234 = .ok (.iconst 0, 1) := by decide +kernel
theorem dX0_letPlay_235 : decode cX0_letPlay 235 = .ok (.invokevirtual 86, 3) := by decide +kernel
theorem dX0_letPlay_238 : decode cX0_letPlay 238 = .ok (.aload_n 0, 1) := by decide +kernel
theorem dX0_letPlay_239 : decode cX0_letPlay 239 = .ok (.iload_n 1, 1) := by decide +kernel
theorem dX0_letPlay_240 : decode cX0_letPlay 240 = .ok (.iload 9, 2) := by decide +kernel
theorem dX0_letPlay_242 : decode cX0_letPlay 242 = .ok (.iload 4, 2) := by decide +kernel
theorem dX0_letPlay_244 : decode cX0_letPlay 244 = .ok (.invokevirtual 123, 3) := by decide +kernel
theorem dX0_letPlay_247 : decode cX0_letPlay 247 = .ok (.istore 10, 2) := by decide +kernel
theorem dX0_letPlay_249 : decode cX0_letPlay 249 = .ok (.aload_n 0, 1) := by decide +kernel
theorem dX0_letPlay_250 : decode cX0_letPlay 250 = .ok (.iload_n 1, 1) := by decide +kernel
theorem dX0_letPlay_251 : decode cX0_letPlay 251 = .ok (.aload_n 0, 1) := by decide +kernel
theorem dX0_letPlay_252 : decode cX0_letPlay 252 = .ok (.getfield 9, 3) := by decide +kernel
theorem dX0_letPlay_255 : decode cX0_letPlay 255 = .ok (.iload_n 1, 1) := by decide +kernel
theorem dX0_letPlay_256 : decode cX0_letPlay 256 = .ok (.iload 10, 2) := by decide +kernel
theorem dX0_letPlay_258 : decode cX0_letPlay 258 = .ok (.invokevirtual 127, 3) := by decide +kernel
theorem dX0_letPlay_261 : decode cX0_letPlay 261 = .ok (.invokevirtual 98, 3) := by decide +kernel
theorem dX0_letPlay_264 : decode cX0_letPlay 264 = .ok (.iload 9, 2) := by decide +kernel
theorem dX0_letPlay_266 : decode cX0_letPlay 266 = .ok (.ireturn, 1) := by decide +kernel
theorem dX0_occupy_0 : decode cX0_occupy 0 = .ok (.aload_n 0, 1) := by decide +kernel
theorem dX0_occupy_1 : decode cX0_occupy 1 = .ok (.getfield 25, 3) := by decide +kernel
theorem dX0_occupy_4 : decode cX0_occupy 4 = .ok (.iload_n 1, 1) := by decide +kernel
theorem dX0_occupy_5 : decode cX0_occupy 5 = .ok (.iconst 0, 1) := by decide +kernel
theorem dX0_occupy_6 : decode cX0_occupy 6 = .ok (.invokevirtual 56, 3) := by decide +kernel
theorem dX0_occupy_9 : decode cX0_occupy 9 = .ok (.istore 4, 2) := by decide +kernel
theorem dX0_occupy_11 : decode cX0_occupy 11 = .ok (.aload_n 0, 1) := by decide +kernel
theorem dX0_occupy_12 : decode cX0_occupy 12 = .ok (.getfield 25, 3) := by decide +kernel
theorem dX0_occupy_15 : decode cX0_occupy 15 = .ok (.iload_n 1, 1) := by decide +kernel
theorem dX0_occupy_16 : decode cX0_occupy 16 = .ok (.iconst 1, 1) := by decide +kernel
theorem dX0_occupy_17 : decode cX0_occupy 17 = .ok (.invokevirtual 56, 3) := by decide +kernel
theorem dX0_occupy_20 : decode cX0_occupy 20 = .ok (.istore 5, 2) := by decide +kernel
theorem dX0_occupy_22 : decode cX0_occupy 22 = .ok (.iload 5, 2) := by decide +kernel
theorem dX0_occupy_24 : decode cX0_occupy 24 = .ok (.aload_n 0, 1) := by decide +kernel
theorem dX0_occupy_25 : decode cX0_occupy 25 = .ok (.getfield 21, 3) := by decide +kernel
theorem dX0_occupy_28 : decode cX0_occupy 28 = .ok (.iload 4, 2) := by decide +kernel
theorem dX0_occupy_30 : decode cX0_occupy 30 = .ok (.iconst 4, 1) := by decide +kernel
theorem dX0_occupy_31 : decode cX0_occupy 31 = .ok (.invokevirtual 56, 3) := by decide +kernel
theorem dX0_occupy_34 : decode cX0_occupy 34 = .ok (.invokestatic 130, 3) := by decide +kernel
theorem dX0_occupy_37 : decode cX0_occupy 37 = .ok (.istore 6, 2) := by decide +kernel
theorem dX0_occupy_39 : decode cX0_occupy 39 = .ok (.iload 6, 2) := by decide +kernel
theorem dX0_occupy_41 : decode cX0_occupy 41 = .ok (.iload 5, 2) := by decide +kernel
theorem dX0_occupy_43 : decode cX0_occupy 43 = .ok (.isub, 1) := by decide +kernel
theorem dX0_occupy_44 : decode cX0_occupy 44 = .ok (.istore 7, 2) := by decide +kernel
theorem dX0_occupy_46 : decode cX0_occupy 46 = .ok (.aload_n 0, 1) := by decide +kernel
theorem dX0_occupy_47 : decode cX0_occupy 47 = .ok (.getfield 21, 3) := by decide +kernel
theorem dX0_occupy_50 : decode cX0_occupy 50 = .ok (.iload 4, 2) := by decide +kernel
theorem dX0_occupy_52 : decode cX0_occupy 52 = .ok (.iconst 1, 1) := by decide +kernel
theorem dX0_occupy_53 : decode cX0_occupy 53 = .ok (.invokevirtual 56, 3) := by decide +kernel
theorem dX0_occupy_56 : decode cX0_occupy 56 = .ok (.iload_n 3, 1) := by decide +kernel
theorem dX0_occupy_57 : decode cX0_occupy 57 = .ok (.aload_n 0, 1) := by decide +kernel
theorem dX0_occupy_58 : decode cX0_occupy 58 = .ok (.getfield 9, 3) := by decide +kernel
theorem dX0_occupy_61 : decode cX0_occupy 61 = .ok (.iconst 2, 1) := by decide +kernel
theorem dX0_occupy_62 : decode cX0_occupy 62 = .ok (.invokevirtual 64, 3) := by decide +kernel
theorem dX0_occupy_65 : decode cX0_occupy 65 = .ok (.imul, 1) := by decide +kernel
theorem dX0_occupy_66 : decode cX0_occupy 66 = .ok (.iadd, 1) := by decide +kernel
theorem dX0_occupy_67 : decode cX0_occupy 67 = .ok (.istore 8, 2) := by decide +kernel
theorem dX0_occupy_69 : decode cX0_occupy 69 = .ok (.aload_n 0, 1) := by decide +kernel
theorem dX0_occupy_70 : decode cX0_occupy 70 = .ok (.getfield 21, 3) := by decide +kernel
theorem dX0_occupy_73 : decode cX0_occupy 73 = .ok (.iload 4, 2) := by decide +kernel
theorem dX0_occupy_75 : decode cX0_occupy 75 = .ok (.iconst 4, 1) := by decide +kernel
theorem dX0_occupy_76 : decode cX0_occupy 76 = .ok (.iload 6, 2) := by decide +kernel
theorem dX0_occupy_78 : decode cX0_occupy 78 = .ok (.iload_n 2, 1) := by decide +kernel
theorem dX0_occupy_79 : decode cX0_occupy 79 = .ok (.iadd, 1) := by decide +kernel
theorem dX0_occupy_80 : decode cX0_occupy 80 = .ok (.iload 8, 2) := by decide +kernel
theorem dX0_occupy_82 : decode cX0_occupy 82 = .ok (.iadd, 1) := by decide +kernel
theorem dX0_occupy_83 : decode cX0_occupy 83 = .ok (.invokevirtual 48, 3) := by decide +kernel
theorem dX0_occupy_86 : decode cX0_occupy 86 = .ok (.aload_n 0, 1) := by decide +kernel
theorem dX0_occupy_87 : decode cX0_occupy 87 = .ok (.getfield 21, 3) := by decide +kernel
theorem dX0_occupy_90 : decode cX0_occupy 90 = .ok (.iload 4, 2) := by decide +kernel
theorem dX0_occupy_92 : decode cX0_occupy 92 = .ok (.bipush 9, 2) := by decide +kernel
theorem dX0_occupy_94 : decode cX0_occupy 94 = .ok (.iload 7, 2) := by decide +kernel
theorem dX0_occupy_96 : decode cX0_occupy 96 = .ok (.aload_n 0, 1) := by decide +kernel
theorem dX0_occupy_97 : decode cX0_occupy 97 = .ok (.getfield 21, 3) := by decide +kernel
theorem dX0_occupy_100 : decode cX0_occupy 100 = .ok (.iload 4, 2) := by decide +kernel
theorem dX0_occupy_102 : decode cX0_occupy 102 = .ok (.bipush 9, 2) := by decide +kernel
theorem dX0_occupy_104 : decode cX0_occupy 104 = .ok (.invokevirtual 56, 3) := by decide +kernel
theorem dX0_occupy_107 : decode cX0_occupy 107 = .ok (.invokestatic 130, 3) := by decide +kernel
theorem dX0_occupy_110 : decode cX0_occupy 110 = .ok (.invokevirtual 48, 3) := by decide +kernel
theorem dX0_occupy_113 : decode cX0_occupy 113 = .ok (.aload_n 0, 1) := by decide +kernel
theorem dX0_occupy_114 : decode cX0_occupy 114 = .ok (.getfield 25, 3) := by decide +kernel
theorem dX0_occupy_117 : decode cX0_occupy 117 = .ok (.iload_n 1, 1) := by decide +kernel
theorem dX0_occupy_118 : decode cX0_occupy 118 = .ok (.iconst 3, 1) := by decide +kernel
theorem dX0_occupy_119 : decode cX0_occupy 119 = .ok (.iconst 1, 1) := by decide +kernel
theorem dX0_occupy_120 : decode cX0_occupy 120 = .ok (.invokevirtual 48, 3) := by decide +kernel
theorem dX0_occupy_123 : decode cX0_occupy 123 = .ok (.aload_n 0, 1) := by decide +kernel
theorem dX0_occupy_124 : decode cX0_occupy 124 = .ok (.getfield 25, 3) := by decide +kernel
theorem dX0_occupy_127 : decode cX0_occupy 127 = .ok (.iload_n 1, 1) := by decide +kernel
theorem dX0_occupy_128 : decode cX0_occupy 128 = .ok (.bipush 8, 2) := by decide +kernel
theorem dX0_occupy_130 : decode cX0_occupy 130 = .ok (.iload 6, 2) := by decide +kernel
theorem dX0_occupy_132 : decode cX0_occupy 132 = .ok (.invokevirtual 48, 3) := by decide +kernel
theorem dX0_occupy_135 : decode cX0_occupy 135 = .ok (.aload_n 0, 1) := by decide +kernel
theorem dX0_occupy_136 : decode cX0_occupy 136 = .ok (.getfield 25, 3) := by decide +kernel
theorem dX0_occupy_139 : decode cX0_occupy 139 = .ok (.iload_n 1, 1) := by decide +kernel
theorem dX0_occupy_140 : decode cX0_occupy 140 = .ok (.bipush 9, 2) := by decide +kernel
theorem dX0_occupy_142 : decode cX0_occupy 142 = .ok (.iload_n 2, 1) := by decide +kernel
theorem dX0_occupy_143 : decode cX0_occupy 143 = .ok (.invokevirtual 48, 3) := by decide +kernel
theorem dX0_occupy_146 : decode cX0_occupy 146 = .ok (.iload 7, 2) := by decide +kernel
theorem dX0_occupy_148 : decode cX0_occupy 148 = .ok (.ireturn, 1) := by decide +kernel
theorem dX1_init_0 : decode cX1_init 0 = .ok (.aload_n 0, 1) := by decide +kernel
theorem dX1_init_1 : decode cX1_init 1 = .ok (.invokespecial 3, 3) := by decide +kernel
theorem dX1_init_4 : decode cX1_init 4 = .ok (.aload_n 0, 1) := by decide +kernel
theorem dX1_init_5 : decode cX1_init 5 = .ok (.bipush 6, 2) := by decide +kernel
theorem dX1_init_7 : decode cX1_init 7 = .ok (.anewarray 9, 3) := by decide +kernel
theorem dX1_init_10 : decode cX1_init 10 = .ok (.putfield 11, 3) := by decide +kernel
theorem dX1_init_13 : decode cX1_init 13 = .ok (.iconst 0, 1) := by decide +kernel
theorem dX1_init_14 : decode cX1_init 14 = .ok (.istore_n 1, 1) := by decide +kernel
theorem dX1_init_15 : decode cX1_init 15 = .ok (.iload_n 1, 1) := by decide +kernel
theorem dX1_init_16 : decode cX1_init 16 = .ok (.aload_n 0, 1) := by decide +kernel
theorem dX1_init_17 : decode cX1_init 17 = .ok (.getfield 11, 3) := by decide +kernel
theorem dX1_init_20 : decode cX1_init 20 = .ok (.arraylength, 1) := by decide +kernel
theorem dX1_init_21 : decode cX1_init 21 = .ok (.if_icmp .ge 22, 3) := by decide +kernel
theorem dX1_init_24 : decode cX1_init 24 = .ok (.aload_n 0, 1) := by decide +kernel
theorem dX1_init_25 : decode cX1_init 25 = .ok (.getfield 11, 3) := by decide +kernel
theorem dX1_init_28 : decode cX1_init 28 = .ok (.iload_n 1, 1) := by decide +kernel
theorem dX1_init_29 : decode cX1_init 29 = .ok (.new 9, 3) := by decide +kernel
theorem dX1_init_32 : decode cX1_init 32 = .ok (.dup, 1) := by decide +kernel
theorem dX1_init_33 : decode cX1_init 33 = .ok (.invokespecial 17, 3) := by decide +kernel
theorem dX1_init_36 : decode cX1_init 36 = .ok (.aastore, 1) := by decide +kernel
theorem dX1_init_37 : decode cX1_init 37 = .ok (.iinc 1 1, 3) := by decide +kernel
theorem dX1_init_40 : decode cX1_init 40 = .ok (.goto (-25), 3) := by decide +kernel
theorem dX1_init_43 : decode cX1_init 43 = .ok (.return_, 1) := by decide +kernel
theorem dX1_size_0 : decode cX1_size 0 = .ok (.aload_n 0, 1) := by decide +kernel
theorem dX1_size_1 : decode cX1_size 1 = .ok (.getfield 18, 3) := by decide +kernel
theorem dX1_size_4 : decode cX1_size 4 = .ok (.ireturn, 1) := by decide +kernel
theorem dX1_prepare_0 : decode cX1_prepare 0 = .ok (.aload_n 0, 1) := by decide +kernel
theorem dX1_prepare_1 : decode cX1_prepare 1 = .ok (.aload_n 0, 1) := by decide +kernel
theorem dX1_prepare_2 : decode cX1_prepare 2 = .ok (.getfield 18, 3) := by decide +kernel
theorem dX1_prepare_5 : decode cX1_prepare 5 = .ok (.invokevirtual 22, 3) := by decide +kernel
theorem dX1_prepare_8 : decode cX1_prepare 8 = .ok (.astore_n 2, 1) := by decide +kernel
theorem dX1_prepare_9 : decode cX1_prepare 9 = .ok (.aload_n 2, 1) := by decide +kernel
theorem dX1_prepare_10 : decode cX1_prepare 10 = .ok (.ifnull 8, 3) := by decide +kernel
theorem dX1_prepare_13 : decode cX1_prepare 13 = .ok (.aload_n 2, 1) := by decide +kernel
theorem dX1_prepare_14 : decode cX1_prepare 14 = .ok (.aload_n 1, 1) := by decide +kernel
theorem dX1_prepare_15 : decode cX1_prepare 15 = .ok (.invokevirtual 26, 3) := by decide +kernel
theorem dX1_prepare_18 : decode cX1_prepare 18 = .ok (.return_, 1) := by decide +kernel
theorem dX1_settle_0 : decode cX1_settle 0 = .ok (.iload_n 1, 1) := by decide +kernel
theorem dX1_settle_1 : decode cX1_settle 1 = .ok (.ifCond .lt 7, 3) := by decide +kernel
theorem dX1_settle_4 : decode cX1_settle 4 = .ok (.aload_n 0, 1) := by decide +kernel
theorem dX1_settle_5 : decode cX1_settle 5 = .ok (.invokevirtual 30, 3) := by decide +kernel
theorem dX1_settle_8 : decode cX1_settle 8 = .ok (.iload_n 1, 1) := by decide +kernel
theorem dX1_settle_9 : decode cX1_settle 9 = .ok (.ireturn, 1) := by decide +kernel
theorem dX1_record_0 : decode cX1_record 0 = .ok (.aload_n 0, 1) := by decide +kernel
theorem dX1_record_1 : decode cX1_record 1 = .ok (.getfield 18, 3) := by decide +kernel
theorem dX1_record_4 : decode cX1_record 4 = .ok (.iconst 5, 1) := by decide +kernel
theorem dX1_record_5 : decode cX1_record 5 = .ok (.if_icmp .ge 14, 3) := by decide +kernel
theorem dX1_record_8 : decode cX1_record 8 = .ok (.aload_n 0, 1) := by decide +kernel
theorem dX1_record_9 : decode cX1_record 9 = .ok (.dup, 1) := by decide +kernel
theorem dX1_record_10 : decode cX1_record 10 = .ok (.getfield 18, 3) := by decide +kernel
theorem dX1_record_13 : decode cX1_record 13 = .ok (.iconst 1, 1) := by decide +kernel
theorem dX1_record_14 : decode cX1_record 14 = .ok (.iadd, 1) := by decide +kernel
theorem dX1_record_15 : decode cX1_record 15 = .ok (.putfield 18, 3) := by decide +kernel
theorem dX1_record_18 : decode cX1_record 18 = .ok (.return_, 1) := by decide +kernel
theorem dX1_record_19 : decode cX1_record 19 = .ok (.aload_n 0, 1) := by decide +kernel
theorem dX1_record_20 : decode cX1_record 20 = .ok (.iconst 0, 1) := by decide +kernel
theorem dX1_record_21 : decode cX1_record 21 = .ok (.invokevirtual 22, 3) := by decide +kernel
theorem dX1_record_24 : decode cX1_record 24 = .ok (.astore_n 1, 1) := by decide +kernel
theorem dX1_record_25 : decode cX1_record 25 = .ok (.iconst 1, 1) := by decide +kernel
theorem dX1_record_26 : decode cX1_record 26 = .ok (.istore_n 2, 1) := by decide +kernel
theorem dX1_record_27 : decode cX1_record 27 = .ok (.iload_n 2, 1) := by decide +kernel
theorem dX1_record_28 : decode cX1_record 28 = .ok (.aload_n 0, 1) := by decide +kernel
theorem dX1_record_29 : decode cX1_record 29 = .ok (.getfield 11, 3) := by decide +kernel
theorem dX1_record_32 : decode cX1_record 32 = .ok (.arraylength, 1) := by decide +kernel
theorem dX1_record_33 : decode cX1_record 33 = .ok (.if_icmp .ge 23, 3) := by decide +kernel
theorem dX1_record_36 : decode cX1_record 36 = .ok (.aload_n 0, 1) := by decide +kernel
theorem dX1_record_37 : decode cX1_record 37 = .ok (.getfield 11, 3) := by decide +kernel
theorem dX1_record_40 : decode cX1_record 40 = .ok (.iload_n 2, 1) := by decide +kernel
theorem dX1_record_41 : decode cX1_record 41 = .ok (.iconst 1, 1) := by decide +kernel
theorem dX1_record_42 : decode cX1_record 42 = .ok (.isub, 1) := by decide +kernel
theorem dX1_record_43 : decode cX1_record 43 = .ok (.aload_n 0, 1) := by decide +kernel
theorem dX1_record_44 : decode cX1_record 44 = .ok (.getfield 11, 3) := by decide +kernel
theorem dX1_record_47 : decode cX1_record 47 = .ok (.iload_n 2, 1) := by decide +kernel
theorem dX1_record_48 : decode cX1_record 48 = .ok (.aaload, 1) := by decide +kernel
theorem dX1_record_49 : decode cX1_record 49 = .ok (.aastore, 1) := by decide +kernel
theorem dX1_record_50 : decode cX1_record 50 = .ok (.iinc 2 1, 3) := by decide +kernel
theorem dX1_record_53 : decode cX1_record 53 = .ok (.goto (-26), 3) := by decide +kernel
theorem dX1_record_56 : decode cX1_record 56 = .ok (.aload_n 0, 1) := by decide +kernel
theorem dX1_record_57 : decode cX1_record 57 = .ok (.getfield 11, 3) := by decide +kernel
theorem dX1_record_60 : decode cX1_record 60 = .ok (.arraylength, 1) := by decide +kernel
theorem dX1_record_61 : decode cX1_record 61 = .ok (.ifCond .le 16, 3) := by decide +kernel
theorem dX1_record_64 : decode cX1_record 64 = .ok (.aload_n 0, 1) := by decide +kernel
theorem dX1_record_65 : decode cX1_record 65 = .ok (.getfield 11, 3) := by decide +kernel
theorem dX1_record_68 : decode cX1_record 68 = .ok (.aload_n 0, 1) := by decide +kernel
theorem dX1_record_69 : decode cX1_record 69 = .ok (.getfield 11, 3) := by decide +kernel
theorem dX1_record_72 : decode cX1_record 72 = .ok (.arraylength, 1) := by decide +kernel
theorem dX1_record_73 : decode cX1_record 73 = .ok (.iconst 1, 1) := by decide +kernel
theorem dX1_record_74 : decode cX1_record 74 = .ok (.isub, 1) := by decide +kernel
theorem dX1_record_75 : decode cX1_record 75 = .ok (.aload_n 1, 1) := by decide +kernel
theorem dX1_record_76 : decode cX1_record 76 = .ok (.aastore, 1) := by decide +kernel
theorem dX1_record_77 : decode cX1_record 77 = .ok (.return_, 1) := by decide +kernel
theorem dX1_stateAt_0 : decode cX1_stateAt 0 = .ok (.iload_n 1, 1) := by decide +kernel
theorem dX1_stateAt_1 : decode cX1_stateAt 1 = .ok (.ifCond .lt 21, 3) := by decide +kernel
theorem dX1_stateAt_4 : decode cX1_stateAt 4 = .ok (.iload_n 1, 1) := by decide +kernel
theorem dX1_stateAt_5 : decode cX1_stateAt 5 = .ok (.aload_n 0, 1) := by decide +kernel
theorem dX1_stateAt_6 : decode cX1_stateAt 6 = .ok (.getfield 11, 3) := by decide +kernel
theorem dX1_stateAt_9 : decode cX1_stateAt 9 = .ok (.arraylength, 1) := by decide +kernel
theorem dX1_stateAt_10 : decode cX1_stateAt 10 = .ok (.if_icmp .ge 12, 3) := by decide +kernel
theorem dX1_stateAt_13 : decode cX1_stateAt 13 = .ok (.aload_n 0, 1) := by decide +kernel
theorem dX1_stateAt_14 : decode cX1_stateAt 14 = .ok (.getfield 11, 3) := by decide +kernel
theorem dX1_stateAt_17 : decode cX1_stateAt 17 = .ok (.iload_n 1, 1) := by decide +kernel
theorem dX1_stateAt_18 : decode cX1_stateAt 18 = .ok (.aaload, 1) := by decide +kernel
theorem dX1_stateAt_19 : decode cX1_stateAt 19 = .ok (.goto 4, 3) := by decide +kernel
theorem dX1_stateAt_22 : decode cX1_stateAt 22 = .ok (.aconst_null, 1) := by decide +kernel
theorem dX1_stateAt_23 : decode cX1_stateAt 23 = .ok (.areturn, 1) := by decide +kernel
theorem dX2_init_0 : decode cX2_init 0 = .ok (.aload_n 0, 1) := by decide +kernel
theorem dX2_init_1 : decode cX2_init 1 = .ok (.invokespecial 3, 3) := by decide +kernel
theorem dX2_init_4 : decode cX2_init 4 = .ok (.aload_n 0, 1) := by decide +kernel
theorem dX2_init_5 : decode cX2_init 5 = .ok (.aload_n 1, 1) := by decide +kernel
theorem dX2_init_6 : decode cX2_init 6 = .ok (.putfield 9, 3) := by decide +kernel
theorem dX2_init_9 : decode cX2_init 9 = .ok (.aload_n 0, 1) := by decide +kernel
theorem dX2_init_10 : decode cX2_init 10 = .ok (.aload_n 1, 1) := by decide +kernel
theorem dX2_init_11 : decode cX2_init 11 = .ok (.getfield 15, 3) := by decide +kernel
theorem dX2_init_14 : decode cX2_init 14 = .ok (.putfield 21, 3) := by decide +kernel
theorem dX2_init_17 : decode cX2_init 17 = .ok (.aload_n 0, 1) := by decide +kernel
theorem dX2_init_18 : decode cX2_init 18 = .ok (.aload_n 1, 1) := by decide +kernel
theorem dX2_init_19 : decode cX2_init 19 = .ok (.getfield 22, 3) := by decide +kernel
theorem dX2_init_22 : decode cX2_init 22 = .ok (.putfield 25, 3) := by decide +kernel
theorem dX2_init_25 : decode cX2_init 25 = .ok (.return_, 1) := by decide +kernel
theorem dX3_init_0 : decode cX3_init 0 = .ok (.aload_n 0, 1) := by decide +kernel
theorem dX3_init_1 : decode cX3_init 1 = .ok (.invokespecial 3, 3) := by decide +kernel
theorem dX3_init_4 : decode cX3_init 4 = .ok (.aload_n 0, 1) := by decide +kernel
theorem dX3_init_5 : decode cX3_init 5 = .ok (.sipush 140, 3) := by decide +kernel
theorem dX3_init_8 : decode cX3_init 8 = .ok (.newarray .int, 2) := by decide +kernel
theorem dX3_init_10 : decode cX3_init 10 = .ok (.putfield 9, 3) := by decide +kernel
theorem dX3_init_13 : decode cX3_init 13 = .ok (.aload_n 0, 1) := by decide +kernel
theorem dX3_init_14 : decode cX3_init 14 = .ok (.iconst 4, 1) := by decide +kernel
theorem dX3_init_15 : decode cX3_init 15 = .ok (.newarray .int, 2) := by decide +kernel
theorem dX3_init_17 : decode cX3_init 17 = .ok (.putfield 15, 3) := by decide +kernel
theorem dX3_init_20 : decode cX3_init 20 = .ok (.return_, 1) := by decide +kernel
theorem dX3_size_0 : decode cX3_size 0 = .ok (.aload_n 0, 1) := by decide +kernel
theorem dX3_size_1 : decode cX3_size 1 = .ok (.getfield 18, 3) := by decide +kernel
theorem dX3_size_4 : decode cX3_size 4 = .ok (.ireturn, 1) := by decide +kernel
theorem dX4_init_0 : decode cX4_init 0 = .ok (.aload_n 0, 1) := by decide +kernel
theorem dX4_init_1 : decode cX4_init 1 = .ok (.invokespecial 1, 3) := by decide +kernel
theorem dX4_init_4 : decode cX4_init 4 = .ok (.aload_n 0, 1) := by decide +kernel
theorem dX4_init_5 : decode cX4_init 5 = .ok (.new 7, 3) := by decide +kernel
theorem dX4_init_8 : decode cX4_init 8 = .ok (.dup, 1) := by decide +kernel
theorem dX4_init_9 : decode cX4_init 9 = .ok (.invokespecial 9, 3) := by decide +kernel
theorem dX4_init_12 : decode cX4_init 12 = .ok (.putfield 10, 3) := by decide +kernel
theorem dX4_init_15 : decode cX4_init 15 = .ok (.return_, 1) := by decide +kernel
theorem dX4_copyFrom_0 : decode cX4_copyFrom 0 = .ok (.aload_n 1, 1) := by decide +kernel
theorem dX4_copyFrom_1 : decode cX4_copyFrom 1 = .ok (.getfield 20, 3) := by decide +kernel
theorem dX4_copyFrom_4 : decode cX4_copyFrom 4 = .ok (.ifCond .eq 14, 3) := by decide +kernel
theorem dX4_copyFrom_7 : decode cX4_copyFrom 7 = .ok (.aload_n 0, 1) := by decide +kernel
theorem dX4_copyFrom_8 : decode cX4_copyFrom 8 = .ok (.getfield 10, 3) := by decide +kernel
theorem dX4_copyFrom_11 : decode cX4_copyFrom 11 = .ok (.aload_n 1, 1) := by decide +kernel
theorem dX4_copyFrom_12 : decode cX4_copyFrom 12 = .ok (.getfield 10, 3) := by decide +kernel
theorem dX4_copyFrom_15 : decode cX4_copyFrom 15 = .ok (.invokevirtual 16, 3) := by decide +kernel
theorem dX4_copyFrom_18 : decode cX4_copyFrom 18 = .ok (.aload_n 0, 1) := by decide +kernel
theorem dX4_copyFrom_19 : decode cX4_copyFrom 19 = .ok (.aload_n 1, 1) := by decide +kernel
theorem dX4_copyFrom_20 : decode cX4_copyFrom 20 = .ok (.getfield 20, 3) := by decide +kernel
theorem dX4_copyFrom_23 : decode cX4_copyFrom 23 = .ok (.putfield 20, 3) := by decide +kernel
theorem dX4_copyFrom_26 : decode cX4_copyFrom 26 = .ok (.return_, 1) := by decide +kernel
theorem dX5_init_0 : decode cX5_init 0 = .ok (.aload_n 0, 1) := by decide +kernel
theorem dX5_init_1 : decode cX5_init 1 = .ok (.invokespecial 1, 3) := by decide +kernel
theorem dX5_init_4 : decode cX5_init 4 = .ok (.aload_n 0, 1) := by decide +kernel
theorem dX5_init_5 : decode cX5_init 5 = .ok (.new 7, 3) := by decide +kernel
theorem dX5_init_8 : decode cX5_init 8 = .ok (.dup, 1) := by decide +kernel
theorem dX5_init_9 : decode cX5_init 9 = .ok (.invokespecial 9, 3) := by decide +kernel
theorem dX5_init_12 : decode cX5_init 12 = .ok (.putfield 10, 3) := by decide +kernel
theorem dX5_init_15 : decode cX5_init 15 = .ok (.aload_n 0, 1) := by decide +kernel
theorem dX5_init_16 : decode cX5_init 16 = .ok (.new 16, 3) := by decide +kernel
theorem dX5_init_19 : decode cX5_init 19 = .ok (.dup, 1) := by decide +kernel
theorem dX5_init_20 : decode cX5_init 20 = .ok (.invokespecial 18, 3) := by decide +kernel
theorem dX5_init_23 : decode cX5_init 23 = .ok (.putfield 19, 3) := by decide +kernel
theorem dX5_init_26 : decode cX5_init 26 = .ok (.aload_n 0, 1) := by decide +kernel
theorem dX5_init_27 : decode cX5_init 27 = .ok (.new 16, 3) := by decide +kernel
theorem dX5_init_30 : decode cX5_init 30 = .ok (.dup, 1) := by decide +kernel
theorem dX5_init_31 : decode cX5_init 31 = .ok (.invokespecial 18, 3) := by decide +kernel
theorem dX5_init_34 : decode cX5_init 34 = .ok (.putfield 23, 3) := by decide +kernel
theorem dX5_init_37 : decode cX5_init 37 = .ok (.return_, 1) := by decide +kernel
theorem dX5_snapshots_0 : decode cX5_snapshots 0 = .ok (.aload_n 0, 1) := by decide +kernel
theorem dX5_snapshots_1 : decode cX5_snapshots 1 = .ok (.getfield 19, 3) := by decide +kernel
theorem dX5_snapshots_4 : decode cX5_snapshots 4 = .ok (.getfield 26, 3) := by decide +kernel
theorem dX5_snapshots_7 : decode cX5_snapshots 7 = .ok (.ifCond .eq 7, 3) := by decide +kernel
theorem dX5_snapshots_10 : decode cX5_snapshots 10 = .ok (.iconst 1, 1) := by decide +kernel
theorem dX5_snapshots_11 : decode cX5_snapshots 11 = .ok (.goto 4, 3) := by decide +kernel
theorem dX5_snapshots_14 : decode cX5_snapshots 14 = .ok (.iconst 0, 1) := by decide +kernel
theorem dX5_snapshots_15 : decode cX5_snapshots 15 = .ok (.aload_n 0, 1) := by decide +kernel
theorem dX5_snapshots_16 : decode cX5_snapshots 16 = .ok (.getfield 23, 3) := by decide +kernel
theorem dX5_snapshots_19 : decode cX5_snapshots 19 = .ok (.getfield 26, 3) := by decide +kernel
theorem dX5_snapshots_22 : decode cX5_snapshots 22 = .ok (.ifCond .eq 7, 3) := by decide +kernel
theorem dX5_snapshots_25 : decode cX5_snapshots 25 = .ok (.iconst 1, 1) := by decide +kernel
theorem dX5_snapshots_26 : decode cX5_snapshots 26 = .ok (.goto 4, 3) := by decide +kernel
theorem dX5_snapshots_29 : decode cX5_snapshots 29 = .ok (.iconst 0, 1) := by decide +kernel
theorem dX5_snapshots_30 : decode cX5_snapshots 30 = .ok (.iadd, 1) := by decide +kernel
theorem dX5_snapshots_31 : decode cX5_snapshots 31 = .ok (.ireturn, 1) := by decide +kernel
theorem dX5_copyFrom_0 : decode cX5_copyFrom 0 = .ok (.aload_n 0, 1) := by decide +kernel
theorem dX5_copyFrom_1 : decode cX5_copyFrom 1 = .ok (.getfield 10, 3) := by decide +kernel
theorem dX5_copyFrom_4 : decode cX5_copyFrom 4 = .ok (.aload_n 1, 1) := by decide +kernel
theorem dX5_copyFrom_5 : decode cX5_copyFrom 5 = .ok (.getfield 10, 3) := by decide +kernel
theorem dX5_copyFrom_8 : decode cX5_copyFrom 8 = .ok (.invokevirtual 30, 3) := by decide +kernel
theorem dX5_copyFrom_11 : decode cX5_copyFrom 11 = .ok (.aload_n 0, 1) := by decide +kernel
theorem dX5_copyFrom_12 : decode cX5_copyFrom 12 = .ok (.getfield 19, 3) := by decide +kernel
theorem dX5_copyFrom_15 : decode cX5_copyFrom 15 = .ok (.aload_n 1, 1) := by decide +kernel
theorem dX5_copyFrom_16 : decode cX5_copyFrom 16 = .ok (.getfield 19, 3) := by decide +kernel
theorem dX5_copyFrom_19 : decode cX5_copyFrom 19 = .ok (.invokevirtual 34, 3) := by decide +kernel
theorem dX5_copyFrom_22 : decode cX5_copyFrom 22 = .ok (.aload_n 0, 1) := by decide +kernel
theorem dX5_copyFrom_23 : decode cX5_copyFrom 23 = .ok (.getfield 23, 3) := by decide +kernel
theorem dX5_copyFrom_26 : decode cX5_copyFrom 26 = .ok (.aload_n 1, 1) := by decide +kernel
theorem dX5_copyFrom_27 : decode cX5_copyFrom 27 = .ok (.getfield 23, 3) := by decide +kernel
theorem dX5_copyFrom_30 : decode cX5_copyFrom 30 = .ok (.invokevirtual 34, 3) := by decide +kernel
theorem dX5_copyFrom_33 : decode cX5_copyFrom 33 = .ok (.return_, 1) := by decide +kernel
theorem dX6_init_0 : decode cX6_init 0 = .ok (.aload_n 0, 1) := by decide +kernel
theorem dX6_init_1 : decode cX6_init 1 = .ok (.invokespecial 3, 3) := by decide +kernel
theorem dX6_init_4 : decode cX6_init 4 = .ok (.aload_n 0, 1) := by decide +kernel
theorem dX6_init_5 : decode cX6_init 5 = .ok (.iconst 0, 1) := by decide +kernel
theorem dX6_init_6 : decode cX6_init 6 = .ok (.iload_n 1, 1) := by decide +kernel
theorem dX6_init_7 : decode cX6_init 7 = .ok (.invokestatic 9, 3) := by decide +kernel
theorem dX6_init_10 : decode cX6_init 10 = .ok (.putfield 15, 3) := by decide +kernel
theorem dX6_init_13 : decode cX6_init 13 = .ok (.aload_n 0, 1) := by decide +kernel
theorem dX6_init_14 : decode cX6_init 14 = .ok (.iconst 0, 1) := by decide +kernel
theorem dX6_init_15 : decode cX6_init 15 = .ok (.iload_n 2, 1) := by decide +kernel
theorem dX6_init_16 : decode cX6_init 16 = .ok (.invokestatic 9, 3) := by decide +kernel
theorem dX6_init_19 : decode cX6_init 19 = .ok (.putfield 21, 3) := by decide +kernel
theorem dX6_init_22 : decode cX6_init 22 = .ok (.aload_n 0, 1) := by decide +kernel
theorem dX6_init_23 : decode cX6_init 23 = .ok (.getfield 15, 3) := by decide +kernel
theorem dX6_init_26 : decode cX6_init 26 = .ok (.aload_n 0, 1) := by decide +kernel
theorem dX6_init_27 : decode cX6_init 27 = .ok (.getfield 21, 3) := by decide +kernel
theorem dX6_init_30 : decode cX6_init 30 = .ok (.imul, 1) := by decide +kernel
theorem dX6_init_31 : decode cX6_init 31 = .ok (.istore_n 3, 1) := by decide +kernel
theorem dX6_init_32 : decode cX6_init 32 = .ok (.aload_n 0, 1) := by decide +kernel
theorem dX6_init_33 : decode cX6_init 33 = .ok (.iload_n 3, 1) := by decide +kernel
theorem dX6_init_34 : decode cX6_init 34 = .ok (.ifCond .ge 7, 3) := by decide +kernel
theorem dX6_init_37 : decode cX6_init 37 = .ok (.iconst 0, 1) := by decide +kernel
theorem dX6_init_38 : decode cX6_init 38 = .ok (.goto 4, 3) := by decide +kernel
theorem dX6_init_41 : decode cX6_init 41 = .ok (.iload_n 3, 1) := by decide +kernel
theorem dX6_init_42 : decode cX6_init 42 = .ok (.newarray .int, 2) := by decide +kernel
theorem dX6_init_44 : decode cX6_init 44 = .ok (.putfield 24, 3) := by decide +kernel
theorem dX6_init_47 : decode cX6_init 47 = .ok (.return_, 1) := by decide +kernel
theorem dX6_size_0 : decode cX6_size 0 = .ok (.aload_n 0, 1) := by decide +kernel
theorem dX6_size_1 : decode cX6_size 1 = .ok (.getfield 28, 3) := by decide +kernel
theorem dX6_size_4 : decode cX6_size 4 = .ok (.ireturn, 1) := by decide +kernel
theorem dX6_has_0 : decode cX6_has 0 = .ok (.iload_n 1, 1) := by decide +kernel
theorem dX6_has_1 : decode cX6_has 1 = .ok (.ifCond .lt 15, 3) := by decide +kernel
theorem dX6_has_4 : decode cX6_has 4 = .ok (.iload_n 1, 1) := by decide +kernel
theorem dX6_has_5 : decode cX6_has 5 = .ok (.aload_n 0, 1) := by decide +kernel
theorem dX6_has_6 : decode cX6_has 6 = .ok (.getfield 28, 3) := by decide +kernel
theorem dX6_has_9 : decode cX6_has 9 = .ok (.if_icmp .ge 7, 3) := by decide +kernel
theorem dX6_has_12 : decode cX6_has 12 = .ok (.iconst 1, 1) := by decide +kernel
theorem dX6_has_13 : decode cX6_has 13 = .ok (.goto 4, 3) := by decide +kernel
theorem dX6_has_16 : decode cX6_has 16 = .ok (.iconst 0, 1) := by decide +kernel
theorem dX6_has_17 : decode cX6_has 17 = .ok (.ireturn, 1) := by decide +kernel
theorem dX6_isFull_0 : decode cX6_isFull 0 = .ok (.aload_n 0, 1) := by decide +kernel
theorem dX6_isFull_1 : decode cX6_isFull 1 = .ok (.getfield 28, 3) := by decide +kernel
theorem dX6_isFull_4 : decode cX6_isFull 4 = .ok (.aload_n 0, 1) := by decide +kernel
theorem dX6_isFull_5 : decode cX6_isFull 5 = .ok (.getfield 15, 3) := by decide +kernel
theorem dX6_isFull_8 : decode cX6_isFull 8 = .ok (.if_icmp .lt 7, 3) := by decide +kernel
theorem dX6_isFull_11 : decode cX6_isFull 11 = .ok (.iconst 1, 1) := by decide +kernel
theorem dX6_isFull_12 : decode cX6_isFull 12 = .ok (.goto 4, 3) := by decide +kernel
theorem dX6_isFull_15 : decode cX6_isFull 15 = .ok (.iconst 0, 1) := by decide +kernel
theorem dX6_isFull_16 : decode cX6_isFull 16 = .ok (.ireturn, 1) := by decide +kernel
theorem dX6_addRow_0 : decode cX6_addRow 0 = .ok (.aload_n 0, 1) := by decide +kernel
theorem dX6_addRow_1 : decode cX6_addRow 1 = .ok (.invokevirtual 31, 3) := by decide +kernel
theorem dX6_addRow_4 : decode cX6_addRow 4 = .ok (.ifCond .eq 6, 3) := by decide +kernel
theorem dX6_addRow_7 : decode cX6_addRow 7 = .ok (.bipush (-9), 2) := by decide +kernel
theorem dX6_addRow_9 : decode cX6_addRow 9 = .ok (.ireturn, 1) := by decide +kernel
theorem dX6_addRow_10 : decode cX6_addRow 10 = .ok (.aload_n 0, 1) := by decide +kernel
theorem dX6_addRow_11 : decode cX6_addRow 11 = .ok (.getfield 28, 3) := by decide +kernel
theorem dX6_addRow_14 : decode cX6_addRow 14 = .ok (.istore_n 1, 1) := by decide +kernel
theorem dX6_addRow_15 : decode cX6_addRow 15 = .ok (.aload_n 0, 1) := by decide +kernel
theorem dX6_addRow_16 : decode cX6_addRow 16 = .ok (.iload_n 1, 1) := by decide +kernel
theorem dX6_addRow_17 : decode cX6_addRow 17 = .ok (.iconst 1, 1) := by decide +kernel
theorem dX6_addRow_18 : decode cX6_addRow 18 = .ok (.iadd, 1) := by decide +kernel
theorem dX6_addRow_19 : decode cX6_addRow 19 = .ok (.putfield 28, 3) := by decide +kernel
theorem dX6_addRow_22 : decode cX6_addRow 22 = .ok (.iconst 0, 1) := by decide +kernel
theorem dX6_addRow_23 : decode cX6_addRow 23 = .ok (.istore_n 2, 1) := by decide +kernel
theorem dX6_addRow_24 : decode cX6_addRow 24 = .ok (.iload_n 2, 1) := by decide +kernel
theorem dX6_addRow_25 : decode cX6_addRow 25 = .ok (.aload_n 0, 1) := by decide +kernel
theorem dX6_addRow_26 : decode cX6_addRow 26 = .ok (.getfield 21, 3) := by decide +kernel
theorem dX6_addRow_29 : decode cX6_addRow 29 = .ok (.if_icmp .ge 16, 3) := by decide +kernel
theorem dX6_addRow_32 : decode cX6_addRow 32 = .ok (.aload_n 0, 1) := by decide +kernel
theorem dX6_addRow_33 : decode cX6_addRow 33 = .ok (.iload_n 1, 1) := by decide +kernel
theorem dX6_addRow_34 : decode cX6_addRow 34 = .ok (.iload_n 2, 1) := by decide +kernel
theorem dX6_addRow_35 : decode cX6_addRow 35 = .ok (.iconst 0, 1) := by decide +kernel
theorem dX6_addRow_36 : decode cX6_addRow 36 = .ok (.invokevirtual 35, 3) := by decide +kernel
theorem dX6_addRow_39 : decode cX6_addRow 39 = .ok (.iinc 2 1, 3) := by decide +kernel
theorem dX6_addRow_42 : decode cX6_addRow 42 = .ok (.goto (-18), 3) := by decide +kernel
theorem dX6_addRow_45 : decode cX6_addRow 45 = .ok (.iload_n 1, 1) := by decide +kernel
theorem dX6_addRow_46 : decode cX6_addRow 46 = .ok (.ireturn, 1) := by decide +kernel
theorem dX6_cell_0 : decode cX6_cell 0 = .ok (.iload_n 1, 1) := by decide +kernel
theorem dX6_cell_1 : decode cX6_cell 1 = .ok (.aload_n 0, 1) := by decide +kernel
theorem dX6_cell_2 : decode cX6_cell 2 = .ok (.getfield 21, 3) := by decide +kernel
theorem dX6_cell_5 : decode cX6_cell 5 = .ok (.imul, 1) := by decide +kernel
theorem dX6_cell_6 : decode cX6_cell 6 = .ok (.iload_n 2, 1) := by decide +kernel
theorem dX6_cell_7 : decode cX6_cell 7 = .ok (.iadd, 1) := by decide +kernel
theorem dX6_cell_8 : decode cX6_cell 8 = .ok (.istore_n 3, 1) := by decide +kernel
theorem dX6_cell_9 : decode cX6_cell 9 = .ok (.iload_n 1, 1) := by decide +kernel
theorem dX6_cell_10 : decode cX6_cell 10 = .ok (.ifCond .lt 27, 3) := by decide +kernel
theorem dX6_cell_13 : decode cX6_cell 13 = .ok (.iload_n 1, 1) := by decide +kernel
theorem dX6_cell_14 : decode cX6_cell 14 = .ok (.aload_n 0, 1) := by decide +kernel
theorem dX6_cell_15 : decode cX6_cell 15 = .ok (.getfield 28, 3) := by decide +kernel
theorem dX6_cell_18 : decode cX6_cell 18 = .ok (.if_icmp .ge 19, 3) := by decide +kernel
theorem dX6_cell_21 : decode cX6_cell 21 = .ok (.iload_n 2, 1) := by decide +kernel
theorem dX6_cell_22 : decode cX6_cell 22 = .ok (.ifCond .lt 15, 3) := by decide +kernel
theorem dX6_cell_25 : decode cX6_cell 25 = .ok (.iload_n 2, 1) := by decide +kernel
theorem dX6_cell_26 : decode cX6_cell 26 = .ok (.aload_n 0, 1) := by decide +kernel
theorem dX6_cell_27 : decode cX6_cell 27 = .ok (.getfield 21, 3) := by decide +kernel
theorem dX6_cell_30 : decode cX6_cell 30 = .ok (.if_icmp .ge 7, 3) := by decide +kernel
theorem dX6_cell_33 : decode cX6_cell 33 = .ok (.iconst 1, 1) := by decide +kernel
theorem dX6_cell_34 : decode cX6_cell 34 = .ok (.goto 4, 3) := by decide +kernel
theorem dX6_cell_37 : decode cX6_cell 37 = .ok (.iconst 0, 1) := by decide +kernel
theorem dX6_cell_38 : decode cX6_cell 38 = .ok (.istore 4, 2) := by decide +kernel
theorem dX6_cell_40 : decode cX6_cell 40 = .ok (.iload 4, 2) := by decide +kernel
theorem dX6_cell_42 : decode cX6_cell 42 = .ok (.ifCond .eq 25, 3) := by decide +kernel
theorem dX6_cell_45 : decode cX6_cell 45 = .ok (.iload_n 3, 1) := by decide +kernel
theorem dX6_cell_46 : decode cX6_cell 46 = .ok (.ifCond .lt 21, 3) := by decide +kernel
theorem dX6_cell_49 : decode cX6_cell 49 = .ok (.iload_n 3, 1) := by decide +kernel
theorem dX6_cell_50 : decode cX6_cell 50 = .ok (.aload_n 0, 1) := by decide +kernel
theorem dX6_cell_51 : decode cX6_cell 51 = .ok (.getfield 24, 3) := by decide +kernel
theorem dX6_cell_54 : decode cX6_cell 54 = .ok (.arraylength, 1) := by decide +kernel
theorem dX6_cell_55 : decode cX6_cell 55 = .ok (.if_icmp .ge 12, 3) := by decide +kernel
theorem dX6_cell_58 : decode cX6_cell 58 = .ok (.aload_n 0, 1) := by decide +kernel
theorem dX6_cell_59 : decode cX6_cell 59 = .ok (.getfield 24, 3) := by decide +kernel
theorem dX6_cell_62 : decode cX6_cell 62 = .ok (.iload_n 3, 1) := by decide +kernel
theorem dX6_cell_63 : decode cX6_cell 63 = .ok (.iaload, 1) := by decide +kernel
theorem dX6_cell_64 : decode cX6_cell 64 = .ok (.goto 4, 3) := by decide +kernel
theorem dX6_cell_67 : decode cX6_cell 67 = .ok (.iconst 0, 1) := by decide +kernel
theorem dX6_cell_68 : decode cX6_cell 68 = .ok (.ireturn, 1) := by decide +kernel
theorem dX6_put_0 : decode cX6_put 0 = .ok (.iload_n 1, 1) := by decide +kernel
theorem dX6_put_1 : decode cX6_put 1 = .ok (.aload_n 0, 1) := by decide +kernel
theorem dX6_put_2 : decode cX6_put 2 = .ok (.getfield 21, 3) := by decide +kernel
theorem dX6_put_5 : decode cX6_put 5 = .ok (.imul, 1) := by decide +kernel
theorem dX6_put_6 : decode cX6_put 6 = .ok (.iload_n 2, 1) := by decide +kernel
theorem dX6_put_7 : decode cX6_put 7 = .ok (.iadd, 1) := by decide +kernel
theorem dX6_put_8 : decode cX6_put 8 = .ok (.istore 4, 2) := by decide +kernel
theorem dX6_put_10 : decode cX6_put 10 = .ok (.iload_n 1, 1) := by decide +kernel
theorem dX6_put_11 : decode cX6_put 11 = .ok (.ifCond .lt 27, 3) := by decide +kernel
theorem dX6_put_14 : decode cX6_put 14 = .ok (.iload_n 1, 1) := by decide +kernel
theorem dX6_put_15 : decode cX6_put 15 = .ok (.aload_n 0, 1) := by decide +kernel
theorem dX6_put_16 : decode cX6_put 16 = .ok (.getfield 28, 3) := by decide +kernel
theorem dX6_put_19 : decode cX6_put 19 = .ok (.if_icmp .ge 19, 3) := by decide +kernel
theorem dX6_put_22 : decode cX6_put 22 = .ok (.iload_n 2, 1) := by decide +kernel
theorem dX6_put_23 : decode cX6_put 23 = .ok (.ifCond .lt 15, 3) := by decide +kernel
theorem dX6_put_26 : decode cX6_put 26 = .ok (.iload_n 2, 1) := by decide +kernel
theorem dX6_put_27 : decode cX6_put 27 = .ok (.aload_n 0, 1) := by decide +kernel
theorem dX6_put_28 : decode cX6_put 28 = .ok (.getfield 21, 3) := by decide +kernel
theorem dX6_put_31 : decode cX6_put 31 = .ok (.if_icmp .ge 7, 3) := by decide +kernel
theorem dX6_put_34 : decode cX6_put 34 = .ok (.iconst 1, 1) := by decide +kernel
theorem dX6_put_35 : decode cX6_put 35 = .ok (.goto 4, 3) := by decide +kernel
theorem dX6_put_38 : decode cX6_put 38 = .ok (.iconst 0, 1) := by decide +kernel
theorem dX6_put_39 : decode cX6_put 39 = .ok (.istore 5, 2) := by decide +kernel
theorem dX6_put_41 : decode cX6_put 41 = .ok (.iload 5, 2) := by decide +kernel
theorem dX6_put_43 : decode cX6_put 43 = .ok (.ifCond .eq 26, 3) := by decide +kernel
theorem dX6_put_46 : decode cX6_put 46 = .ok (.iload 4, 2) := by decide +kernel
theorem dX6_put_48 : decode cX6_put 48 = .ok (.ifCond .lt 21, 3) := by decide +kernel
theorem dX6_put_51 : decode cX6_put 51 = .ok (.iload 4, 2) := by decide +kernel
theorem dX6_put_53 : decode cX6_put 53 = .ok (.aload_n 0, 1) := by decide +kernel
theorem dX6_put_54 : decode cX6_put 54 = .ok (.getfield 24, 3) := by decide +kernel
theorem dX6_put_57 : decode cX6_put 57 = .ok (.arraylength, 1) := by decide +kernel
theorem dX6_put_58 : decode cX6_put 58 = .ok (.if_icmp .ge 11, 3) := by decide +kernel
theorem dX6_put_61 : decode cX6_put 61 = .ok (.aload_n 0, 1) := by decide +kernel
theorem dX6_put_62 : decode cX6_put 62 = .ok (.getfield 24, 3) := by decide +kernel
theorem dX6_put_65 : decode cX6_put 65 = .ok (.iload 4, 2) := by decide +kernel
theorem dX6_put_67 : decode cX6_put 67 = .ok (.iload_n 3, 1) := by decide +kernel
theorem dX6_put_68 : decode cX6_put 68 = .ok (.iastore, 1) := by decide +kernel
theorem dX6_put_69 : decode cX6_put 69 = .ok (.return_, 1) := by decide +kernel
theorem dX6_raise_0 : decode cX6_raise 0 = .ok (.aload_n 0, 1) := by decide +kernel
theorem dX6_raise_1 : decode cX6_raise 1 = .ok (.iload_n 1, 1) := by decide +kernel
theorem dX6_raise_2 : decode cX6_raise 2 = .ok (.iload_n 2, 1) := by decide +kernel
theorem dX6_raise_3 : decode cX6_raise 3 = .ok (.aload_n 0, 1) := by decide +kernel
theorem dX6_raise_4 : decode cX6_raise 4 = .ok (.iload_n 1, 1) := by decide +kernel
theorem dX6_raise_5 : decode cX6_raise 5 = .ok (.iload_n 2, 1) := by decide +kernel
theorem dX6_raise_6 : decode cX6_raise 6 = .ok (.invokevirtual 39, 3) := by decide +kernel
theorem dX6_raise_9 : decode cX6_raise 9 = .ok (.iload_n 3, 1) := by decide +kernel
theorem dX6_raise_10 : decode cX6_raise 10 = .ok (.iadd, 1) := by decide +kernel
theorem dX6_raise_11 : decode cX6_raise 11 = .ok (.invokevirtual 35, 3) := by decide +kernel
theorem dX6_raise_14 : decode cX6_raise 14 = .ok (.return_, 1) := by decide +kernel
theorem dX6_total_0 : decode cX6_total 0 = .ok (.iconst 0, 1) := by decide +kernel
theorem dX6_total_1 : decode cX6_total 1 = .ok (.istore_n 2, 1) := by decide +kernel
theorem dX6_total_2 : decode cX6_total 2 = .ok (.iconst 0, 1) := by decide +kernel
theorem dX6_total_3 : decode cX6_total 3 = .ok (.istore_n 3, 1) := by decide +kernel
theorem dX6_total_4 : decode cX6_total 4 = .ok (.iload_n 3, 1) := by decide +kernel
theorem dX6_total_5 : decode cX6_total 5 = .ok (.aload_n 0, 1) := by decide +kernel
theorem dX6_total_6 : decode cX6_total 6 = .ok (.getfield 28, 3) := by decide +kernel
theorem dX6_total_9 : decode cX6_total 9 = .ok (.if_icmp .ge 18, 3) := by decide +kernel
theorem dX6_total_12 : decode cX6_total 12 = .ok (.iload_n 2, 1) := by decide +kernel
theorem dX6_total_13 : decode cX6_total 13 = .ok (.aload_n 0, 1) := by decide +kernel
theorem dX6_total_14 : decode cX6_total 14 = .ok (.iload_n 3, 1) := by decide +kernel
theorem dX6_total_15 : decode cX6_total 15 = .ok (.iload_n 1, 1) := by decide +kernel
theorem dX6_total_16 : decode cX6_total 16 = .ok (.invokevirtual 39, 3) := by decide +kernel
theorem dX6_total_19 : decode cX6_total 19 = .ok (.iadd, 1) := by decide +kernel
theorem dX6_total_20 : decode cX6_total 20 = .ok (.istore_n 2, 1) := by decide +kernel
theorem dX6_total_21 : decode cX6_total 21 = .ok (.iinc 3 1, 3) := by decide +kernel
theorem dX6_total_24 : decode cX6_total 24 = .ok (.goto (-20), 3) := by decide +kernel
theorem dX6_total_27 : decode cX6_total 27 = .ok (.iload_n 2, 1) := by decide +kernel
theorem dX6_total_28 : decode cX6_total 28 = .ok (.ireturn, 1) := by decide +kernel
theorem dX6_copyFrom_0 : decode cX6_copyFrom 0 = .ok (.aload_n 1, 1) := by decide +kernel
theorem dX6_copyFrom_1 : decode cX6_copyFrom 1 = .ok (.getfield 28, 3) := by decide +kernel
theorem dX6_copyFrom_4 : decode cX6_copyFrom 4 = .ok (.aload_n 1, 1) := by decide +kernel
theorem dX6_copyFrom_5 : decode cX6_copyFrom 5 = .ok (.getfield 21, 3) := by decide +kernel
theorem dX6_copyFrom_8 : decode cX6_copyFrom 8 = .ok (.imul, 1) := by decide +kernel
theorem dX6_copyFrom_9 : decode cX6_copyFrom 9 = .ok (.aload_n 1, 1) := by decide +kernel
theorem dX6_copyFrom_10 : decode cX6_copyFrom 10 = .ok (.getfield 24, 3) := by decide +kernel
theorem dX6_copyFrom_13 : decode cX6_copyFrom 13 = .ok (.arraylength, 1) := by decide +kernel
theorem dX6_copyFrom_14 : decode cX6_copyFrom 14 = .ok (.aload_n 0, 1) := by decide +kernel
theorem dX6_copyFrom_15 : decode cX6_copyFrom 15 = .ok (.getfield 24, 3) := by decide +kernel
theorem dX6_copyFrom_18 : decode cX6_copyFrom 18 = .ok (.arraylength, 1) := by decide +kernel
theorem dX6_copyFrom_19 : decode cX6_copyFrom 19 = .ok (.invokestatic 42, 3) := by decide +kernel
theorem dX6_copyFrom_22 : decode cX6_copyFrom 22 = .ok (.invokestatic 42, 3) := by decide +kernel
theorem dX6_copyFrom_25 : decode cX6_copyFrom 25 = .ok (.istore_n 2, 1) := by decide +kernel
theorem dX6_copyFrom_26 : decode cX6_copyFrom 26 = .ok (.iload_n 2, 1) := by decide +kernel
theorem dX6_copyFrom_27 : decode cX6_copyFrom 27 = .ok (.ifCond .le 17, 3) := by decide +kernel
theorem dX6_copyFrom_30 : decode cX6_copyFrom 30 = .ok (.aload_n 1, 1) := by decide +kernel
theorem dX6_copyFrom_31 : decode cX6_copyFrom 31 = .ok (.getfield 24, 3) := by decide +kernel
theorem dX6_copyFrom_34 : decode cX6_copyFrom 34 = .ok (.iconst 0, 1) := by decide +kernel
theorem dX6_copyFrom_35 : decode cX6_copyFrom 35 = .ok (.aload_n 0, 1) := by decide +kernel
theorem dX6_copyFrom_36 : decode cX6_copyFrom 36 = .ok (.getfield 24, 3) := by decide +kernel
theorem dX6_copyFrom_39 : decode cX6_copyFrom 39 = .ok (.iconst 0, 1) := by decide +kernel
theorem dX6_copyFrom_40 : decode cX6_copyFrom 40 = .ok (.iload_n 2, 1) := by decide +kernel
theorem dX6_copyFrom_41 : decode cX6_copyFrom 41 = .ok (.invokestatic 45, 3) := by decide +kernel
theorem dX6_copyFrom_44 : decode cX6_copyFrom 44 = .ok (.aload_n 0, 1) := by decide +kernel
theorem dX6_copyFrom_45 : decode cX6_copyFrom 45 = .ok (.aload_n 1, 1) := by decide +kernel
theorem dX6_copyFrom_46 : decode cX6_copyFrom 46 = .ok (.getfield 28, 3) := by decide +kernel
theorem dX6_copyFrom_49 : decode cX6_copyFrom 49 = .ok (.putfield 28, 3) := by decide +kernel
theorem dX6_copyFrom_52 : decode cX6_copyFrom 52 = .ok (.return_, 1) := by decide +kernel
theorem dX7_init_0 : decode cX7_init 0 = .ok (.aload_n 0, 1) := by decide +kernel
theorem dX7_init_1 : decode cX7_init 1 = .ok (.invokespecial 3, 3) := by decide +kernel
theorem dX7_init_4 : decode cX7_init 4 = .ok (.aload_n 0, 1) := by decide +kernel
theorem dX7_init_5 : decode cX7_init 5 = .ok (.new 9, 3) := by decide +kernel
theorem dX7_init_8 : decode cX7_init 8 = .ok (.dup, 1) := by decide +kernel
theorem dX7_init_9 : decode cX7_init 9 = .ok (.iconst 4, 1) := by decide +kernel
theorem dX7_init_10 : decode cX7_init 10 = .ok (.bipush 11, 2) := by decide +kernel
theorem dX7_init_12 : decode cX7_init 12 = .ok (.invokespecial 11, 3) := by decide +kernel
theorem dX7_init_15 : decode cX7_init 15 = .ok (.putfield 14, 3) := by decide +kernel
theorem dX7_init_18 : decode cX7_init 18 = .ok (.aload_n 0, 1) := by decide +kernel
theorem dX7_init_19 : decode cX7_init 19 = .ok (.new 9, 3) := by decide +kernel
theorem dX7_init_22 : decode cX7_init 22 = .ok (.dup, 1) := by decide +kernel
theorem dX7_init_23 : decode cX7_init 23 = .ok (.bipush 16, 2) := by decide +kernel
theorem dX7_init_25 : decode cX7_init 25 = .ok (.bipush 10, 2) := by decide +kernel
theorem dX7_init_27 : decode cX7_init 27 = .ok (.invokespecial 11, 3) := by decide +kernel
theorem dX7_init_30 : decode cX7_init 30 = .ok (.putfield 20, 3) := by decide +kernel
theorem dX7_init_33 : decode cX7_init 33 = .ok (.aload_n 0, 1) := by decide +kernel
theorem dX7_init_34 : decode cX7_init 34 = .ok (.new 9, 3) := by decide +kernel
theorem dX7_init_37 : decode cX7_init 37 = .ok (.dup, 1) := by decide +kernel
theorem dX7_init_38 : decode cX7_init 38 = .ok (.bipush 8, 2) := by decide +kernel
theorem dX7_init_40 : decode cX7_init 40 = .ok (.iconst 2, 1) := by decide +kernel
theorem dX7_init_41 : decode cX7_init 41 = .ok (.invokespecial 11, 3) := by decide +kernel
theorem dX7_init_44 : decode cX7_init 44 = .ok (.putfield 23, 3) := by decide +kernel
theorem dX7_init_47 : decode cX7_init 47 = .ok (.aload_n 0, 1) := by decide +kernel
theorem dX7_init_48 : decode cX7_init 48 = .ok (.new 9, 3) := by decide +kernel
theorem dX7_init_51 : decode cX7_init 51 = .ok (.dup, 1) := by decide +kernel
theorem dX7_init_52 : decode cX7_init 52 = .ok (.bipush 16, 2) := by decide +kernel
theorem dX7_init_54 : decode cX7_init 54 = .ok (.iconst 4, 1) := by decide +kernel
theorem dX7_init_55 : decode cX7_init 55 = .ok (.invokespecial 11, 3) := by decide +kernel
theorem dX7_init_58 : decode cX7_init 58 = .ok (.putfield 26, 3) := by decide +kernel
theorem dX7_init_61 : decode cX7_init 61 = .ok (.aload_n 0, 1) := by decide +kernel
theorem dX7_init_62 : decode cX7_init 62 = .ok (.new 9, 3) := by decide +kernel
theorem dX7_init_65 : decode cX7_init 65 = .ok (.dup, 1) := by decide +kernel
theorem dX7_init_66 : decode cX7_init 66 = .ok (.getstatic 29, 3) := by decide +kernel
theorem dX7_init_69 : decode cX7_init 69 = .ok (.arraylength, 1) := by decide +kernel
theorem dX7_init_70 : decode cX7_init 70 = .ok (.iconst 1, 1) := by decide +kernel
theorem dX7_init_71 : decode cX7_init 71 = .ok (.invokespecial 11, 3) := by decide +kernel
theorem dX7_init_74 : decode cX7_init 74 = .ok (.putfield 33, 3) := by decide +kernel
theorem dX7_init_77 : decode cX7_init 77 = .ok (.iconst 0, 1) := by decide +kernel
theorem dX7_init_78 : decode cX7_init 78 = .ok (.istore_n 1, 1) := by decide +kernel
theorem dX7_init_79 : decode cX7_init 79 = .ok (.iload_n 1, 1) := by decide +kernel
theorem dX7_init_80 : decode cX7_init 80 = .ok (.getstatic 29, 3) := by decide +kernel
theorem dX7_init_83 : decode cX7_init 83 = .ok (.arraylength, 1) := by decide +kernel
theorem dX7_init_84 : decode cX7_init 84 = .ok (.if_icmp .ge 29, 3) := by decide +kernel
theorem dX7_init_87 : decode cX7_init 87 = .ok (.aload_n 0, 1) := by decide +kernel
theorem dX7_init_88 : decode cX7_init 88 = .ok (.getfield 33, 3) := by decide +kernel
theorem dX7_init_91 : decode cX7_init 91 = .ok (.aload_n 0, 1) := by decide +kernel
theorem dX7_init_92 : decode cX7_init 92 = .ok (.getfield 33, 3) := by decide +kernel
theorem dX7_init_95 : decode cX7_init 95 = .ok (.invokevirtual 36, 3) := by decide +kernel
theorem dX7_init_98 : decode cX7_init 98 = .ok (.iconst 0, 1) := by decide +kernel
theorem dX7_init_99 : decode cX7_init 99 = .ok (.getstatic 29, 3) := by decide +kernel
theorem dX7_init_102 : decode cX7_init 102 = .ok (.iload_n 1, 1) := by decide +kernel
theorem dX7_init_103 : decode cX7_init 103 = .ok (.iaload, 1) := by decide +kernel
theorem dX7_init_104 : decode cX7_init 104 = .ok (.invokevirtual 40, 3) := by decide +kernel
theorem dX7_init_107 : decode cX7_init 107 = .ok (.iinc 1 1, 3) := by decide +kernel
theorem dX7_init_110 : decode cX7_init 110 = .ok (.goto (-31), 3) := by decide +kernel
theorem dX7_init_113 : decode cX7_init 113 = .ok (.return_, 1) := by decide +kernel
theorem dX7_copyFrom_0 : decode cX7_copyFrom 0 = .ok (.aload_n 0, 1) := by decide +kernel
theorem dX7_copyFrom_1 : decode cX7_copyFrom 1 = .ok (.getfield 14, 3) := by decide +kernel
theorem dX7_copyFrom_4 : decode cX7_copyFrom 4 = .ok (.aload_n 1, 1) := by decide +kernel
theorem dX7_copyFrom_5 : decode cX7_copyFrom 5 = .ok (.getfield 14, 3) := by decide +kernel
theorem dX7_copyFrom_8 : decode cX7_copyFrom 8 = .ok (.invokevirtual 44, 3) := by decide +kernel
theorem dX7_copyFrom_11 : decode cX7_copyFrom 11 = .ok (.aload_n 0, 1) := by decide +kernel
theorem dX7_copyFrom_12 : decode cX7_copyFrom 12 = .ok (.getfield 20, 3) := by decide +kernel
theorem dX7_copyFrom_15 : decode cX7_copyFrom 15 = .ok (.aload_n 1, 1) := by decide +kernel
theorem dX7_copyFrom_16 : decode cX7_copyFrom 16 = .ok (.getfield 20, 3) := by decide +kernel
theorem dX7_copyFrom_19 : decode cX7_copyFrom 19 = .ok (.invokevirtual 44, 3) := by decide +kernel
theorem dX7_copyFrom_22 : decode cX7_copyFrom 22 = .ok (.aload_n 0, 1) := by decide +kernel
theorem dX7_copyFrom_23 : decode cX7_copyFrom 23 = .ok (.getfield 23, 3) := by decide +kernel
theorem dX7_copyFrom_26 : decode cX7_copyFrom 26 = .ok (.aload_n 1, 1) := by decide +kernel
theorem dX7_copyFrom_27 : decode cX7_copyFrom 27 = .ok (.getfield 23, 3) := by decide +kernel
theorem dX7_copyFrom_30 : decode cX7_copyFrom 30 = .ok (.invokevirtual 44, 3) := by decide +kernel
theorem dX7_copyFrom_33 : decode cX7_copyFrom 33 = .ok (.aload_n 0, 1) := by decide +kernel
theorem dX7_copyFrom_34 : decode cX7_copyFrom 34 = .ok (.getfield 26, 3) := by decide +kernel
theorem dX7_copyFrom_37 : decode cX7_copyFrom 37 = .ok (.aload_n 1, 1) := by decide +kernel
theorem dX7_copyFrom_38 : decode cX7_copyFrom 38 = .ok (.getfield 26, 3) := by decide +kernel
theorem dX7_copyFrom_41 : decode cX7_copyFrom 41 = .ok (.invokevirtual 44, 3) := by decide +kernel
theorem dX7_copyFrom_44 : decode cX7_copyFrom 44 = .ok (.aload_n 0, 1) := by decide +kernel
theorem dX7_copyFrom_45 : decode cX7_copyFrom 45 = .ok (.getfield 33, 3) := by decide +kernel
theorem dX7_copyFrom_48 : decode cX7_copyFrom 48 = .ok (.aload_n 1, 1) := by decide +kernel
theorem dX7_copyFrom_49 : decode cX7_copyFrom 49 = .ok (.getfield 33, 3) := by decide +kernel
theorem dX7_copyFrom_52 : decode cX7_copyFrom 52 = .ok (.invokevirtual 44, 3) := by decide +kernel
theorem dX7_copyFrom_55 : decode cX7_copyFrom 55 = .ok (.aload_n 0, 1) := by decide +kernel
theorem dX7_copyFrom_56 : decode cX7_copyFrom 56 = .ok (.aload_n 1, 1) := by decide +kernel
theorem dX7_copyFrom_57 : decode cX7_copyFrom 57 = .ok (.getfield 48, 3) := by decide +kernel
theorem dX7_copyFrom_60 : decode cX7_copyFrom 60 = .ok (.putfield 48, 3) := by decide +kernel
theorem dX7_copyFrom_63 : decode cX7_copyFrom 63 = .ok (.return_, 1) := by decide +kernel
theorem dX7_setting_0 : decode cX7_setting 0 = .ok (.aload_n 0, 1) := by decide +kernel
theorem dX7_setting_1 : decode cX7_setting 1 = .ok (.getfield 33, 3) := by decide +kernel
theorem dX7_setting_4 : decode cX7_setting 4 = .ok (.iload_n 1, 1) := by decide +kernel
theorem dX7_setting_5 : decode cX7_setting 5 = .ok (.iconst 0, 1) := by decide +kernel
theorem dX7_setting_6 : decode cX7_setting 6 = .ok (.invokevirtual 52, 3) := by decide +kernel
theorem dX7_setting_9 : decode cX7_setting 9 = .ok (.ireturn, 1) := by decide +kernel
theorem dX7_isBooked_0 : decode cX7_isBooked 0 = .ok (.aload_n 0, 1) := by decide +kernel
theorem dX7_isBooked_1 : decode cX7_isBooked 1 = .ok (.getfield 20, 3) := by decide +kernel
theorem dX7_isBooked_4 : decode cX7_isBooked 4 = .ok (.iload_n 1, 1) := by decide +kernel
theorem dX7_isBooked_5 : decode cX7_isBooked 5 = .ok (.invokevirtual 56, 3) := by decide +kernel
theorem dX7_isBooked_8 : decode cX7_isBooked 8 = .ok (.ifCond .eq 19, 3) := by decide +kernel
theorem dX7_isBooked_11 : decode cX7_isBooked 11 = .ok (.aload_n 0, 1) := by decide +kernel
theorem dX7_isBooked_12 : decode cX7_isBooked 12 = .ok (.getfield 20, 3) := by decide +kernel
theorem dX7_isBooked_15 : decode cX7_isBooked 15 = .ok (.iload_n 1, 1) := by decide +kernel
theorem dX7_isBooked_16 : decode cX7_isBooked 16 = .ok (.iconst 3, 1) := by decide +kernel
theorem dX7_isBooked_17 : decode cX7_isBooked 17 = .ok (.invokevirtual 52, 3) := by decide +kernel
theorem dX7_isBooked_20 : decode cX7_isBooked 20 = .ok (.ifCond .ne 7, 3) := by decide +kernel
theorem dX7_isBooked_23 : decode cX7_isBooked 23 = .ok (.iconst 1, 1) := by decide +kernel
theorem dX7_isBooked_24 : decode cX7_isBooked 24 = .ok (.goto 4, 3) := by decide +kernel
theorem dX7_isBooked_27 : decode cX7_isBooked 27 = .ok (.iconst 0, 1) := by decide +kernel
theorem dX7_isBooked_28 : decode cX7_isBooked 28 = .ok (.ireturn, 1) := by decide +kernel
theorem dX7_bookingsInState_0 : decode cX7_bookingsInState 0 = .ok (.iconst 0, 1) := by decide +kernel
theorem dX7_bookingsInState_1 : decode cX7_bookingsInState 1 = .ok (.istore_n 2, 1) := by decide +kernel
theorem dX7_bookingsInState_2 : decode cX7_bookingsInState 2 = .ok (.iconst 0, 1) := by decide +kernel
theorem dX7_bookingsInState_3 : decode cX7_bookingsInState 3 = .ok (.istore_n 3, 1) := by decide +kernel
theorem dX7_bookingsInState_4 : decode cX7_bookingsInState 4 = .ok (.iload_n 3, 1) := by decide +kernel
theorem dX7_bookingsInState_5 : decode cX7_bookingsInState 5 = .ok (.aload_n 0, 1) := by decide +kernel
theorem dX7_bookingsInState_6 : decode cX7_bookingsInState 6 = .ok (.getfield 20, 3) := by decide +kernel
theorem dX7_bookingsInState_9 : decode cX7_bookingsInState 9 = .ok (.invokevirtual 60, 3) := by decide +kernel
theorem dX7_bookingsInState_12 : decode cX7_bookingsInState 12 = .ok (.if_icmp .ge 25, 3) := by decide +kernel
theorem dX7_bookingsInState_15 : decode cX7_bookingsInState 15 = .ok (.aload_n 0, 1) := by decide +kernel
theorem dX7_bookingsInState_16 : decode cX7_bookingsInState 16 = .ok (.getfield 20, 3) := by decide +kernel
theorem dX7_bookingsInState_19 : decode cX7_bookingsInState 19 = .ok (.iload_n 3, 1) := by decide +kernel
theorem dX7_bookingsInState_20 : decode cX7_bookingsInState 20 = .ok (.iconst 3, 1) := by decide +kernel
theorem dX7_bookingsInState_21 : decode cX7_bookingsInState 21 = .ok (.invokevirtual 52, 3) := by decide +kernel
theorem dX7_bookingsInState_24 : decode cX7_bookingsInState 24 = .ok (.iload_n 1, 1) := by decide +kernel
theorem dX7_bookingsInState_25 : decode cX7_bookingsInState 25 = .ok (.if_icmp .ne 6, 3) := by decide +kernel
theorem dX7_bookingsInState_28 : decode cX7_bookingsInState 28 = .ok (.iinc 2 1, 3) := by decide +kernel
theorem dX7_bookingsInState_31 : decode cX7_bookingsInState 31 = .ok (.iinc 3 1, 3) := by decide +kernel
theorem dX7_bookingsInState_34 : decode cX7_bookingsInState 34 = .ok (.goto (-30), 3) := by decide +kernel
theorem dX7_bookingsInState_37 : decode cX7_bookingsInState 37 = .ok (.iload_n 2, 1) := by decide +kernel
theorem dX7_bookingsInState_38 : decode cX7_bookingsInState 38 = .ok (.ireturn, 1) := by decide +kernel
theorem dX7_period_0 : decode cX7_period 0 = .ok (.aload_n 0, 1) := by decide +kernel
theorem dX7_period_1 : decode cX7_period 1 = .ok (.getfield 14, 3) := by decide +kernel
theorem dX7_period_4 : decode cX7_period 4 = .ok (.iload_n 1, 1) := by decide +kernel
theorem dX7_period_5 : decode cX7_period 5 = .ok (.iconst 0, 1) := by decide +kernel
theorem dX7_period_6 : decode cX7_period 6 = .ok (.invokevirtual 52, 3) := by decide +kernel
theorem dX7_period_9 : decode cX7_period 9 = .ok (.aload_n 0, 1) := by decide +kernel
theorem dX7_period_10 : decode cX7_period 10 = .ok (.getfield 14, 3) := by decide +kernel
theorem dX7_period_13 : decode cX7_period 13 = .ok (.iload_n 1, 1) := by decide +kernel
theorem dX7_period_14 : decode cX7_period 14 = .ok (.iconst 1, 1) := by decide +kernel
theorem dX7_period_15 : decode cX7_period 15 = .ok (.invokevirtual 52, 3) := by decide +kernel
theorem dX7_period_18 : decode cX7_period 18 = .ok (.iadd, 1) := by decide +kernel
theorem dX7_period_19 : decode cX7_period 19 = .ok (.ireturn, 1) := by decide +kernel
theorem dX7_timeBehindPlays_0 : decode cX7_timeBehindPlays 0 = .ok (.iconst 0, 1) := by decide +kernel
theorem dX7_timeBehindPlays_1 : decode cX7_timeBehindPlays 1 = .ok (.istore_n 2, 1) := by decide +kernel
theorem dX7_timeBehindPlays_2 : decode cX7_timeBehindPlays 2 = .ok (.iconst 0, 1) := by decide +kernel
theorem dX7_timeBehindPlays_3 : decode cX7_timeBehindPlays 3 = .ok (.istore_n 3, 1) := by decide +kernel
theorem dX7_timeBehindPlays_4 : decode cX7_timeBehindPlays 4 = .ok (.iload_n 3, 1) := by decide +kernel
theorem dX7_timeBehindPlays_5 : decode cX7_timeBehindPlays 5 = .ok (.aload_n 0, 1) := by decide +kernel
theorem dX7_timeBehindPlays_6 : decode cX7_timeBehindPlays 6 = .ok (.getfield 20, 3) := by decide +kernel
theorem dX7_timeBehindPlays_9 : decode cX7_timeBehindPlays 9 = .ok (.invokevirtual 60, 3) := by decide +kernel
theorem dX7_timeBehindPlays_12 : decode cX7_timeBehindPlays 12 = .ok (.if_icmp .ge 51, 3) := by decide +kernel
theorem dX7_timeBehindPlays_15 : decode cX7_timeBehindPlays 15 = .ok (.aload_n 0, 1) := by decide +kernel
theorem dX7_timeBehindPlays_16 : decode cX7_timeBehindPlays 16 = .ok (.getfield 20, 3) := by decide +kernel
theorem dX7_timeBehindPlays_19 : decode cX7_timeBehindPlays 19 = .ok (.iload_n 3, 1) := by decide +kernel
theorem dX7_timeBehindPlays_20 : decode cX7_timeBehindPlays 20 = .ok (.iconst 0, 1) := by decide +kernel
theorem dX7_timeBehindPlays_21 : decode cX7_timeBehindPlays 21 = .ok (.invokevirtual 52, 3) := by decide +kernel
theorem dX7_timeBehindPlays_24 : decode cX7_timeBehindPlays 24 = .ok (.iload_n 1, 1) := by decide +kernel
theorem dX7_timeBehindPlays_25 : decode cX7_timeBehindPlays 25 = .ok (.if_icmp .ne 32, 3) := by decide +kernel
theorem dX7_timeBehindPlays_28 : decode cX7_timeBehindPlays 28 = .ok (.aload_n 0, 1) := by decide +kernel
theorem dX7_timeBehindPlays_29 : decode cX7_timeBehindPlays 29 = .ok (.getfield 20, 3) := by decide +kernel
theorem dX7_timeBehindPlays_32 : decode cX7_timeBehindPlays 32 = .ok (.iload_n 3, 1) := by decide +kernel
theorem dX7_timeBehindPlays_33 : decode cX7_timeBehindPlays 33 = .ok (.iconst 3, 1) := by decide +kernel
theorem dX7_timeBehindPlays_34 : decode cX7_timeBehindPlays 34 = .ok (.invokevirtual 52, 3) := by decide +kernel
theorem dX7_timeBehindPlays_37 : decode cX7_timeBehindPlays 37 = .ok (.iconst 1, 1) := by decide +kernel
theorem dX7_timeBehindPlays_38 : decode cX7_timeBehindPlays 38 = .ok (.if_icmp .ne 19, 3) := by decide +kernel
theorem dX7_timeBehindPlays_41 : decode cX7_timeBehindPlays 41 = .ok (.iload_n 2, 1) := by decide +kernel
theorem dX7_timeBehindPlays_42 : decode cX7_timeBehindPlays 42 = .ok (.aload_n 0, 1) := by decide +kernel
theorem dX7_timeBehindPlays_43 : decode cX7_timeBehindPlays 43 = .ok (.getfield 20, 3) := by decide +kernel
theorem dX7_timeBehindPlays_46 : decode cX7_timeBehindPlays 46 = .ok (.iload_n 3, 1) := by decide +kernel
theorem dX7_timeBehindPlays_47 : decode cX7_timeBehindPlays 47 = .ok (.iconst 1, 1) := by decide +kernel
theorem dX7_timeBehindPlays_48 : decode cX7_timeBehindPlays 48 = .ok (.invokevirtual 52, 3) := by decide +kernel
theorem dX7_timeBehindPlays_51 : decode cX7_timeBehindPlays 51 = .ok (.iconst 1, 1) := by decide +kernel
theorem dX7_timeBehindPlays_52 : decode cX7_timeBehindPlays 52 = .ok (.iadd, 1) := by decide +kernel
theorem dX7_timeBehindPlays_53 : decode cX7_timeBehindPlays 53 = .ok (.invokestatic 63, 3) := by decide +kernel
theorem dX7_timeBehindPlays_56 : decode cX7_timeBehindPlays 56 = .ok (.istore_n 2, 1) := by decide +kernel
theorem dX7_timeBehindPlays_57 : decode cX7_timeBehindPlays 57 = .ok (.iinc 3 1, 3) := by decide +kernel
theorem dX7_timeBehindPlays_60 : decode cX7_timeBehindPlays 60 = .ok (.goto (-56), 3) := by decide +kernel
theorem dX7_timeBehindPlays_63 : decode cX7_timeBehindPlays 63 = .ok (.iload_n 2, 1) := by decide +kernel
theorem dX7_timeBehindPlays_64 : decode cX7_timeBehindPlays 64 = .ok (.ireturn, 1) := by decide +kernel
theorem dX7_collision_0 : decode cX7_collision 0 = .ok (.aload_n 0, 1) := by decide +kernel
theorem dX7_collision_1 : decode cX7_collision 1 = .ok (.iload_n 1, 1) := by decide +kernel
theorem dX7_collision_2 : decode cX7_collision 2 = .ok (.invokevirtual 68, 3) := by decide +kernel
theorem dX7_collision_5 : decode cX7_collision 5 = .ok (.istore 4, 2) := by decide +kernel
theorem dX7_collision_7 : decode cX7_collision 7 = .ok (.iconst 0, 1) := by decide +kernel
theorem dX7_collision_8 : decode cX7_collision 8 = .ok (.istore 5, 2) := by decide +kernel
theorem dX7_collision_10 : decode cX7_collision 10 = .ok (.iload 5, 2) := by decide +kernel
theorem dX7_collision_12 : decode cX7_collision 12 = .ok (.aload_n 0, 1) := by decide +kernel
theorem dX7_collision_13 : decode cX7_collision 13 = .ok (.getfield 20, 3) := by decide +kernel
theorem dX7_collision_16 : decode cX7_collision 16 = .ok (.invokevirtual 60, 3) := by decide +kernel
theorem dX7_collision_19 : decode cX7_collision 19 = .ok (.if_icmp .ge 87, 3) := by decide +kernel
theorem dX7_collision_22 : decode cX7_collision 22 = .ok (.aload_n 0, 1) := by decide +kernel
theorem dX7_collision_23 : decode cX7_collision 23 = .ok (.getfield 20, 3) := by decide +kernel
theorem dX7_collision_26 : decode cX7_collision 26 = .ok (.iload 5, 2) := by decide +kernel
theorem dX7_collision_28 : decode cX7_collision 28 = .ok (.iconst 3, 1) := by decide +kernel
theorem dX7_collision_29 : decode cX7_collision 29 = .ok (.invokevirtual 52, 3) := by decide +kernel
theorem dX7_collision_32 : decode cX7_collision 32 = .ok (.istore 6, 2) := by decide +kernel
theorem dX7_collision_34 : decode cX7_collision 34 = .ok (.iload 5, 2) := by decide +kernel
theorem dX7_collision_36 : decode cX7_collision 36 = .ok (.iload_n 3, 1) := by decide +kernel
theorem dX7_collision_37 : decode cX7_collision 37 = .ok (.if_icmp .eq 32, 3) := by decide +kernel
theorem dX7_collision_40 : decode cX7_collision 40 = .ok (.aload_n 0, 1) := by decide +kernel
theorem dX7_collision_41 : decode cX7_collision 41 = .ok (.getfield 20, 3) := by decide +kernel
theorem dX7_collision_44 : decode cX7_collision 44 = .ok (.iload 5, 2) := by decide +kernel
theorem dX7_collision_46 : decode cX7_collision 46 = .ok (.iconst 0, 1) := by decide +kernel
theorem dX7_collision_47 : decode cX7_collision 47 = .ok (.invokevirtual 52, 3) := by decide +kernel
theorem dX7_collision_50 : decode cX7_collision 50 = .ok (.iload_n 1, 1) := by decide +kernel
theorem dX7_collision_51 : decode cX7_collision 51 = .ok (.if_icmp .ne 18, 3) := by decide +kernel
theorem dX7_collision_54 : decode cX7_collision 54 = .ok (.iload 6, 2) := by decide +kernel
theorem dX7_collision_56 : decode cX7_collision 56 = .ok (.ifCond .eq 9, 3) := by decide +kernel
theorem dX7_collision_59 : decode cX7_collision 59 = .ok (.iload 6, 2) := by decide +kernel
theorem dX7_collision_61 : decode cX7_collision 61 = .ok (.iconst 1, 1) := by decide +kernel
theorem dX7_collision_62 : decode cX7_collision 62 = .ok (.if_icmp .ne 7, 3) := by decide +kernel
theorem dX7_collision_65 : decode cX7_collision 65 = .ok (.iconst 1, 1) := by decide +kernel
theorem dX7_collision_66 : decode cX7_collision 66 = .ok (.goto 4, 3) := by decide +kernel
theorem dX7_collision_69 : decode cX7_collision 69 = .ok (.iconst 0, 1) := by decide +kernel
theorem dX7_collision_70 : decode cX7_collision 70 = .ok (.istore 7, 2) := by decide +kernel
theorem dX7_collision_72 : decode cX7_collision 72 = .ok (.iload 7, 2) := by decide +kernel
theorem dX7_collision_74 : decode cX7_collision 74 = .ok (.ifCond .eq 26, 3) := by decide +kernel
theorem dX7_collision_77 : decode cX7_collision 77 = .ok (.aload_n 0, 1) := by decide +kernel
theorem dX7_collision_78 : decode cX7_collision 78 = .ok (.getfield 20, 3) := by decide +kernel
theorem dX7_collision_81 : decode cX7_collision 81 = .ok (.iload 5, 2) := by decide +kernel
theorem dX7_collision_83 : decode cX7_collision 83 = .ok (.iconst 1, 1) := by decide +kernel
theorem dX7_collision_84 : decode cX7_collision 84 = .ok (.invokevirtual 52, 3) := by decide +kernel
theorem dX7_collision_87 : decode cX7_collision 87 = .ok (.iload_n 2, 1) := by decide +kernel
theorem dX7_collision_88 : decode cX7_collision 88 = .ok (.isub, 1) := by decide +kernel
theorem dX7_collision_89 : decode cX7_collision 89 = .ok (.invokestatic 72, 3) := by decide +kernel
theorem dX7_collision_92 : decode cX7_collision 92 = .ok (.iload 4, 2) := by decide +kernel
theorem dX7_collision_94 : decode cX7_collision 94 = .ok (.if_icmp .ge 6, 3) := by decide +kernel
theorem dX7_collision_97 : decode cX7_collision 97 = .ok (.iload 5, 2) := by decide +kernel
theorem dX7_collision_99 : decode cX7_collision 99 = .ok (.ireturn, 1) := by decide +kernel
theorem dX7_collision_100 : decode cX7_collision 100 = .ok (.iinc 5 1, 3) := by decide +kernel
theorem dX7_collision_103 : decode cX7_collision 103 = .ok (.goto (-93), 3) := by decide +kernel
theorem dX7_collision_106 : decode cX7_collision 106 = .ok (.bipush (-9), 2) := by decide +kernel
theorem dX7_collision_108 : decode cX7_collision 108 = .ok (.ireturn, 1) := by decide +kernel
theorem dX7_isPossible_0 : decode cX7_isPossible 0 = .ok (.iload_n 2, 1) := by decide +kernel
theorem dX7_isPossible_1 : decode cX7_isPossible 1 = .ok (.aload_n 0, 1) := by decide +kernel
theorem dX7_isPossible_2 : decode cX7_isPossible 2 = .ok (.iload_n 1, 1) := by decide +kernel
theorem dX7_isPossible_3 : decode cX7_isPossible 3 = .ok (.invokevirtual 75, 3) := by decide +kernel
theorem dX7_isPossible_6 : decode cX7_isPossible 6 = .ok (.if_icmp .lt 19, 3) := by decide +kernel
theorem dX7_isPossible_9 : decode cX7_isPossible 9 = .ok (.aload_n 0, 1) := by decide +kernel
theorem dX7_isPossible_10 : decode cX7_isPossible 10 = .ok (.iload_n 1, 1) := by decide +kernel
theorem dX7_isPossible_11 : decode cX7_isPossible 11 = .ok (.iload_n 2, 1) := by decide +kernel
theorem dX7_isPossible_12 : decode cX7_isPossible 12 = .ok (.iload_n 3, 1) := by decide +kernel
theorem dX7_isPossible_13 : decode cX7_isPossible 13 = .ok (.invokevirtual 78, 3) := by decide +kernel
theorem dX7_isPossible_16 : decode cX7_isPossible 16 = .ok (.bipush (-9), 2) := by decide +kernel
theorem dX7_isPossible_18 : decode cX7_isPossible 18 = .ok (.if_icmp .ne 7, 3) := by decide +kernel
theorem dX7_isPossible_21 : decode cX7_isPossible 21 = .ok (.iconst 1, 1) := by decide +kernel
theorem dX7_isPossible_22 : decode cX7_isPossible 22 = .ok (.goto 4, 3) := by decide +kernel
theorem dX7_isPossible_25 : decode cX7_isPossible 25 = .ok (.iconst 0, 1) := by decide +kernel
theorem dX7_isPossible_26 : decode cX7_isPossible 26 = .ok (.ireturn, 1) := by decide +kernel
theorem dX7_nextBooked_0 : decode cX7_nextBooked 0 = .ok (.bipush (-9), 2) := by decide +kernel
theorem dX7_nextBooked_2 : decode cX7_nextBooked 2 = .ok (.istore_n 3, 1) := by decide +kernel
theorem dX7_nextBooked_3 : decode cX7_nextBooked 3 = .ok (.iconst 0, 1) := by decide +kernel
theorem dX7_nextBooked_4 : decode cX7_nextBooked 4 = .ok (.istore 4, 2) := by decide +kernel
theorem dX7_nextBooked_6 : decode cX7_nextBooked 6 = .ok (.iconst 0, 1) := by decide +kernel
theorem dX7_nextBooked_7 : decode cX7_nextBooked 7 = .ok (.istore 5, 2) := by decide +kernel
theorem dX7_nextBooked_9 : decode cX7_nextBooked 9 = .ok (.iload 5, 2) := by decide +kernel
theorem dX7_nextBooked_11 : decode cX7_nextBooked 11 = .ok (.aload_n 0, 1) := by decide +kernel
theorem dX7_nextBooked_12 : decode cX7_nextBooked 12 = .ok (.getfield 20, 3) := by decide +kernel
theorem dX7_nextBooked_15 : decode cX7_nextBooked 15 = .ok (.invokevirtual 60, 3) := by decide +kernel
theorem dX7_nextBooked_18 : decode cX7_nextBooked 18 = .ok (.if_icmp .ge 86, 3) := by decide +kernel
theorem dX7_nextBooked_21 : decode cX7_nextBooked 21 = .ok (.aload_n 0, 1) := by decide +kernel
theorem dX7_nextBooked_22 : decode cX7_nextBooked 22 = .ok (.getfield 20, 3) := by decide +kernel
theorem dX7_nextBooked_25 : decode cX7_nextBooked 25 = .ok (.iload 5, 2) := by decide +kernel
theorem dX7_nextBooked_27 : decode cX7_nextBooked 27 = .ok (.iconst 1, 1) := by decide +kernel
theorem dX7_nextBooked_28 : decode cX7_nextBooked 28 = .ok (.invokevirtual 52, 3) := by decide +kernel
theorem dX7_nextBooked_31 : decode cX7_nextBooked 31 = .ok (.istore 6, 2) := by decide +kernel
theorem dX7_nextBooked_33 : decode cX7_nextBooked 33 = .ok (.aload_n 0, 1) := by decide +kernel
theorem dX7_nextBooked_34 : decode cX7_nextBooked 34 = .ok (.getfield 20, 3) := by decide +kernel
theorem dX7_nextBooked_37 : decode cX7_nextBooked 37 = .ok (.iload 5, 2) := by decide +kernel
theorem dX7_nextBooked_39 : decode cX7_nextBooked 39 = .ok (.iconst 3, 1) := by decide +kernel
theorem dX7_nextBooked_40 : decode cX7_nextBooked 40 = .ok (.invokevirtual 52, 3) := by decide +kernel
theorem dX7_nextBooked_43 : decode cX7_nextBooked 43 = .ok (.ifCond .ne 27, 3) := by decide +kernel
theorem dX7_nextBooked_46 : decode cX7_nextBooked 46 = .ok (.aload_n 0, 1) := by decide +kernel
theorem dX7_nextBooked_47 : decode cX7_nextBooked 47 = .ok (.getfield 20, 3) := by decide +kernel
theorem dX7_nextBooked_50 : decode cX7_nextBooked 50 = .ok (.iload 5, 2) := by decide +kernel
theorem dX7_nextBooked_52 : decode cX7_nextBooked 52 = .ok (.iconst 0, 1) := by decide +kernel
theorem dX7_nextBooked_53 : decode cX7_nextBooked 53 = .ok (.invokevirtual 52, 3) := by decide +kernel
theorem dX7_nextBooked_56 : decode cX7_nextBooked 56 = .ok (.iload_n 1, 1) := by decide +kernel
theorem dX7_nextBooked_57 : decode cX7_nextBooked 57 = .ok (.if_icmp .ne 13, 3) := by decide +kernel
theorem dX7_nextBooked_60 : decode cX7_nextBooked 60 = .ok (.iload 6, 2) := by decide +kernel
theorem dX7_nextBooked_62 : decode cX7_nextBooked 62 = .ok (.iload_n 2, 1) := by decide +kernel
theorem dX7_nextBooked_63 : decode cX7_nextBooked 63 = .ok (.if_icmp .le 7, 3) := by decide +kernel
theorem dX7_nextBooked_66 : decode cX7_nextBooked 66 = .ok (.iconst 1, 1) := by decide +kernel
theorem dX7_nextBooked_67 : decode cX7_nextBooked 67 = .ok (.goto 4, 3) := by decide +kernel
theorem dX7_nextBooked_70 : decode cX7_nextBooked 70 = .ok (.iconst 0, 1) := by decide +kernel
theorem dX7_nextBooked_71 : decode cX7_nextBooked 71 = .ok (.istore 7, 2) := by decide +kernel
theorem dX7_nextBooked_73 : decode cX7_nextBooked 73 = .ok (.iload 7, 2) := by decide +kernel
theorem dX7_nextBooked_75 : decode cX7_nextBooked 75 = .ok (.ifCond .eq 23, 3) := by decide +kernel
theorem dX7_nextBooked_78 : decode cX7_nextBooked 78 = .ok (.iload_n 3, 1) := by decide +kernel
theorem dX7_nextBooked_79 : decode cX7_nextBooked 79 = .ok (.bipush (-9), 2) := by decide +kernel
theorem dX7_nextBooked_81 : decode cX7_nextBooked 81 = .ok (.if_icmp .eq 10, 3) := by decide +kernel
theorem dX7_nextBooked_84 : decode cX7_nextBooked 84 = .ok (.iload 6, 2) := by decide +kernel
theorem dX7_nextBooked_86 : decode cX7_nextBooked 86 = .ok (.iload 4, 2) := by decide +kernel
theorem dX7_nextBooked_88 : decode cX7_nextBooked 88 = .ok (.if_icmp .ge 10, 3) := by decide +kernel
theorem dX7_nextBooked_91 : decode cX7_nextBooked 91 = .ok (.iload 5, 2) := by decide +kernel
theorem dX7_nextBooked_93 : decode cX7_nextBooked 93 = .ok (.istore_n 3, 1) := by decide +kernel
theorem dX7_nextBooked_94 : decode cX7_nextBooked 94 = .ok (.iload 6, 2) := by decide +kernel
theorem dX7_nextBooked_96 : decode cX7_nextBooked 96 = .ok (.istore 4, 2) := by decide +kernel
theorem dX7_nextBooked_98 : decode cX7_nextBooked 98 = .ok (.iinc 5 1, 3) := by decide +kernel
theorem dX7_nextBooked_101 : decode cX7_nextBooked 101 = .ok (.goto (-92), 3) := by decide +kernel
theorem dX7_nextBooked_104 : decode cX7_nextBooked 104 = .ok (.iload_n 3, 1) := by decide +kernel
theorem dX7_nextBooked_105 : decode cX7_nextBooked 105 = .ok (.ireturn, 1) := by decide +kernel
theorem dX7_forecastStart_0 : decode cX7_forecastStart 0 = .ok (.aload_n 0, 1) := by decide +kernel
theorem dX7_forecastStart_1 : decode cX7_forecastStart 1 = .ok (.getfield 20, 3) := by decide +kernel
theorem dX7_forecastStart_4 : decode cX7_forecastStart 4 = .ok (.iload_n 1, 1) := by decide +kernel
theorem dX7_forecastStart_5 : decode cX7_forecastStart 5 = .ok (.iconst 0, 1) := by decide +kernel
theorem dX7_forecastStart_6 : decode cX7_forecastStart 6 = .ok (.invokevirtual 52, 3) := by decide +kernel
theorem dX7_forecastStart_9 : decode cX7_forecastStart 9 = .ok (.istore_n 2, 1) := by decide +kernel
theorem dX7_forecastStart_10 : decode cX7_forecastStart 10 = .ok (.aload_n 0, 1) := by decide +kernel
theorem dX7_forecastStart_11 : decode cX7_forecastStart 11 = .ok (.getfield 14, 3) := by decide +kernel
theorem dX7_forecastStart_14 : decode cX7_forecastStart 14 = .ok (.iload_n 2, 1) := by decide +kernel
theorem dX7_forecastStart_15 : decode cX7_forecastStart 15 = .ok (.iconst 4, 1) := by decide +kernel
theorem dX7_forecastStart_16 : decode cX7_forecastStart 16 = .ok (.invokevirtual 52, 3) := by decide +kernel
theorem dX7_forecastStart_19 : decode cX7_forecastStart 19 = .ok (.istore_n 3, 1) := by decide +kernel
theorem dX7_forecastStart_20 : decode cX7_forecastStart 20 = .ok (.aload_n 0, 1) := by decide +kernel
theorem dX7_forecastStart_21 : decode cX7_forecastStart 21 = .ok (.iload_n 2, 1) := by decide +kernel
theorem dX7_forecastStart_22 : decode cX7_forecastStart 22 = .ok (.iconst (-1), 1) := by decide +kernel
theorem dX7_forecastStart_23 : decode cX7_forecastStart 23 = .ok (.invokevirtual 82, 3) := by decide +kernel
theorem dX7_forecastStart_26 : decode cX7_forecastStart 26 = .ok (.istore 4, 2) := by decide +kernel
theorem dX7_forecastStart_28 : decode cX7_forecastStart 28 = .ok (.iconst 0, 1) := by decide +kernel
theorem dX7_forecastStart_29 : decode cX7_forecastStart 29 = .ok (.istore 5, 2) := by decide +kernel
theorem dX7_forecastStart_31 : decode cX7_forecastStart 31 = .ok (.iload 5, 2) := by decide +kernel
theorem dX7_forecastStart_33 : decode cX7_forecastStart 33 = .ok (.bipush 16, 2) := by decide +kernel
theorem dX7_forecastStart_35 : decode cX7_forecastStart 35 = .ok (.if_icmp .ge 56, 3) := by decide +kernel
theorem dX7_forecastStart_38 : decode cX7_forecastStart 38 = .ok (.iload 4, 2) := by decide +kernel
theorem dX7_forecastStart_40 : decode cX7_forecastStart 40 = .ok (.bipush (-9), 2) := by decide +kernel
theorem dX7_forecastStart_42 : decode cX7_forecastStart 42 = .ok (.if_icmp .eq 49, 3) := by decide +kernel
theorem dX7_forecastStart_45 : decode cX7_forecastStart 45 = .ok (.iload 4, 2) := by decide +kernel
theorem dX7_forecastStart_47 : decode cX7_forecastStart 47 = .ok (.iload_n 1, 1) := by decide +kernel
theorem dX7_forecastStart_48 : decode cX7_forecastStart 48 = .ok (.if_icmp .eq 43, 3) := by decide +kernel
theorem dX7_forecastStart_51 : decode cX7_forecastStart 51 = .ok (.aload_n 0, 1) := by decide +kernel
theorem dX7_forecastStart_52 : decode cX7_forecastStart 52 = .ok (.getfield 20, 3) := by decide +kernel
theorem dX7_forecastStart_55 : decode cX7_forecastStart 55 = .ok (.iload 4, 2) := by decide +kernel
theorem dX7_forecastStart_57 : decode cX7_forecastStart 57 = .ok (.iconst 1, 1) := by decide +kernel
theorem dX7_forecastStart_58 : decode cX7_forecastStart 58 = .ok (.invokevirtual 52, 3) := by decide +kernel
theorem dX7_forecastStart_61 : decode cX7_forecastStart 61 = .ok (.istore 6, 2) := by decide +kernel
theorem dX7_forecastStart_63 : decode cX7_forecastStart 63 = .ok (.iload 6, 2) := by decide +kernel
theorem dX7_forecastStart_65 : decode cX7_forecastStart 65 = .ok (.iload_n 3, 1) := by decide +kernel
theorem dX7_forecastStart_66 : decode cX7_forecastStart 66 = .ok (.invokestatic 63, 3) := by decide +kernel
theorem dX7_forecastStart_69 : decode cX7_forecastStart 69 = .ok (.aload_n 0, 1) := by decide +kernel
theorem dX7_forecastStart_70 : decode cX7_forecastStart 70 = .ok (.iload_n 2, 1) := by decide +kernel
theorem dX7_forecastStart_71 : decode cX7_forecastStart 71 = .ok (.invokevirtual 68, 3) := by decide +kernel
theorem dX7_forecastStart_74 : decode cX7_forecastStart 74 = .ok (.iadd, 1) := by decide +kernel
theorem dX7_forecastStart_75 : decode cX7_forecastStart 75 = .ok (.istore_n 3, 1) := by decide +kernel
theorem dX7_forecastStart_76 : decode cX7_forecastStart 76 = .ok (.aload_n 0, 1) := by decide +kernel
theorem dX7_forecastStart_77 : decode cX7_forecastStart 77 = .ok (.iload_n 2, 1) := by decide +kernel
theorem dX7_forecastStart_78 : decode cX7_forecastStart 78 = .ok (.iload 6, 2) := by decide +kernel
theorem dX7_forecastStart_80 : decode cX7_forecastStart 80 = .ok (.invokevirtual 82, 3) := by decide +kernel
theorem dX7_forecastStart_83 : decode cX7_forecastStart 83 = .ok (.istore 4, 2) := by decide +kernel
theorem dX7_forecastStart_85 : decode cX7_forecastStart 85 = .ok (.iinc 5 1, 3) := by decide +kernel
theorem dX7_forecastStart_88 : decode cX7_forecastStart 88 = .ok (.goto (-57), 3) := by decide +kernel
theorem dX7_forecastStart_91 : decode cX7_forecastStart 91 = .ok (.aload_n 0, 1) := by decide +kernel
theorem dX7_forecastStart_92 : decode cX7_forecastStart 92 = .ok (.getfield 20, 3) := by decide +kernel
theorem dX7_forecastStart_95 : decode cX7_forecastStart 95 = .ok (.iload_n 1, 1) := by decide +kernel
theorem dX7_forecastStart_96 : decode cX7_forecastStart 96 = .ok (.iconst 1, 1) := by decide +kernel
theorem dX7_forecastStart_97 : decode cX7_forecastStart 97 = .ok (.invokevirtual 52, 3) := by decide +kernel
theorem dX7_forecastStart_100 : decode cX7_forecastStart 100 = .ok (.iload_n 3, 1) := by decide +kernel
theorem dX7_forecastStart_101 : decode cX7_forecastStart 101 = .ok (.invokestatic 63, 3) := by decide +kernel
theorem dX7_forecastStart_104 : decode cX7_forecastStart 104 = .ok (.ireturn, 1) := by decide +kernel
theorem dX7_refundForDelay_0 : decode cX7_refundForDelay 0 = .ok (.iload_n 2, 1) := by decide +kernel
theorem dX7_refundForDelay_1 : decode cX7_refundForDelay 1 = .ok (.aload_n 0, 1) := by decide +kernel
theorem dX7_refundForDelay_2 : decode cX7_refundForDelay 2 = .ok (.iconst 3, 1) := by decide +kernel
theorem dX7_refundForDelay_3 : decode cX7_refundForDelay 3 = .ok (.invokevirtual 85, 3) := by decide +kernel
theorem dX7_refundForDelay_6 : decode cX7_refundForDelay 6 = .ok (.isub, 1) := by decide +kernel
theorem dX7_refundForDelay_7 : decode cX7_refundForDelay 7 = .ok (.istore_n 3, 1) := by decide +kernel
theorem dX7_refundForDelay_8 : decode cX7_refundForDelay 8 = .ok (.iload_n 3, 1) := by decide +kernel
theorem dX7_refundForDelay_9 : decode cX7_refundForDelay 9 = .ok (.ifCond .gt 5, 3) := by decide +kernel
theorem dX7_refundForDelay_12 : decode cX7_refundForDelay 12 = .ok (.iconst 0, 1) := by decide +kernel
theorem dX7_refundForDelay_13 : decode cX7_refundForDelay 13 = .ok (.ireturn, 1) := by decide +kernel
theorem dX7_refundForDelay_14 : decode cX7_refundForDelay 14 = .ok (.bipush 100, 2) := by decide +kernel
theorem dX7_refundForDelay_16 : decode cX7_refundForDelay 16 = .ok (.iload_n 3, 1) := by decide +kernel
theorem dX7_refundForDelay_17 : decode cX7_refundForDelay 17 = .ok (.bipush 9, 2) := by decide +kernel
theorem dX7_refundForDelay_19 : decode cX7_refundForDelay 19 = .ok (.iadd, 1) := by decide +kernel
theorem dX7_refundForDelay_20 : decode cX7_refundForDelay 20 = .ok (.bipush 10, 2) := by decide +kernel
theorem dX7_refundForDelay_22 : decode cX7_refundForDelay 22 = .ok (.idiv, 1) := by decide +kernel
theorem dX7_refundForDelay_23 : decode cX7_refundForDelay 23 = .ok (.aload_n 0, 1) := by decide +kernel
theorem dX7_refundForDelay_24 : decode cX7_refundForDelay 24 = .ok (.iconst 4, 1) := by decide +kernel
theorem dX7_refundForDelay_25 : decode cX7_refundForDelay 25 = .ok (.invokevirtual 85, 3) := by decide +kernel
theorem dX7_refundForDelay_28 : decode cX7_refundForDelay 28 = .ok (.imul, 1) := by decide +kernel
theorem dX7_refundForDelay_29 : decode cX7_refundForDelay 29 = .ok (.invokestatic 88, 3) := by decide +kernel
theorem dX7_refundForDelay_32 : decode cX7_refundForDelay 32 = .ok (.istore 4, 2) := by decide +kernel
theorem dX7_refundForDelay_34 : decode cX7_refundForDelay 34 = .ok (.aload_n 0, 1) := by decide +kernel
theorem dX7_refundForDelay_35 : decode cX7_refundForDelay 35 = .ok (.getfield 20, 3) := by decide +kernel
theorem dX7_refundForDelay_38 : decode cX7_refundForDelay 38 = .ok (.iload_n 1, 1) := by decide +kernel
theorem dX7_refundForDelay_39 : decode cX7_refundForDelay 39 = .ok (.iconst 4, 1) := by decide +kernel
theorem dX7_refundForDelay_40 : decode cX7_refundForDelay 40 = .ok (.invokevirtual 52, 3) := by decide +kernel
theorem dX7_refundForDelay_43 : decode cX7_refundForDelay 43 = .ok (.iload 4, 2) := by decide +kernel
theorem dX7_refundForDelay_45 : decode cX7_refundForDelay 45 = .ok (.imul, 1) := by decide +kernel
theorem dX7_refundForDelay_46 : decode cX7_refundForDelay 46 = .ok (.bipush 100, 2) := by decide +kernel
theorem dX7_refundForDelay_48 : decode cX7_refundForDelay 48 = .ok (.idiv, 1) := by decide +kernel
theorem dX7_refundForDelay_49 : decode cX7_refundForDelay 49 = .ok (.ireturn, 1) := by decide +kernel
theorem dX7_paidByVouchers_0 : decode cX7_paidByVouchers 0 = .ok (.iconst 0, 1) := by decide +kernel
theorem dX7_paidByVouchers_1 : decode cX7_paidByVouchers 1 = .ok (.istore_n 2, 1) := by decide +kernel
theorem dX7_paidByVouchers_2 : decode cX7_paidByVouchers 2 = .ok (.iconst 0, 1) := by decide +kernel
theorem dX7_paidByVouchers_3 : decode cX7_paidByVouchers 3 = .ok (.istore_n 3, 1) := by decide +kernel
theorem dX7_paidByVouchers_4 : decode cX7_paidByVouchers 4 = .ok (.iload_n 3, 1) := by decide +kernel
theorem dX7_paidByVouchers_5 : decode cX7_paidByVouchers 5 = .ok (.aload_n 0, 1) := by decide +kernel
theorem dX7_paidByVouchers_6 : decode cX7_paidByVouchers 6 = .ok (.getfield 26, 3) := by decide +kernel
theorem dX7_paidByVouchers_9 : decode cX7_paidByVouchers 9 = .ok (.invokevirtual 60, 3) := by decide +kernel
theorem dX7_paidByVouchers_12 : decode cX7_paidByVouchers 12 = .ok (.if_icmp .ge 34, 3) := by decide +kernel
theorem dX7_paidByVouchers_15 : decode cX7_paidByVouchers 15 = .ok (.aload_n 0, 1) := by decide +kernel
theorem dX7_paidByVouchers_16 : decode cX7_paidByVouchers 16 = .ok (.getfield 26, 3) := by decide +kernel
theorem dX7_paidByVouchers_19 : decode cX7_paidByVouchers 19 = .ok (.iload_n 3, 1) := by decide +kernel
theorem dX7_paidByVouchers_20 : decode cX7_paidByVouchers 20 = .ok (.iconst 0, 1) := by decide +kernel
theorem dX7_paidByVouchers_21 : decode cX7_paidByVouchers 21 = .ok (.invokevirtual 52, 3) := by decide +kernel
theorem dX7_paidByVouchers_24 : decode cX7_paidByVouchers 24 = .ok (.iload_n 1, 1) := by decide +kernel
theorem dX7_paidByVouchers_25 : decode cX7_paidByVouchers 25 = .ok (.if_icmp .ne 15, 3) := by decide +kernel
theorem dX7_paidByVouchers_28 : decode cX7_paidByVouchers 28 = .ok (.iload_n 2, 1) := by decide +kernel
end
section
theorem dX7_paidByVouchers_29 : decode cX7_paidByVouchers 29 = .ok (.aload_n 0, 1) := by decide +kernel
theorem dX7_paidByVouchers_30 : decode cX7_paidByVouchers 30 = .ok (.getfield 26, 3) := by decide +kernel
theorem dX7_paidByVouchers_33 : decode cX7_paidByVouchers 33 = .ok (.iload_n 3, 1) := by decide +kernel
theorem dX7_paidByVouchers_34 : decode cX7_paidByVouchers 34 = .ok (.iconst 2, 1) := by decide +kernel
theorem dX7_paidByVouchers_35 : decode cX7_paidByVouchers 35 = .ok (.invokevirtual 52, 3) := by decide +kernel
theorem dX7_paidByVouchers_38 : decode cX7_paidByVouchers 38 = .ok (.iadd, 1) := by decide +kernel
theorem dX7_paidByVouchers_39 : decode cX7_paidByVouchers 39 = .ok (.istore_n 2, 1) := by decide +kernel
theorem dX7_paidByVouchers_40 : decode cX7_paidByVouchers 40 = .ok (.iinc 3 1, 3) := by decide +kernel
theorem dX7_paidByVouchers_43 : decode cX7_paidByVouchers 43 = .ok (.goto (-39), 3) := by decide +kernel
theorem dX7_paidByVouchers_46 : decode cX7_paidByVouchers 46 = .ok (.iload_n 2, 1) := by decide +kernel
theorem dX7_paidByVouchers_47 : decode cX7_paidByVouchers 47 = .ok (.ireturn, 1) := by decide +kernel
theorem dX7_paymentsLeft_0 : decode cX7_paymentsLeft 0 = .ok (.iconst 0, 1) := by decide +kernel
theorem dX7_paymentsLeft_1 : decode cX7_paymentsLeft 1 = .ok (.istore_n 2, 1) := by decide +kernel
theorem dX7_paymentsLeft_2 : decode cX7_paymentsLeft 2 = .ok (.iconst 0, 1) := by decide +kernel
theorem dX7_paymentsLeft_3 : decode cX7_paymentsLeft 3 = .ok (.istore_n 3, 1) := by decide +kernel
theorem dX7_paymentsLeft_4 : decode cX7_paymentsLeft 4 = .ok (.iload_n 3, 1) := by decide +kernel
theorem dX7_paymentsLeft_5 : decode cX7_paymentsLeft 5 = .ok (.aload_n 0, 1) := by decide +kernel
theorem dX7_paymentsLeft_6 : decode cX7_paymentsLeft 6 = .ok (.getfield 26, 3) := by decide +kernel
theorem dX7_paymentsLeft_9 : decode cX7_paymentsLeft 9 = .ok (.invokevirtual 60, 3) := by decide +kernel
theorem dX7_paymentsLeft_12 : decode cX7_paymentsLeft 12 = .ok (.if_icmp .ge 37, 3) := by decide +kernel
theorem dX7_paymentsLeft_15 : decode cX7_paymentsLeft 15 = .ok (.aload_n 0, 1) := by decide +kernel
theorem dX7_paymentsLeft_16 : decode cX7_paymentsLeft 16 = .ok (.getfield 26, 3) := by decide +kernel
theorem dX7_paymentsLeft_19 : decode cX7_paymentsLeft 19 = .ok (.iload_n 3, 1) := by decide +kernel
theorem dX7_paymentsLeft_20 : decode cX7_paymentsLeft 20 = .ok (.iconst 0, 1) := by decide +kernel
theorem dX7_paymentsLeft_21 : decode cX7_paymentsLeft 21 = .ok (.invokevirtual 52, 3) := by decide +kernel
theorem dX7_paymentsLeft_24 : decode cX7_paymentsLeft 24 = .ok (.iload_n 1, 1) := by decide +kernel
theorem dX7_paymentsLeft_25 : decode cX7_paymentsLeft 25 = .ok (.if_icmp .ne 18, 3) := by decide +kernel
theorem dX7_paymentsLeft_28 : decode cX7_paymentsLeft 28 = .ok (.aload_n 0, 1) := by decide +kernel
theorem dX7_paymentsLeft_29 : decode cX7_paymentsLeft 29 = .ok (.getfield 26, 3) := by decide +kernel
theorem dX7_paymentsLeft_32 : decode cX7_paymentsLeft 32 = .ok (.iload_n 3, 1) := by decide +kernel
theorem dX7_paymentsLeft_33 : decode cX7_paymentsLeft 33 = .ok (.iconst 2, 1) := by decide +kernel
theorem dX7_paymentsLeft_34 : decode cX7_paymentsLeft 34 = .ok (.invokevirtual 52, 3) := by decide +kernel
theorem dX7_paymentsLeft_37 : decode cX7_paymentsLeft 37 = .ok (.ifCond .le 6, 3) := by decide +kernel
theorem dX7_paymentsLeft_40 : decode cX7_paymentsLeft 40 = .ok (.iinc 2 1, 3) := by decide +kernel
theorem dX7_paymentsLeft_43 : decode cX7_paymentsLeft 43 = .ok (.iinc 3 1, 3) := by decide +kernel
theorem dX7_paymentsLeft_46 : decode cX7_paymentsLeft 46 = .ok (.goto (-42), 3) := by decide +kernel
theorem dX7_paymentsLeft_49 : decode cX7_paymentsLeft 49 = .ok (.iload_n 2, 1) := by decide +kernel
theorem dX7_paymentsLeft_50 : decode cX7_paymentsLeft 50 = .ok (.ireturn, 1) := by decide +kernel
theorem dX7_bookingsPaidWith_0 : decode cX7_bookingsPaidWith 0 = .ok (.iconst 0, 1) := by decide +kernel
theorem dX7_bookingsPaidWith_1 : decode cX7_bookingsPaidWith 1 = .ok (.istore_n 2, 1) := by decide +kernel
theorem dX7_bookingsPaidWith_2 : decode cX7_bookingsPaidWith 2 = .ok (.iconst 0, 1) := by decide +kernel
theorem dX7_bookingsPaidWith_3 : decode cX7_bookingsPaidWith 3 = .ok (.istore_n 3, 1) := by decide +kernel
theorem dX7_bookingsPaidWith_4 : decode cX7_bookingsPaidWith 4 = .ok (.iload_n 3, 1) := by decide +kernel
theorem dX7_bookingsPaidWith_5 : decode cX7_bookingsPaidWith 5 = .ok (.aload_n 0, 1) := by decide +kernel
theorem dX7_bookingsPaidWith_6 : decode cX7_bookingsPaidWith 6 = .ok (.getfield 20, 3) := by decide +kernel
theorem dX7_bookingsPaidWith_9 : decode cX7_bookingsPaidWith 9 = .ok (.invokevirtual 60, 3) := by decide +kernel
theorem dX7_bookingsPaidWith_12 : decode cX7_bookingsPaidWith 12 = .ok (.if_icmp .ge 21, 3) := by decide +kernel
theorem dX7_bookingsPaidWith_15 : decode cX7_bookingsPaidWith 15 = .ok (.aload_n 0, 1) := by decide +kernel
theorem dX7_bookingsPaidWith_16 : decode cX7_bookingsPaidWith 16 = .ok (.iload_n 3, 1) := by decide +kernel
theorem dX7_bookingsPaidWith_17 : decode cX7_bookingsPaidWith 17 = .ok (.iload_n 1, 1) := by decide +kernel
theorem dX7_bookingsPaidWith_18 : decode cX7_bookingsPaidWith 18 = .ok (.invokevirtual 91, 3) := by decide +kernel
theorem dX7_bookingsPaidWith_21 : decode cX7_bookingsPaidWith 21 = .ok (.ifCond .eq 6, 3) := by decide +kernel
theorem dX7_bookingsPaidWith_24 : decode cX7_bookingsPaidWith 24 = .ok (.iinc 2 1, 3) := by decide +kernel
theorem dX7_bookingsPaidWith_27 : decode cX7_bookingsPaidWith 27 = .ok (.iinc 3 1, 3) := by decide +kernel
theorem dX7_bookingsPaidWith_30 : decode cX7_bookingsPaidWith 30 = .ok (.goto (-26), 3) := by decide +kernel
theorem dX7_bookingsPaidWith_33 : decode cX7_bookingsPaidWith 33 = .ok (.iload_n 2, 1) := by decide +kernel
theorem dX7_bookingsPaidWith_34 : decode cX7_bookingsPaidWith 34 = .ok (.ireturn, 1) := by decide +kernel
theorem dX7_isPaidWith_0 : decode cX7_isPaidWith 0 = .ok (.iconst 0, 1) := by decide +kernel
theorem dX7_isPaidWith_1 : decode cX7_isPaidWith 1 = .ok (.istore_n 3, 1) := by decide +kernel
theorem dX7_isPaidWith_2 : decode cX7_isPaidWith 2 = .ok (.iload_n 3, 1) := by decide +kernel
theorem dX7_isPaidWith_3 : decode cX7_isPaidWith 3 = .ok (.aload_n 0, 1) := by decide +kernel
theorem dX7_isPaidWith_4 : decode cX7_isPaidWith 4 = .ok (.getfield 26, 3) := by decide +kernel
theorem dX7_isPaidWith_7 : decode cX7_isPaidWith 7 = .ok (.invokevirtual 60, 3) := by decide +kernel
theorem dX7_isPaidWith_10 : decode cX7_isPaidWith 10 = .ok (.if_icmp .ge 49, 3) := by decide +kernel
theorem dX7_isPaidWith_13 : decode cX7_isPaidWith 13 = .ok (.aload_n 0, 1) := by decide +kernel
theorem dX7_isPaidWith_14 : decode cX7_isPaidWith 14 = .ok (.getfield 26, 3) := by decide +kernel
theorem dX7_isPaidWith_17 : decode cX7_isPaidWith 17 = .ok (.iload_n 3, 1) := by decide +kernel
theorem dX7_isPaidWith_18 : decode cX7_isPaidWith 18 = .ok (.iconst 0, 1) := by decide +kernel
theorem dX7_isPaidWith_19 : decode cX7_isPaidWith 19 = .ok (.invokevirtual 52, 3) := by decide +kernel
theorem dX7_isPaidWith_22 : decode cX7_isPaidWith 22 = .ok (.iload_n 1, 1) := by decide +kernel
theorem dX7_isPaidWith_23 : decode cX7_isPaidWith 23 = .ok (.if_icmp .ne 30, 3) := by decide +kernel
theorem dX7_isPaidWith_26 : decode cX7_isPaidWith 26 = .ok (.aload_n 0, 1) := by decide +kernel
theorem dX7_isPaidWith_27 : decode cX7_isPaidWith 27 = .ok (.getfield 26, 3) := by decide +kernel
theorem dX7_isPaidWith_30 : decode cX7_isPaidWith 30 = .ok (.iload_n 3, 1) := by decide +kernel
theorem dX7_isPaidWith_31 : decode cX7_isPaidWith 31 = .ok (.iconst 1, 1) := by decide +kernel
theorem dX7_isPaidWith_32 : decode cX7_isPaidWith 32 = .ok (.invokevirtual 52, 3) := by decide +kernel
theorem dX7_isPaidWith_35 : decode cX7_isPaidWith 35 = .ok (.iload_n 2, 1) := by decide +kernel
theorem dX7_isPaidWith_36 : decode cX7_isPaidWith 36 = .ok (.if_icmp .ne 17, 3) := by decide +kernel
theorem dX7_isPaidWith_39 : decode cX7_isPaidWith 39 = .ok (.aload_n 0, 1) := by decide +kernel
theorem dX7_isPaidWith_40 : decode cX7_isPaidWith 40 = .ok (.getfield 26, 3) := by decide +kernel
theorem dX7_isPaidWith_43 : decode cX7_isPaidWith 43 = .ok (.iload_n 3, 1) := by decide +kernel
theorem dX7_isPaidWith_44 : decode cX7_isPaidWith 44 = .ok (.iconst 2, 1) := by decide +kernel
theorem dX7_isPaidWith_45 : decode cX7_isPaidWith 45 = .ok (.invokevirtual 52, 3) := by decide +kernel
theorem dX7_isPaidWith_48 : decode cX7_isPaidWith 48 = .ok (.ifCond .le 5, 3) := by decide +kernel
theorem dX7_isPaidWith_51 : decode cX7_isPaidWith 51 = .ok (.iconst 1, 1) := by decide +kernel
theorem dX7_isPaidWith_52 : decode cX7_isPaidWith 52 = .ok (.ireturn, 1) := by decide +kernel
theorem dX7_isPaidWith_53 : decode cX7_isPaidWith 53 = .ok (.iinc 3 1, 3) := by decide +kernel
theorem dX7_isPaidWith_56 : decode cX7_isPaidWith 56 = .ok (.goto (-54), 3) := by decide +kernel
theorem dX7_isPaidWith_59 : decode cX7_isPaidWith 59 = .ok (.iconst 0, 1) := by decide +kernel
theorem dX7_isPaidWith_60 : decode cX7_isPaidWith 60 = .ok (.ireturn, 1) := by decide +kernel
theorem dX7_paymentAt_0 : decode cX7_paymentAt 0 = .ok (.iconst 0, 1) := by decide +kernel
theorem dX7_paymentAt_1 : decode cX7_paymentAt 1 = .ok (.istore_n 3, 1) := by decide +kernel
theorem dX7_paymentAt_2 : decode cX7_paymentAt 2 = .ok (.iload_n 3, 1) := by decide +kernel
theorem dX7_paymentAt_3 : decode cX7_paymentAt 3 = .ok (.aload_n 0, 1) := by decide +kernel
theorem dX7_paymentAt_4 : decode cX7_paymentAt 4 = .ok (.getfield 26, 3) := by decide +kernel
theorem dX7_paymentAt_7 : decode cX7_paymentAt 7 = .ok (.invokevirtual 60, 3) := by decide +kernel
theorem dX7_paymentAt_10 : decode cX7_paymentAt 10 = .ok (.if_icmp .ge 37, 3) := by decide +kernel
theorem dX7_paymentAt_13 : decode cX7_paymentAt 13 = .ok (.aload_n 0, 1) := by decide +kernel
theorem dX7_paymentAt_14 : decode cX7_paymentAt 14 = .ok (.getfield 26, 3) := by decide +kernel
theorem dX7_paymentAt_17 : decode cX7_paymentAt 17 = .ok (.iload_n 3, 1) := by decide +kernel
theorem dX7_paymentAt_18 : decode cX7_paymentAt 18 = .ok (.iconst 0, 1) := by decide +kernel
theorem dX7_paymentAt_19 : decode cX7_paymentAt 19 = .ok (.invokevirtual 52, 3) := by decide +kernel
theorem dX7_paymentAt_22 : decode cX7_paymentAt 22 = .ok (.iload_n 1, 1) := by decide +kernel
theorem dX7_paymentAt_23 : decode cX7_paymentAt 23 = .ok (.if_icmp .ne 18, 3) := by decide +kernel
theorem dX7_paymentAt_26 : decode cX7_paymentAt 26 = .ok (.aload_n 0, 1) := by decide +kernel
theorem dX7_paymentAt_27 : decode cX7_paymentAt 27 = .ok (.getfield 26, 3) := by decide +kernel
theorem dX7_paymentAt_30 : decode cX7_paymentAt 30 = .ok (.iload_n 3, 1) := by decide +kernel
theorem dX7_paymentAt_31 : decode cX7_paymentAt 31 = .ok (.iconst 3, 1) := by decide +kernel
theorem dX7_paymentAt_32 : decode cX7_paymentAt 32 = .ok (.invokevirtual 52, 3) := by decide +kernel
theorem dX7_paymentAt_35 : decode cX7_paymentAt 35 = .ok (.iload_n 2, 1) := by decide +kernel
theorem dX7_paymentAt_36 : decode cX7_paymentAt 36 = .ok (.if_icmp .ne 5, 3) := by decide +kernel
theorem dX7_paymentAt_39 : decode cX7_paymentAt 39 = .ok (.iload_n 3, 1) := by decide +kernel
theorem dX7_paymentAt_40 : decode cX7_paymentAt 40 = .ok (.ireturn, 1) := by decide +kernel
theorem dX7_paymentAt_41 : decode cX7_paymentAt 41 = .ok (.iinc 3 1, 3) := by decide +kernel
theorem dX7_paymentAt_44 : decode cX7_paymentAt 44 = .ok (.goto (-42), 3) := by decide +kernel
theorem dX7_paymentAt_47 : decode cX7_paymentAt 47 = .ok (.bipush (-9), 2) := by decide +kernel
theorem dX7_paymentAt_49 : decode cX7_paymentAt 49 = .ok (.ireturn, 1) := by decide +kernel
theorem dX8_init_0 : decode cX8_init 0 = .ok (.aload_n 0, 1) := by decide +kernel
theorem dX8_init_1 : decode cX8_init 1 = .ok (.invokespecial 1, 3) := by decide +kernel
theorem dX8_init_4 : decode cX8_init 4 = .ok (.aload_n 0, 1) := by decide +kernel
theorem dX8_init_5 : decode cX8_init 5 = .ok (.new 7, 3) := by decide +kernel
theorem dX8_init_8 : decode cX8_init 8 = .ok (.dup, 1) := by decide +kernel
theorem dX8_init_9 : decode cX8_init 9 = .ok (.invokespecial 9, 3) := by decide +kernel
theorem dX8_init_12 : decode cX8_init 12 = .ok (.putfield 10, 3) := by decide +kernel
theorem dX8_init_15 : decode cX8_init 15 = .ok (.aload_n 0, 1) := by decide +kernel
theorem dX8_init_16 : decode cX8_init 16 = .ok (.aload_n 0, 1) := by decide +kernel
theorem dX8_init_17 : decode cX8_init 17 = .ok (.getfield 10, 3) := by decide +kernel
theorem dX8_init_20 : decode cX8_init 20 = .ok (.getfield 16, 3) := by decide +kernel
theorem dX8_init_23 : decode cX8_init 23 = .ok (.putfield 20, 3) := by decide +kernel
theorem dX8_init_26 : decode cX8_init 26 = .ok (.aload_n 0, 1) := by decide +kernel
theorem dX8_init_27 : decode cX8_init 27 = .ok (.new 21, 3) := by decide +kernel
theorem dX8_init_30 : decode cX8_init 30 = .ok (.dup, 1) := by decide +kernel
theorem dX8_init_31 : decode cX8_init 31 = .ok (.aload_n 0, 1) := by decide +kernel
theorem dX8_init_32 : decode cX8_init 32 = .ok (.getfield 20, 3) := by decide +kernel
theorem dX8_init_35 : decode cX8_init 35 = .ok (.invokespecial 23, 3) := by decide +kernel
theorem dX8_init_38 : decode cX8_init 38 = .ok (.putfield 26, 3) := by decide +kernel
theorem dX8_init_41 : decode cX8_init 41 = .ok (.aload_n 0, 1) := by decide +kernel
theorem dX8_init_42 : decode cX8_init 42 = .ok (.new 30, 3) := by decide +kernel
theorem dX8_init_45 : decode cX8_init 45 = .ok (.dup, 1) := by decide +kernel
theorem dX8_init_46 : decode cX8_init 46 = .ok (.aload_n 0, 1) := by decide +kernel
theorem dX8_init_47 : decode cX8_init 47 = .ok (.getfield 20, 3) := by decide +kernel
theorem dX8_init_50 : decode cX8_init 50 = .ok (.invokespecial 32, 3) := by decide +kernel
theorem dX8_init_53 : decode cX8_init 53 = .ok (.putfield 33, 3) := by decide +kernel
theorem dX8_init_56 : decode cX8_init 56 = .ok (.aload_n 0, 1) := by decide +kernel
theorem dX8_init_57 : decode cX8_init 57 = .ok (.new 37, 3) := by decide +kernel
theorem dX8_init_60 : decode cX8_init 60 = .ok (.dup, 1) := by decide +kernel
theorem dX8_init_61 : decode cX8_init 61 = .ok (.invokespecial 39, 3) := by decide +kernel
theorem dX8_init_64 : decode cX8_init 64 = .ok (.putfield 40, 3) := by decide +kernel
theorem dX8_init_67 : decode cX8_init 67 = .ok (.aload_n 0, 1) := by decide +kernel
theorem dX8_init_68 : decode cX8_init 68 = .ok (.new 44, 3) := by decide +kernel
theorem dX8_init_71 : decode cX8_init 71 = .ok (.dup, 1) := by decide +kernel
theorem dX8_init_72 : decode cX8_init 72 = .ok (.invokespecial 46, 3) := by decide +kernel
theorem dX8_init_75 : decode cX8_init 75 = .ok (.putfield 47, 3) := by decide +kernel
theorem dX8_init_78 : decode cX8_init 78 = .ok (.return_, 1) := by decide +kernel
theorem dX8_addRoom_0 : decode cX8_addRoom 0 = .ok (.aload_n 0, 1) := by decide +kernel
theorem dX8_addRoom_1 : decode cX8_addRoom 1 = .ok (.getfield 40, 3) := by decide +kernel
theorem dX8_addRoom_4 : decode cX8_addRoom 4 = .ok (.aload_n 0, 1) := by decide +kernel
theorem dX8_addRoom_5 : decode cX8_addRoom 5 = .ok (.getfield 10, 3) := by decide +kernel
theorem dX8_addRoom_8 : decode cX8_addRoom 8 = .ok (.invokevirtual 51, 3) := by decide +kernel
theorem dX8_addRoom_11 : decode cX8_addRoom 11 = .ok (.aload_n 0, 1) := by decide +kernel
theorem dX8_addRoom_12 : decode cX8_addRoom 12 = .ok (.getfield 40, 3) := by decide +kernel
theorem dX8_addRoom_15 : decode cX8_addRoom 15 = .ok (.aload_n 0, 1) := by decide +kernel
theorem dX8_addRoom_16 : decode cX8_addRoom 16 = .ok (.getfield 26, 3) := by decide +kernel
theorem dX8_addRoom_19 : decode cX8_addRoom 19 = .ok (.iload_n 1, 1) := by decide +kernel
theorem dX8_addRoom_20 : decode cX8_addRoom 20 = .ok (.iload_n 2, 1) := by decide +kernel
theorem dX8_addRoom_21 : decode cX8_addRoom 21 = .ok (.iload_n 3, 1) := by decide +kernel
theorem dX8_addRoom_22 : decode cX8_addRoom 22 = .ok (.iload 4, 2) := by decide +kernel
theorem dX8_addRoom_24 : decode cX8_addRoom 24 = .ok (.invokevirtual 55, 3) := by decide +kernel
theorem dX8_addRoom_27 : decode cX8_addRoom 27 = .ok (.invokevirtual 59, 3) := by decide +kernel
theorem dX8_addRoom_30 : decode cX8_addRoom 30 = .ok (.ireturn, 1) := by decide +kernel
theorem dX8_setPrice_0 : decode cX8_setPrice 0 = .ok (.aload_n 0, 1) := by decide +kernel
theorem dX8_setPrice_1 : decode cX8_setPrice 1 = .ok (.getfield 40, 3) := by decide +kernel
theorem dX8_setPrice_4 : decode cX8_setPrice 4 = .ok (.aload_n 0, 1) := by decide +kernel
theorem dX8_setPrice_5 : decode cX8_setPrice 5 = .ok (.getfield 10, 3) := by decide +kernel
theorem dX8_setPrice_8 : decode cX8_setPrice 8 = .ok (.invokevirtual 51, 3) := by decide +kernel
theorem dX8_setPrice_11 : decode cX8_setPrice 11 = .ok (.aload_n 0, 1) := by decide +kernel
theorem dX8_setPrice_12 : decode cX8_setPrice 12 = .ok (.getfield 40, 3) := by decide +kernel
theorem dX8_setPrice_15 : decode cX8_setPrice 15 = .ok (.aload_n 0, 1) := by decide +kernel
theorem dX8_setPrice_16 : decode cX8_setPrice 16 = .ok (.getfield 26, 3) := by decide +kernel
theorem dX8_setPrice_19 : decode cX8_setPrice 19 = .ok (.iload_n 1, 1) := by decide +kernel
theorem dX8_setPrice_20 : decode cX8_setPrice 20 = .ok (.iload_n 2, 1) := by decide +kernel
theorem dX8_setPrice_21 : decode cX8_setPrice 21 = .ok (.invokevirtual 63, 3) := by decide +kernel
theorem dX8_setPrice_24 : decode cX8_setPrice 24 = .ok (.invokevirtual 59, 3) := by decide +kernel
theorem dX8_setPrice_27 : decode cX8_setPrice 27 = .ok (.ireturn, 1) := by decide +kernel
theorem dX8_set_0 : decode cX8_set 0 = .ok (.aload_n 0, 1) := by decide +kernel
theorem dX8_set_1 : decode cX8_set 1 = .ok (.getfield 40, 3) := by decide +kernel
theorem dX8_set_4 : decode cX8_set 4 = .ok (.aload_n 0, 1) := by decide +kernel
theorem dX8_set_5 : decode cX8_set 5 = .ok (.getfield 10, 3) := by decide +kernel
theorem dX8_set_8 : decode cX8_set 8 = .ok (.invokevirtual 51, 3) := by decide +kernel
theorem dX8_set_11 : decode cX8_set 11 = .ok (.aload_n 0, 1) := by decide +kernel
theorem dX8_set_12 : decode cX8_set 12 = .ok (.getfield 40, 3) := by decide +kernel
theorem dX8_set_15 : decode cX8_set 15 = .ok (.aload_n 0, 1) := by decide +kernel
theorem dX8_set_16 : decode cX8_set 16 = .ok (.getfield 26, 3) := by decide +kernel
theorem dX8_set_19 : decode cX8_set 19 = .ok (.iload_n 1, 1) := by decide +kernel
theorem dX8_set_20 : decode cX8_set 20 = .ok (.iload_n 2, 1) := by decide +kernel
theorem dX8_set_21 : decode cX8_set 21 = .ok (.invokevirtual 67, 3) := by decide +kernel
theorem dX8_set_24 : decode cX8_set 24 = .ok (.invokevirtual 59, 3) := by decide +kernel
theorem dX8_set_27 : decode cX8_set 27 = .ok (.ireturn, 1) := by decide +kernel
theorem dX8_sellVoucher_0 : decode cX8_sellVoucher 0 = .ok (.aload_n 0, 1) := by decide +kernel
theorem dX8_sellVoucher_1 : decode cX8_sellVoucher 1 = .ok (.getfield 40, 3) := by decide +kernel
theorem dX8_sellVoucher_4 : decode cX8_sellVoucher 4 = .ok (.aload_n 0, 1) := by decide +kernel
theorem dX8_sellVoucher_5 : decode cX8_sellVoucher 5 = .ok (.getfield 10, 3) := by decide +kernel
theorem dX8_sellVoucher_8 : decode cX8_sellVoucher 8 = .ok (.invokevirtual 51, 3) := by decide +kernel
theorem dX8_sellVoucher_11 : decode cX8_sellVoucher 11 = .ok (.aload_n 0, 1) := by decide +kernel
theorem dX8_sellVoucher_12 : decode cX8_sellVoucher 12 = .ok (.getfield 40, 3) := by decide +kernel
theorem dX8_sellVoucher_15 : decode cX8_sellVoucher 15 = .ok (.aload_n 0, 1) := by decide +kernel
theorem dX8_sellVoucher_16 : decode cX8_sellVoucher 16 = .ok (.getfield 26, 3) := by decide +kernel
theorem dX8_sellVoucher_19 : decode cX8_sellVoucher 19 = .ok (.iload_n 1, 1) := by decide +kernel
theorem dX8_sellVoucher_20 : decode cX8_sellVoucher 20 = .ok (.invokevirtual 70, 3) := by decide +kernel
theorem dX8_sellVoucher_23 : decode cX8_sellVoucher 23 = .ok (.invokevirtual 59, 3) := by decide +kernel
theorem dX8_sellVoucher_26 : decode cX8_sellVoucher 26 = .ok (.ireturn, 1) := by decide +kernel
theorem dX8_book_0 : decode cX8_book 0 = .ok (.aload_n 0, 1) := by decide +kernel
theorem dX8_book_1 : decode cX8_book 1 = .ok (.getfield 40, 3) := by decide +kernel
theorem dX8_book_4 : decode cX8_book 4 = .ok (.aload_n 0, 1) := by decide +kernel
theorem dX8_book_5 : decode cX8_book 5 = .ok (.getfield 10, 3) := by decide +kernel
theorem dX8_book_8 : decode cX8_book 8 = .ok (.invokevirtual 51, 3) := by decide +kernel
theorem dX8_book_11 : decode cX8_book 11 = .ok (.aload_n 0, 1) := by decide +kernel
theorem dX8_book_12 : decode cX8_book 12 = .ok (.getfield 40, 3) := by decide +kernel
theorem dX8_book_15 : decode cX8_book 15 = .ok (.aload_n 0, 1) := by decide +kernel
theorem dX8_book_16 : decode cX8_book 16 = .ok (.getfield 26, 3) := by decide +kernel
theorem dX8_book_19 : decode cX8_book 19 = .ok (.iload_n 1, 1) := by decide +kernel
theorem dX8_book_20 : decode cX8_book 20 = .ok (.iload_n 2, 1) := by decide +kernel
theorem dX8_book_21 : decode cX8_book 21 = .ok (.iload_n 3, 1) := by decide +kernel
theorem dX8_book_22 : decode cX8_book 22 = .ok (.iload 4, 2) := by decide +kernel
theorem dX8_book_24 : decode cX8_book 24 = .ok (.invokevirtual 73, 3) := by decide +kernel
theorem dX8_book_27 : decode cX8_book 27 = .ok (.invokevirtual 59, 3) := by decide +kernel
theorem dX8_book_30 : decode cX8_book 30 = .ok (.ireturn, 1) := by decide +kernel
theorem dX8_move_0 : decode cX8_move 0 = .ok (.aload_n 0, 1) := by decide +kernel
theorem dX8_move_1 : decode cX8_move 1 = .ok (.getfield 40, 3) := by decide +kernel
theorem dX8_move_4 : decode cX8_move 4 = .ok (.aload_n 0, 1) := by decide +kernel
theorem dX8_move_5 : decode cX8_move 5 = .ok (.getfield 10, 3) := by decide +kernel
theorem dX8_move_8 : decode cX8_move 8 = .ok (.invokevirtual 51, 3) := by decide +kernel
theorem dX8_move_11 : decode cX8_move 11 = .ok (.aload_n 0, 1) := by decide +kernel
theorem dX8_move_12 : decode cX8_move 12 = .ok (.getfield 40, 3) := by decide +kernel
theorem dX8_move_15 : decode cX8_move 15 = .ok (.aload_n 0, 1) := by decide +kernel
theorem dX8_move_16 : decode cX8_move 16 = .ok (.getfield 26, 3) := by decide +kernel
theorem dX8_move_19 : decode cX8_move 19 = .ok (.iload_n 1, 1) := by decide +kernel
theorem dX8_move_20 : decode cX8_move 20 = .ok (.iload_n 2, 1) := by decide +kernel
theorem dX8_move_21 : decode cX8_move 21 = .ok (.invokevirtual 76, 3) := by decide +kernel
theorem dX8_move_24 : decode cX8_move 24 = .ok (.invokevirtual 59, 3) := by decide +kernel
theorem dX8_move_27 : decode cX8_move 27 = .ok (.ireturn, 1) := by decide +kernel
theorem dX8_cancel_0 : decode cX8_cancel 0 = .ok (.aload_n 0, 1) := by decide +kernel
theorem dX8_cancel_1 : decode cX8_cancel 1 = .ok (.getfield 40, 3) := by decide +kernel
theorem dX8_cancel_4 : decode cX8_cancel 4 = .ok (.aload_n 0, 1) := by decide +kernel
theorem dX8_cancel_5 : decode cX8_cancel 5 = .ok (.getfield 10, 3) := by decide +kernel
theorem dX8_cancel_8 : decode cX8_cancel 8 = .ok (.invokevirtual 51, 3) := by decide +kernel
theorem dX8_cancel_11 : decode cX8_cancel 11 = .ok (.aload_n 0, 1) := by decide +kernel
theorem dX8_cancel_12 : decode cX8_cancel 12 = .ok (.getfield 40, 3) := by decide +kernel
theorem dX8_cancel_15 : decode cX8_cancel 15 = .ok (.aload_n 0, 1) := by decide +kernel
theorem dX8_cancel_16 : decode cX8_cancel 16 = .ok (.getfield 26, 3) := by decide +kernel
theorem dX8_cancel_19 : decode cX8_cancel 19 = .ok (.iload_n 1, 1) := by decide +kernel
theorem dX8_cancel_20 : decode cX8_cancel 20 = .ok (.invokevirtual 79, 3) := by decide +kernel
theorem dX8_cancel_23 : decode cX8_cancel 23 = .ok (.invokevirtual 59, 3) := by decide +kernel
theorem dX8_cancel_26 : decode cX8_cancel 26 = .ok (.ireturn, 1) := by decide +kernel
theorem dX8_merge_0 : decode cX8_merge 0 = .ok (.aload_n 0, 1) := by decide +kernel
theorem dX8_merge_1 : decode cX8_merge 1 = .ok (.getfield 40, 3) := by decide +kernel
theorem dX8_merge_4 : decode cX8_merge 4 = .ok (.aload_n 0, 1) := by decide +kernel
theorem dX8_merge_5 : decode cX8_merge 5 = .ok (.getfield 10, 3) := by decide +kernel
theorem dX8_merge_8 : decode cX8_merge 8 = .ok (.invokevirtual 51, 3) := by decide +kernel
theorem dX8_merge_11 : decode cX8_merge 11 = .ok (.aload_n 0, 1) := by decide +kernel
theorem dX8_merge_12 : decode cX8_merge 12 = .ok (.getfield 40, 3) := by decide +kernel
theorem dX8_merge_15 : decode cX8_merge 15 = .ok (.aload_n 0, 1) := by decide +kernel
theorem dX8_merge_16 : decode cX8_merge 16 = .ok (.getfield 26, 3) := by decide +kernel
theorem dX8_merge_19 : decode cX8_merge 19 = .ok (.iload_n 1, 1) := by decide +kernel
theorem dX8_merge_20 : decode cX8_merge 20 = .ok (.iload_n 2, 1) := by decide +kernel
theorem dX8_merge_21 : decode cX8_merge 21 = .ok (.invokevirtual 82, 3) := by decide +kernel
theorem dX8_merge_24 : decode cX8_merge 24 = .ok (.invokevirtual 59, 3) := by decide +kernel
theorem dX8_merge_27 : decode cX8_merge 27 = .ok (.ireturn, 1) := by decide +kernel
theorem dX8_play_0 : decode cX8_play 0 = .ok (.aload_n 0, 1) := by decide +kernel
theorem dX8_play_1 : decode cX8_play 1 = .ok (.getfield 40, 3) := by decide +kernel
theorem dX8_play_4 : decode cX8_play 4 = .ok (.aload_n 0, 1) := by decide +kernel
theorem dX8_play_5 : decode cX8_play 5 = .ok (.getfield 10, 3) := by decide +kernel
theorem dX8_play_8 : decode cX8_play 8 = .ok (.invokevirtual 51, 3) := by decide +kernel
theorem dX8_play_11 : decode cX8_play 11 = .ok (.aload_n 0, 1) := by decide +kernel
theorem dX8_play_12 : decode cX8_play 12 = .ok (.getfield 40, 3) := by decide +kernel
theorem dX8_play_15 : decode cX8_play 15 = .ok (.aload_n 0, 1) := by decide +kernel
theorem dX8_play_16 : decode cX8_play 16 = .ok (.getfield 26, 3) := by decide +kernel
theorem dX8_play_19 : decode cX8_play 19 = .ok (.iload_n 1, 1) := by decide +kernel
theorem dX8_play_20 : decode cX8_play 20 = .ok (.iload_n 2, 1) := by decide +kernel
theorem dX8_play_21 : decode cX8_play 21 = .ok (.iload_n 3, 1) := by decide +kernel
theorem dX8_play_22 : decode cX8_play 22 = .ok (.iload 4, 2) := by decide +kernel
theorem dX8_play_24 : decode cX8_play 24 = .ok (.invokevirtual 85, 3) := by decide +kernel
theorem dX8_play_27 : decode cX8_play 27 = .ok (.invokevirtual 59, 3) := by decide +kernel
theorem dX8_play_30 : decode cX8_play 30 = .ok (.ireturn, 1) := by decide +kernel
theorem dX8_count_0 : decode cX8_count 0 = .ok (.iload_n 1, 1) := by decide +kernel
theorem dX8_count_1 : decode cX8_count 1 = .ok (.bipush 6, 2) := by decide +kernel
theorem dX8_count_3 : decode cX8_count 3 = .ok (.bipush 10, 2) := by decide +kernel
theorem dX8_count_5 : decode cX8_count 5 = .ok (.invokestatic 88, 3) := by decide +kernel
theorem dX8_count_8 : decode cX8_count 8 = .ok (.ifCond .eq 15, 3) := by decide +kernel
theorem dX8_count_11 : decode cX8_count 11 = .ok (.aload_n 0, 1) := by decide +kernel
theorem dX8_count_12 : decode cX8_count 12 = .ok (.getfield 20, 3) := by decide +kernel
theorem dX8_count_15 : decode cX8_count 15 = .ok (.iload_n 1, 1) := by decide +kernel
theorem dX8_count_16 : decode cX8_count 16 = .ok (.bipush 6, 2) := by decide +kernel
theorem dX8_count_18 : decode cX8_count 18 = .ok (.isub, 1) := by decide +kernel
theorem dX8_count_19 : decode cX8_count 19 = .ok (.invokevirtual 135, 3) := by decide +kernel
theorem dX8_count_22 : decode cX8_count 22 = .ok (.ireturn, 1) := by decide +kernel
theorem dX8_count_23 : decode cX8_count 23 = .ok (.iload_n 1, 1) := by decide +kernel
theorem dX8_count_24 : decode cX8_count 24 = .ok (.bipush 11, 2) := by decide +kernel
theorem dX8_count_26 : decode cX8_count 26 = .ok (.bipush 14, 2) := by decide +kernel
theorem dX8_count_28 : decode cX8_count 28 = .ok (.invokestatic 88, 3) := by decide +kernel
theorem dX8_count_31 : decode cX8_count 31 = .ok (.ifCond .eq 15, 3) := by decide +kernel
theorem dX8_count_34 : decode cX8_count 34 = .ok (.aload_n 0, 1) := by decide +kernel
theorem dX8_count_35 : decode cX8_count 35 = .ok (.getfield 20, 3) := by decide +kernel
theorem dX8_count_38 : decode cX8_count 38 = .ok (.iload_n 1, 1) := by decide +kernel
theorem dX8_count_39 : decode cX8_count 39 = .ok (.bipush 11, 2) := by decide +kernel
theorem dX8_count_41 : decode cX8_count 41 = .ok (.isub, 1) := by decide +kernel
theorem dX8_count_42 : decode cX8_count 42 = .ok (.invokevirtual 138, 3) := by decide +kernel
theorem dX8_count_45 : decode cX8_count 45 = .ok (.ireturn, 1) := by decide +kernel
theorem dX8_count_46 : decode cX8_count 46 = .ok (.iload_n 1, 1) := by decide +kernel
theorem dX8_count_47 : decode cX8_count 47 = .ok (.tableswitch 94 0 5 #[37, 48, 59, 70, 78, 86], 37) := by decide +kernel
theorem dX8_count_84 : decode cX8_count 84 = .ok (.aload_n 0, 1) := by decide +kernel
theorem dX8_count_85 : decode cX8_count 85 = .ok (.getfield 20, 3) := by decide +kernel
theorem dX8_count_88 : decode cX8_count 88 = .ok (.getfield 141, 3) := by decide +kernel
theorem dX8_count_91 : decode cX8_count 91 = .ok (.invokevirtual 145, 3) := by decide +kernel
theorem dX8_count_94 : decode cX8_count 94 = .ok (.ireturn, 1) := by decide +kernel
theorem dX8_count_95 : decode cX8_count 95 = .ok (.aload_n 0, 1) := by decide +kernel
theorem dX8_count_96 : decode cX8_count 96 = .ok (.getfield 20, 3) := by decide +kernel
theorem dX8_count_99 : decode cX8_count 99 = .ok (.getfield 150, 3) := by decide +kernel
theorem dX8_count_102 : decode cX8_count 102 = .ok (.invokevirtual 145, 3) := by decide +kernel
theorem dX8_count_105 : decode cX8_count 105 = .ok (.ireturn, 1) := by decide +kernel
theorem dX8_count_106 : decode cX8_count 106 = .ok (.aload_n 0, 1) := by decide +kernel
theorem dX8_count_107 : decode cX8_count 107 = .ok (.getfield 20, 3) := by decide +kernel
theorem dX8_count_110 : decode cX8_count 110 = .ok (.getfield 153, 3) := by decide +kernel
theorem dX8_count_113 : decode cX8_count 113 = .ok (.invokevirtual 145, 3) := by decide +kernel
theorem dX8_count_116 : decode cX8_count 116 = .ok (.ireturn, 1) := by decide +kernel
theorem dX8_count_117 : decode cX8_count 117 = .ok (.aload_n 0, 1) := by decide +kernel
theorem dX8_count_118 : decode cX8_count 118 = .ok (.getfield 10, 3) := by decide +kernel
theorem dX8_count_121 : decode cX8_count 121 = .ok (.invokevirtual 156, 3) := by decide +kernel
theorem dX8_count_124 : decode cX8_count 124 = .ok (.ireturn, 1) := by decide +kernel
theorem dX8_count_125 : decode cX8_count 125 = .ok (.aload_n 0, 1) := by decide +kernel
theorem dX8_count_126 : decode cX8_count 126 = .ok (.getfield 40, 3) := by decide +kernel
theorem dX8_count_129 : decode cX8_count 129 = .ok (.invokevirtual 159, 3) := by decide +kernel
theorem dX8_count_132 : decode cX8_count 132 = .ok (.ireturn, 1) := by decide +kernel
theorem dX8_count_133 : decode cX8_count 133 = .ok (.aload_n 0, 1) := by decide +kernel
theorem dX8_count_134 : decode cX8_count 134 = .ok (.getfield 47, 3) := by decide +kernel
theorem dX8_count_137 : decode cX8_count 137 = .ok (.invokevirtual 160, 3) := by decide +kernel
theorem dX8_count_140 : decode cX8_count 140 = .ok (.ireturn, 1) := by decide +kernel
theorem dX8_count_141 : decode cX8_count 141 = .ok (.iconst (-1), 1) := by decide +kernel
theorem dX8_count_142 : decode cX8_count 142 = .ok (.ireturn, 1) := by decide +kernel
theorem dX8_room_0 : decode cX8_room 0 = .ok (.aload_n 0, 1) := by decide +kernel
theorem dX8_room_1 : decode cX8_room 1 = .ok (.getfield 20, 3) := by decide +kernel
theorem dX8_room_4 : decode cX8_room 4 = .ok (.getfield 141, 3) := by decide +kernel
theorem dX8_room_7 : decode cX8_room 7 = .ok (.iload_n 1, 1) := by decide +kernel
theorem dX8_room_8 : decode cX8_room 8 = .ok (.invokevirtual 161, 3) := by decide +kernel
theorem dX8_room_11 : decode cX8_room 11 = .ok (.ifCond .eq 13, 3) := by decide +kernel
theorem dX8_room_14 : decode cX8_room 14 = .ok (.iload_n 2, 1) := by decide +kernel
theorem dX8_room_15 : decode cX8_room 15 = .ok (.iconst 0, 1) := by decide +kernel
theorem dX8_room_16 : decode cX8_room 16 = .ok (.bipush 11, 2) := by decide +kernel
theorem dX8_room_18 : decode cX8_room 18 = .ok (.invokestatic 88, 3) := by decide +kernel
theorem dX8_room_21 : decode cX8_room 21 = .ok (.ifCond .ne 5, 3) := by decide +kernel
theorem dX8_room_24 : decode cX8_room 24 = .ok (.iconst (-1), 1) := by decide +kernel
theorem dX8_room_25 : decode cX8_room 25 = .ok (.ireturn, 1) := by decide +kernel
theorem dX8_room_26 : decode cX8_room 26 = .ok (.iload_n 2, 1) := by decide +kernel
theorem dX8_room_27 : decode cX8_room 27 = .ok (.bipush 11, 2) := by decide +kernel
theorem dX8_room_29 : decode cX8_room 29 = .ok (.if_icmp .ne 15, 3) := by decide +kernel
theorem dX8_room_32 : decode cX8_room 32 = .ok (.aload_n 0, 1) := by decide +kernel
theorem dX8_room_33 : decode cX8_room 33 = .ok (.getfield 20, 3) := by decide +kernel
theorem dX8_room_36 : decode cX8_room 36 = .ok (.iload_n 1, 1) := by decide +kernel
theorem dX8_room_37 : decode cX8_room 37 = .ok (.iconst (-1), 1) := by decide +kernel
theorem dX8_room_38 : decode cX8_room 38 = .ok (.invokevirtual 165, 3) := by decide +kernel
theorem dX8_room_41 : decode cX8_room 41 = .ok (.goto 15, 3) := by decide +kernel
theorem dX8_room_44 : decode cX8_room 44 = .ok (.aload_n 0, 1) := by decide +kernel
theorem dX8_room_45 : decode cX8_room 45 = .ok (.getfield 20, 3) := by decide +kernel
theorem dX8_room_48 : decode cX8_room 48 = .ok (.getfield 141, 3) := by decide +kernel
theorem dX8_room_51 : decode cX8_room 51 = .ok (.iload_n 1, 1) := by decide +kernel
theorem dX8_room_52 : decode cX8_room 52 = .ok (.iload_n 2, 1) := by decide +kernel
theorem dX8_room_53 : decode cX8_room 53 = .ok (.invokevirtual 168, 3) := by decide +kernel
theorem dX8_room_56 : decode cX8_room 56 = .ok (.ireturn, 1) := by decide +kernel
theorem dX8_booking_0 : decode cX8_booking 0 = .ok (.aload_n 0, 1) := by decide +kernel
theorem dX8_booking_1 : decode cX8_booking 1 = .ok (.getfield 20, 3) := by decide +kernel
theorem dX8_booking_4 : decode cX8_booking 4 = .ok (.getfield 150, 3) := by decide +kernel
theorem dX8_booking_7 : decode cX8_booking 7 = .ok (.iload_n 1, 1) := by decide +kernel
theorem dX8_booking_8 : decode cX8_booking 8 = .ok (.invokevirtual 161, 3) := by decide +kernel
theorem dX8_booking_11 : decode cX8_booking 11 = .ok (.ifCond .eq 13, 3) := by decide +kernel
theorem dX8_booking_14 : decode cX8_booking 14 = .ok (.iload_n 2, 1) := by decide +kernel
theorem dX8_booking_15 : decode cX8_booking 15 = .ok (.iconst 0, 1) := by decide +kernel
theorem dX8_booking_16 : decode cX8_booking 16 = .ok (.bipush 10, 2) := by decide +kernel
theorem dX8_booking_18 : decode cX8_booking 18 = .ok (.invokestatic 88, 3) := by decide +kernel
theorem dX8_booking_21 : decode cX8_booking 21 = .ok (.ifCond .ne 5, 3) := by decide +kernel
theorem dX8_booking_24 : decode cX8_booking 24 = .ok (.iconst (-1), 1) := by decide +kernel
theorem dX8_booking_25 : decode cX8_booking 25 = .ok (.ireturn, 1) := by decide +kernel
theorem dX8_booking_26 : decode cX8_booking 26 = .ok (.iload_n 2, 1) := by decide +kernel
theorem dX8_booking_27 : decode cX8_booking 27 = .ok (.lookupswitch 43 #[(6, 25), (10, 34)], 25) := by decide +kernel
theorem dX8_booking_52 : decode cX8_booking 52 = .ok (.aload_n 0, 1) := by decide +kernel
theorem dX8_booking_53 : decode cX8_booking 53 = .ok (.getfield 20, 3) := by decide +kernel
theorem dX8_booking_56 : decode cX8_booking 56 = .ok (.iload_n 1, 1) := by decide +kernel
theorem dX8_booking_57 : decode cX8_booking 57 = .ok (.invokevirtual 171, 3) := by decide +kernel
theorem dX8_booking_60 : decode cX8_booking 60 = .ok (.ireturn, 1) := by decide +kernel
theorem dX8_booking_61 : decode cX8_booking 61 = .ok (.aload_n 0, 1) := by decide +kernel
theorem dX8_booking_62 : decode cX8_booking 62 = .ok (.getfield 20, 3) := by decide +kernel
theorem dX8_booking_65 : decode cX8_booking 65 = .ok (.iload_n 1, 1) := by decide +kernel
theorem dX8_booking_66 : decode cX8_booking 66 = .ok (.invokevirtual 174, 3) := by decide +kernel
theorem dX8_booking_69 : decode cX8_booking 69 = .ok (.ireturn, 1) := by decide +kernel
theorem dX8_booking_70 : decode cX8_booking 70 = .ok (.aload_n 0, 1) := by decide +kernel
theorem dX8_booking_71 : decode cX8_booking 71 = .ok (.getfield 20, 3) := by decide +kernel
theorem dX8_booking_74 : decode cX8_booking 74 = .ok (.getfield 150, 3) := by decide +kernel
theorem dX8_booking_77 : decode cX8_booking 77 = .ok (.iload_n 1, 1) := by decide +kernel
theorem dX8_booking_78 : decode cX8_booking 78 = .ok (.iload_n 2, 1) := by decide +kernel
theorem dX8_booking_79 : decode cX8_booking 79 = .ok (.invokevirtual 168, 3) := by decide +kernel
theorem dX8_booking_82 : decode cX8_booking 82 = .ok (.ireturn, 1) := by decide +kernel
theorem dX8_voucher_0 : decode cX8_voucher 0 = .ok (.aload_n 0, 1) := by decide +kernel
theorem dX8_voucher_1 : decode cX8_voucher 1 = .ok (.getfield 20, 3) := by decide +kernel
theorem dX8_voucher_4 : decode cX8_voucher 4 = .ok (.getfield 153, 3) := by decide +kernel
theorem dX8_voucher_7 : decode cX8_voucher 7 = .ok (.iload_n 1, 1) := by decide +kernel
theorem dX8_voucher_8 : decode cX8_voucher 8 = .ok (.invokevirtual 161, 3) := by decide +kernel
theorem dX8_voucher_11 : decode cX8_voucher 11 = .ok (.ifCond .eq 12, 3) := by decide +kernel
theorem dX8_voucher_14 : decode cX8_voucher 14 = .ok (.iload_n 2, 1) := by decide +kernel
theorem dX8_voucher_15 : decode cX8_voucher 15 = .ok (.iconst 0, 1) := by decide +kernel
theorem dX8_voucher_16 : decode cX8_voucher 16 = .ok (.iconst 2, 1) := by decide +kernel
theorem dX8_voucher_17 : decode cX8_voucher 17 = .ok (.invokestatic 88, 3) := by decide +kernel
theorem dX8_voucher_20 : decode cX8_voucher 20 = .ok (.ifCond .ne 5, 3) := by decide +kernel
theorem dX8_voucher_23 : decode cX8_voucher 23 = .ok (.iconst (-1), 1) := by decide +kernel
theorem dX8_voucher_24 : decode cX8_voucher 24 = .ok (.ireturn, 1) := by decide +kernel
theorem dX8_voucher_25 : decode cX8_voucher 25 = .ok (.iload_n 2, 1) := by decide +kernel
theorem dX8_voucher_26 : decode cX8_voucher 26 = .ok (.iconst 2, 1) := by decide +kernel
theorem dX8_voucher_27 : decode cX8_voucher 27 = .ok (.if_icmp .ne 14, 3) := by decide +kernel
theorem dX8_voucher_30 : decode cX8_voucher 30 = .ok (.aload_n 0, 1) := by decide +kernel
theorem dX8_voucher_31 : decode cX8_voucher 31 = .ok (.getfield 20, 3) := by decide +kernel
theorem dX8_voucher_34 : decode cX8_voucher 34 = .ok (.iload_n 1, 1) := by decide +kernel
theorem dX8_voucher_35 : decode cX8_voucher 35 = .ok (.invokevirtual 177, 3) := by decide +kernel
theorem dX8_voucher_38 : decode cX8_voucher 38 = .ok (.goto 15, 3) := by decide +kernel
theorem dX8_voucher_41 : decode cX8_voucher 41 = .ok (.aload_n 0, 1) := by decide +kernel
theorem dX8_voucher_42 : decode cX8_voucher 42 = .ok (.getfield 20, 3) := by decide +kernel
theorem dX8_voucher_45 : decode cX8_voucher 45 = .ok (.getfield 153, 3) := by decide +kernel
theorem dX8_voucher_48 : decode cX8_voucher 48 = .ok (.iload_n 1, 1) := by decide +kernel
theorem dX8_voucher_49 : decode cX8_voucher 49 = .ok (.iload_n 2, 1) := by decide +kernel
theorem dX8_voucher_50 : decode cX8_voucher 50 = .ok (.invokevirtual 168, 3) := by decide +kernel
theorem dX8_voucher_53 : decode cX8_voucher 53 = .ok (.ireturn, 1) := by decide +kernel
theorem dX8_money_0 : decode cX8_money 0 = .ok (.iload_n 1, 1) := by decide +kernel
theorem dX8_money_1 : decode cX8_money 1 = .ok (.tableswitch 124 0 6 #[43, 51, 63, 75, 88, 100, 112], 43) := by decide +kernel
theorem dX8_money_44 : decode cX8_money 44 = .ok (.aload_n 0, 1) := by decide +kernel
theorem dX8_money_45 : decode cX8_money 45 = .ok (.getfield 20, 3) := by decide +kernel
theorem dX8_money_48 : decode cX8_money 48 = .ok (.getfield 101, 3) := by decide +kernel
theorem dX8_money_51 : decode cX8_money 51 = .ok (.ireturn, 1) := by decide +kernel
theorem dX8_money_52 : decode cX8_money 52 = .ok (.aload_n 0, 1) := by decide +kernel
theorem dX8_money_53 : decode cX8_money 53 = .ok (.getfield 20, 3) := by decide +kernel
theorem dX8_money_56 : decode cX8_money 56 = .ok (.getfield 153, 3) := by decide +kernel
theorem dX8_money_59 : decode cX8_money 59 = .ok (.iconst 1, 1) := by decide +kernel
theorem dX8_money_60 : decode cX8_money 60 = .ok (.invokevirtual 180, 3) := by decide +kernel
theorem dX8_money_63 : decode cX8_money 63 = .ok (.ireturn, 1) := by decide +kernel
theorem dX8_money_64 : decode cX8_money 64 = .ok (.aload_n 0, 1) := by decide +kernel
theorem dX8_money_65 : decode cX8_money 65 = .ok (.getfield 20, 3) := by decide +kernel
theorem dX8_money_68 : decode cX8_money 68 = .ok (.getfield 150, 3) := by decide +kernel
theorem dX8_money_71 : decode cX8_money 71 = .ok (.iconst 4, 1) := by decide +kernel
theorem dX8_money_72 : decode cX8_money 72 = .ok (.invokevirtual 180, 3) := by decide +kernel
theorem dX8_money_75 : decode cX8_money 75 = .ok (.ireturn, 1) := by decide +kernel
theorem dX8_money_76 : decode cX8_money 76 = .ok (.aload_n 0, 1) := by decide +kernel
theorem dX8_money_77 : decode cX8_money 77 = .ok (.getfield 20, 3) := by decide +kernel
theorem dX8_money_80 : decode cX8_money 80 = .ok (.getfield 150, 3) := by decide +kernel
theorem dX8_money_83 : decode cX8_money 83 = .ok (.bipush 7, 2) := by decide +kernel
theorem dX8_money_85 : decode cX8_money 85 = .ok (.invokevirtual 180, 3) := by decide +kernel
theorem dX8_money_88 : decode cX8_money 88 = .ok (.ireturn, 1) := by decide +kernel
theorem dX8_money_89 : decode cX8_money 89 = .ok (.aload_n 0, 1) := by decide +kernel
theorem dX8_money_90 : decode cX8_money 90 = .ok (.getfield 20, 3) := by decide +kernel
theorem dX8_money_93 : decode cX8_money 93 = .ok (.getfield 150, 3) := by decide +kernel
theorem dX8_money_96 : decode cX8_money 96 = .ok (.iconst 5, 1) := by decide +kernel
theorem dX8_money_97 : decode cX8_money 97 = .ok (.invokevirtual 180, 3) := by decide +kernel
theorem dX8_money_100 : decode cX8_money 100 = .ok (.ireturn, 1) := by decide +kernel
theorem dX8_money_101 : decode cX8_money 101 = .ok (.aload_n 0, 1) := by decide +kernel
theorem dX8_money_102 : decode cX8_money 102 = .ok (.getfield 20, 3) := by decide +kernel
theorem dX8_money_105 : decode cX8_money 105 = .ok (.getfield 183, 3) := by decide +kernel
theorem dX8_money_108 : decode cX8_money 108 = .ok (.iconst 2, 1) := by decide +kernel
theorem dX8_money_109 : decode cX8_money 109 = .ok (.invokevirtual 180, 3) := by decide +kernel
theorem dX8_money_112 : decode cX8_money 112 = .ok (.ireturn, 1) := by decide +kernel
theorem dX8_money_113 : decode cX8_money 113 = .ok (.aload_n 0, 1) := by decide +kernel
theorem dX8_money_114 : decode cX8_money 114 = .ok (.getfield 20, 3) := by decide +kernel
theorem dX8_money_117 : decode cX8_money 117 = .ok (.getfield 153, 3) := by decide +kernel
theorem dX8_money_120 : decode cX8_money 120 = .ok (.iconst 0, 1) := by decide +kernel
theorem dX8_money_121 : decode cX8_money 121 = .ok (.invokevirtual 180, 3) := by decide +kernel
theorem dX8_money_124 : decode cX8_money 124 = .ok (.ireturn, 1) := by decide +kernel
theorem dX8_money_125 : decode cX8_money 125 = .ok (.iconst (-1), 1) := by decide +kernel
theorem dX8_money_126 : decode cX8_money 126 = .ok (.ireturn, 1) := by decide +kernel
theorem dX8_inRange_0 : decode cX8_inRange 0 = .ok (.iload_n 0, 1) := by decide +kernel
theorem dX8_inRange_1 : decode cX8_inRange 1 = .ok (.iload_n 1, 1) := by decide +kernel
theorem dX8_inRange_2 : decode cX8_inRange 2 = .ok (.if_icmp .lt 12, 3) := by decide +kernel
theorem dX8_inRange_5 : decode cX8_inRange 5 = .ok (.iload_n 0, 1) := by decide +kernel
theorem dX8_inRange_6 : decode cX8_inRange 6 = .ok (.iload_n 2, 1) := by decide +kernel
theorem dX8_inRange_7 : decode cX8_inRange 7 = .ok (.if_icmp .gt 7, 3) := by decide +kernel
theorem dX8_inRange_10 : decode cX8_inRange 10 = .ok (.iconst 1, 1) := by decide +kernel
theorem dX8_inRange_11 : decode cX8_inRange 11 = .ok (.goto 4, 3) := by decide +kernel
theorem dX8_inRange_14 : decode cX8_inRange 14 = .ok (.iconst 0, 1) := by decide +kernel
theorem dX8_inRange_15 : decode cX8_inRange 15 = .ok (.ireturn, 1) := by decide +kernel
theorem dJ9_abs_0f7a4_0 : decode cJ9_abs_0f7a4 0 = .ok (.iload_n 0, 1) := by decide +kernel
theorem dJ9_abs_0f7a4_1 : decode cJ9_abs_0f7a4 1 = .ok (.ifCond .ge 8, 3) := by decide +kernel
theorem dJ9_abs_0f7a4_4 : decode cJ9_abs_0f7a4 4 = .ok (.iload_n 0, 1) := by decide +kernel
theorem dJ9_abs_0f7a4_5 : decode cJ9_abs_0f7a4 5 = .ok (.ineg, 1) := by decide +kernel
theorem dJ9_abs_0f7a4_6 : decode cJ9_abs_0f7a4 6 = .ok (.goto 4, 3) := by decide +kernel
theorem dJ9_abs_0f7a4_9 : decode cJ9_abs_0f7a4 9 = .ok (.iload_n 0, 1) := by decide +kernel
theorem dJ9_abs_0f7a4_10 : decode cJ9_abs_0f7a4 10 = .ok (.ireturn, 1) := by decide +kernel
theorem dJ9_max_7cf53_0 : decode cJ9_max_7cf53 0 = .ok (.iload_n 0, 1) := by decide +kernel
theorem dJ9_max_7cf53_1 : decode cJ9_max_7cf53 1 = .ok (.iload_n 1, 1) := by decide +kernel
theorem dJ9_max_7cf53_2 : decode cJ9_max_7cf53 2 = .ok (.if_icmp .lt 7, 3) := by decide +kernel
theorem dJ9_max_7cf53_5 : decode cJ9_max_7cf53 5 = .ok (.iload_n 0, 1) := by decide +kernel
theorem dJ9_max_7cf53_6 : decode cJ9_max_7cf53 6 = .ok (.goto 4, 3) := by decide +kernel
theorem dJ9_max_7cf53_9 : decode cJ9_max_7cf53 9 = .ok (.iload_n 1, 1) := by decide +kernel
theorem dJ9_max_7cf53_10 : decode cJ9_max_7cf53 10 = .ok (.ireturn, 1) := by decide +kernel
theorem dJ9_min_7cf53_0 : decode cJ9_min_7cf53 0 = .ok (.iload_n 0, 1) := by decide +kernel
theorem dJ9_min_7cf53_1 : decode cJ9_min_7cf53 1 = .ok (.iload_n 1, 1) := by decide +kernel
theorem dJ9_min_7cf53_2 : decode cJ9_min_7cf53 2 = .ok (.if_icmp .gt 7, 3) := by decide +kernel
theorem dJ9_min_7cf53_5 : decode cJ9_min_7cf53 5 = .ok (.iload_n 0, 1) := by decide +kernel
theorem dJ9_min_7cf53_6 : decode cJ9_min_7cf53 6 = .ok (.goto 4, 3) := by decide +kernel
theorem dJ9_min_7cf53_9 : decode cJ9_min_7cf53 9 = .ok (.iload_n 1, 1) := by decide +kernel
theorem dJ9_min_7cf53_10 : decode cJ9_min_7cf53 10 = .ok (.ireturn, 1) := by decide +kernel
theorem dL_cell_0 : decode cL_cell 0 = .ok (.iload_n 1, 1) := by decide +kernel
theorem dL_cell_1 : decode cL_cell 1 = .ok (.aload_n 0, 1) := by decide +kernel
theorem dL_cell_2 : decode cL_cell 2 = .ok (.arraylength, 1) := by decide +kernel
theorem dL_cell_3 : decode cL_cell 3 = .ok (.if_icmp .ge 9, 3) := by decide +kernel
theorem dL_cell_6 : decode cL_cell 6 = .ok (.aload_n 0, 1) := by decide +kernel
theorem dL_cell_7 : decode cL_cell 7 = .ok (.iload_n 1, 1) := by decide +kernel
theorem dL_cell_8 : decode cL_cell 8 = .ok (.iaload, 1) := by decide +kernel
theorem dL_cell_9 : decode cL_cell 9 = .ok (.goto 9, 3) := by decide +kernel
theorem dL_cell_12 : decode cL_cell 12 = .ok (.ldc 7, 2) := by decide +kernel
theorem dL_cell_14 : decode cL_cell 14 = .ok (.iload_n 1, 1) := by decide +kernel
theorem dL_cell_15 : decode cL_cell 15 = .ok (.iconst 3, 1) := by decide +kernel
theorem dL_cell_16 : decode cL_cell 16 = .ok (.iadd, 1) := by decide +kernel
theorem dL_cell_17 : decode cL_cell 17 = .ok (.imul, 1) := by decide +kernel
theorem dL_cell_18 : decode cL_cell 18 = .ok (.ireturn, 1) := by decide +kernel
theorem dL_low_0 : decode cL_low 0 = .ok (.iload_n 0, 1) := by decide +kernel
theorem dL_low_1 : decode cL_low 1 = .ok (.ldc 8, 2) := by decide +kernel
theorem dL_low_3 : decode cL_low 3 = .ok (.iand, 1) := by decide +kernel
theorem dL_low_4 : decode cL_low 4 = .ok (.iload_n 1, 1) := by decide +kernel
theorem dL_low_5 : decode cL_low 5 = .ok (.irem, 1) := by decide +kernel
theorem dL_low_6 : decode cL_low 6 = .ok (.ireturn, 1) := by decide +kernel
theorem dL_may_0 : decode cL_may 0 = .ok (.iconst 1, 1) := by decide +kernel
theorem dL_may_1 : decode cL_may 1 = .ok (.istore 6, 2) := by decide +kernel
theorem dL_may_3 : decode cL_may 3 = .ok (.aload_n 1, 1) := by decide +kernel
theorem dL_may_4 : decode cL_may 4 = .ok (.bipush 11, 2) := by decide +kernel
theorem dL_may_6 : decode cL_may 6 = .ok (.iload_n 3, 1) := by decide +kernel
theorem dL_may_7 : decode cL_may 7 = .ok (.imul, 1) := by decide +kernel
theorem dL_may_8 : decode cL_may 8 = .ok (.iaload, 1) := by decide +kernel
theorem dL_may_9 : decode cL_may 9 = .ok (.aload_n 1, 1) := by decide +kernel
theorem dL_may_10 : decode cL_may 10 = .ok (.bipush 11, 2) := by decide +kernel
theorem dL_may_12 : decode cL_may 12 = .ok (.iload_n 3, 1) := by decide +kernel
theorem dL_may_13 : decode cL_may 13 = .ok (.imul, 1) := by decide +kernel
theorem dL_may_14 : decode cL_may 14 = .ok (.iconst 1, 1) := by decide +kernel
theorem dL_may_15 : decode cL_may 15 = .ok (.iadd, 1) := by decide +kernel
theorem dL_may_16 : decode cL_may 16 = .ok (.iaload, 1) := by decide +kernel
theorem dL_may_17 : decode cL_may 17 = .ok (.iadd, 1) := by decide +kernel
theorem dL_may_18 : decode cL_may 18 = .ok (.istore 7, 2) := by decide +kernel
theorem dL_may_20 : decode cL_may 20 = .ok (.iconst 0, 1) := by decide +kernel
theorem dL_may_21 : decode cL_may 21 = .ok (.istore 8, 2) := by decide +kernel
theorem dL_may_23 : decode cL_may 23 = .ok (.iload 8, 2) := by decide +kernel
theorem dL_may_25 : decode cL_may 25 = .ok (.aload_n 0, 1) := by decide +kernel
theorem dL_may_26 : decode cL_may 26 = .ok (.iconst 1, 1) := by decide +kernel
theorem dL_may_27 : decode cL_may 27 = .ok (.iaload, 1) := by decide +kernel
theorem dL_may_28 : decode cL_may 28 = .ok (.if_icmp .ge 114, 3) := by decide +kernel
theorem dL_may_31 : decode cL_may 31 = .ok (.aload_n 2, 1) := by decide +kernel
theorem dL_may_32 : decode cL_may 32 = .ok (.bipush 9, 2) := by decide +kernel
theorem dL_may_34 : decode cL_may 34 = .ok (.iload 8, 2) := by decide +kernel
theorem dL_may_36 : decode cL_may 36 = .ok (.imul, 1) := by decide +kernel
theorem dL_may_37 : decode cL_may 37 = .ok (.iconst 1, 1) := by decide +kernel
theorem dL_may_38 : decode cL_may 38 = .ok (.iadd, 1) := by decide +kernel
theorem dL_may_39 : decode cL_may 39 = .ok (.iaload, 1) := by decide +kernel
theorem dL_may_40 : decode cL_may 40 = .ok (.istore 9, 2) := by decide +kernel
theorem dL_may_42 : decode cL_may 42 = .ok (.iload 8, 2) := by decide +kernel
theorem dL_may_44 : decode cL_may 44 = .ok (.iload 5, 2) := by decide +kernel
theorem dL_may_46 : decode cL_may 46 = .ok (.if_icmp .eq 31, 3) := by decide +kernel
theorem dL_may_49 : decode cL_may 49 = .ok (.aload_n 2, 1) := by decide +kernel
theorem dL_may_50 : decode cL_may 50 = .ok (.bipush 9, 2) := by decide +kernel
theorem dL_may_52 : decode cL_may 52 = .ok (.iload 8, 2) := by decide +kernel
theorem dL_may_54 : decode cL_may 54 = .ok (.imul, 1) := by decide +kernel
theorem dL_may_55 : decode cL_may 55 = .ok (.iaload, 1) := by decide +kernel
theorem dL_may_56 : decode cL_may 56 = .ok (.iload_n 3, 1) := by decide +kernel
theorem dL_may_57 : decode cL_may 57 = .ok (.if_icmp .ne 20, 3) := by decide +kernel
theorem dL_may_60 : decode cL_may 60 = .ok (.aload_n 2, 1) := by decide +kernel
theorem dL_may_61 : decode cL_may 61 = .ok (.bipush 9, 2) := by decide +kernel
theorem dL_may_63 : decode cL_may 63 = .ok (.iload 8, 2) := by decide +kernel
theorem dL_may_65 : decode cL_may 65 = .ok (.imul, 1) := by decide +kernel
theorem dL_may_66 : decode cL_may 66 = .ok (.iconst 3, 1) := by decide +kernel
theorem dL_may_67 : decode cL_may 67 = .ok (.iadd, 1) := by decide +kernel
theorem dL_may_68 : decode cL_may 68 = .ok (.iaload, 1) := by decide +kernel
theorem dL_may_69 : decode cL_may 69 = .ok (.iconst 2, 1) := by decide +kernel
theorem dL_may_70 : decode cL_may 70 = .ok (.if_icmp .ge 7, 3) := by decide +kernel
theorem dL_may_73 : decode cL_may 73 = .ok (.iconst 1, 1) := by decide +kernel
theorem dL_may_74 : decode cL_may 74 = .ok (.goto 4, 3) := by decide +kernel
theorem dL_may_77 : decode cL_may 77 = .ok (.iconst 0, 1) := by decide +kernel
theorem dL_may_78 : decode cL_may 78 = .ok (.istore 10, 2) := by decide +kernel
theorem dL_may_80 : decode cL_may 80 = .ok (.iload 6, 2) := by decide +kernel
theorem dL_may_82 : decode cL_may 82 = .ok (.ifCond .eq 51, 3) := by decide +kernel
theorem dL_may_85 : decode cL_may 85 = .ok (.iload 10, 2) := by decide +kernel
theorem dL_may_87 : decode cL_may 87 = .ok (.ifCond .eq 42, 3) := by decide +kernel
theorem dL_may_90 : decode cL_may 90 = .ok (.iload 4, 2) := by decide +kernel
theorem dL_may_92 : decode cL_may 92 = .ok (.iload 9, 2) := by decide +kernel
theorem dL_may_94 : decode cL_may 94 = .ok (.iload 7, 2) := by decide +kernel
theorem dL_may_96 : decode cL_may 96 = .ok (.iadd, 1) := by decide +kernel
theorem dL_may_97 : decode cL_may 97 = .ok (.if_icmp .ge 13, 3) := by decide +kernel
theorem dL_may_100 : decode cL_may 100 = .ok (.iload 4, 2) := by decide +kernel
theorem dL_may_102 : decode cL_may 102 = .ok (.iload 7, 2) := by decide +kernel
theorem dL_may_104 : decode cL_may 104 = .ok (.iadd, 1) := by decide +kernel
theorem dL_may_105 : decode cL_may 105 = .ok (.iload 9, 2) := by decide +kernel
theorem dL_may_107 : decode cL_may 107 = .ok (.if_icmp .gt 26, 3) := by decide +kernel
theorem dL_may_110 : decode cL_may 110 = .ok (.aload_n 2, 1) := by decide +kernel
theorem dL_may_111 : decode cL_may 111 = .ok (.bipush 9, 2) := by decide +kernel
theorem dL_may_113 : decode cL_may 113 = .ok (.iload 8, 2) := by decide +kernel
theorem dL_may_115 : decode cL_may 115 = .ok (.imul, 1) := by decide +kernel
theorem dL_may_116 : decode cL_may 116 = .ok (.iconst 3, 1) := by decide +kernel
theorem dL_may_117 : decode cL_may 117 = .ok (.iadd, 1) := by decide +kernel
theorem dL_may_118 : decode cL_may 118 = .ok (.iaload, 1) := by decide +kernel
theorem dL_may_119 : decode cL_may 119 = .ok (.ifCond .eq 10, 3) := by decide +kernel
theorem dL_may_122 : decode cL_may 122 = .ok (.iload 4, 2) := by decide +kernel
theorem dL_may_124 : decode cL_may 124 = .ok (.iload 9, 2) := by decide +kernel
theorem dL_may_126 : decode cL_may 126 = .ok (.if_icmp .le 7, 3) := by decide +kernel
theorem dL_may_129 : decode cL_may 129 = .ok (.iconst 1, 1) := by decide +kernel
theorem dL_may_130 : decode cL_may 130 = .ok (.goto 4, 3) := by decide +kernel
theorem dL_may_133 : decode cL_may 133 = .ok (.iconst 0, 1) := by decide +kernel
theorem dL_may_134 : decode cL_may 134 = .ok (.istore 6, 2) := by decide +kernel
theorem dL_may_136 : decode cL_may 136 = .ok (.iinc 8 1, 3) := by decide +kernel
theorem dL_may_139 : decode cL_may 139 = .ok (.goto (-116), 3) := by decide +kernel
theorem dL_may_142 : decode cL_may 142 = .ok (.iload 6, 2) := by decide +kernel
theorem dL_may_144 : decode cL_may 144 = .ok (.ireturn, 1) := by decide +kernel
theorem dL_next_0 : decode cL_next 0 = .ok (.iconst (-1), 1) := by decide +kernel
theorem dL_next_1 : decode cL_next 1 = .ok (.istore 4, 2) := by decide +kernel
theorem dL_next_3 : decode cL_next 3 = .ok (.aload_n 0, 1) := by decide +kernel
theorem dL_next_4 : decode cL_next 4 = .ok (.iconst 1, 1) := by decide +kernel
theorem dL_next_5 : decode cL_next 5 = .ok (.iaload, 1) := by decide +kernel
theorem dL_next_6 : decode cL_next 6 = .ok (.iconst 1, 1) := by decide +kernel
theorem dL_next_7 : decode cL_next 7 = .ok (.isub, 1) := by decide +kernel
theorem dL_next_8 : decode cL_next 8 = .ok (.istore 5, 2) := by decide +kernel
theorem dL_next_10 : decode cL_next 10 = .ok (.iload 5, 2) := by decide +kernel
theorem dL_next_12 : decode cL_next 12 = .ok (.ifCond .lt 92, 3) := by decide +kernel
theorem dL_next_15 : decode cL_next 15 = .ok (.aload_n 1, 1) := by decide +kernel
theorem dL_next_16 : decode cL_next 16 = .ok (.bipush 9, 2) := by decide +kernel
theorem dL_next_18 : decode cL_next 18 = .ok (.iload 5, 2) := by decide +kernel
theorem dL_next_20 : decode cL_next 20 = .ok (.imul, 1) := by decide +kernel
theorem dL_next_21 : decode cL_next 21 = .ok (.iaload, 1) := by decide +kernel
theorem dL_next_22 : decode cL_next 22 = .ok (.iload_n 2, 1) := by decide +kernel
theorem dL_next_23 : decode cL_next 23 = .ok (.if_icmp .ne 32, 3) := by decide +kernel
theorem dL_next_26 : decode cL_next 26 = .ok (.aload_n 1, 1) := by decide +kernel
theorem dL_next_27 : decode cL_next 27 = .ok (.bipush 9, 2) := by decide +kernel
theorem dL_next_29 : decode cL_next 29 = .ok (.iload 5, 2) := by decide +kernel
theorem dL_next_31 : decode cL_next 31 = .ok (.imul, 1) := by decide +kernel
theorem dL_next_32 : decode cL_next 32 = .ok (.iconst 3, 1) := by decide +kernel
theorem dL_next_33 : decode cL_next 33 = .ok (.iadd, 1) := by decide +kernel
theorem dL_next_34 : decode cL_next 34 = .ok (.iaload, 1) := by decide +kernel
theorem dL_next_35 : decode cL_next 35 = .ok (.ifCond .ne 20, 3) := by decide +kernel
theorem dL_next_38 : decode cL_next 38 = .ok (.aload_n 1, 1) := by decide +kernel
theorem dL_next_39 : decode cL_next 39 = .ok (.bipush 9, 2) := by decide +kernel
theorem dL_next_41 : decode cL_next 41 = .ok (.iload 5, 2) := by decide +kernel
theorem dL_next_43 : decode cL_next 43 = .ok (.imul, 1) := by decide +kernel
theorem dL_next_44 : decode cL_next 44 = .ok (.iconst 1, 1) := by decide +kernel
theorem dL_next_45 : decode cL_next 45 = .ok (.iadd, 1) := by decide +kernel
theorem dL_next_46 : decode cL_next 46 = .ok (.iaload, 1) := by decide +kernel
theorem dL_next_47 : decode cL_next 47 = .ok (.iload_n 3, 1) := by decide +kernel
theorem dL_next_48 : decode cL_next 48 = .ok (.if_icmp .lt 7, 3) := by decide +kernel
theorem dL_next_51 : decode cL_next 51 = .ok (.iconst 1, 1) := by decide +kernel
theorem dL_next_52 : decode cL_next 52 = .ok (.goto 4, 3) := by decide +kernel
theorem dL_next_55 : decode cL_next 55 = .ok (.iconst 0, 1) := by decide +kernel
theorem dL_next_56 : decode cL_next 56 = .ok (.istore 6, 2) := by decide +kernel
theorem dL_next_58 : decode cL_next 58 = .ok (.iload 6, 2) := by decide +kernel
theorem dL_next_60 : decode cL_next 60 = .ok (.ifCond .eq 34, 3) := by decide +kernel
theorem dL_next_63 : decode cL_next 63 = .ok (.iload 4, 2) := by decide +kernel
theorem dL_next_65 : decode cL_next 65 = .ok (.ifCond .lt 24, 3) := by decide +kernel
theorem dL_next_68 : decode cL_next 68 = .ok (.aload_n 1, 1) := by decide +kernel
theorem dL_next_69 : decode cL_next 69 = .ok (.bipush 9, 2) := by decide +kernel
theorem dL_next_71 : decode cL_next 71 = .ok (.iload 5, 2) := by decide +kernel
theorem dL_next_73 : decode cL_next 73 = .ok (.imul, 1) := by decide +kernel
theorem dL_next_74 : decode cL_next 74 = .ok (.iconst 1, 1) := by decide +kernel
theorem dL_next_75 : decode cL_next 75 = .ok (.iadd, 1) := by decide +kernel
theorem dL_next_76 : decode cL_next 76 = .ok (.iaload, 1) := by decide +kernel
theorem dL_next_77 : decode cL_next 77 = .ok (.aload_n 1, 1) := by decide +kernel
theorem dL_next_78 : decode cL_next 78 = .ok (.bipush 9, 2) := by decide +kernel
theorem dL_next_80 : decode cL_next 80 = .ok (.iload 4, 2) := by decide +kernel
theorem dL_next_82 : decode cL_next 82 = .ok (.imul, 1) := by decide +kernel
theorem dL_next_83 : decode cL_next 83 = .ok (.iconst 1, 1) := by decide +kernel
theorem dL_next_84 : decode cL_next 84 = .ok (.iadd, 1) := by decide +kernel
theorem dL_next_85 : decode cL_next 85 = .ok (.iaload, 1) := by decide +kernel
theorem dL_next_86 : decode cL_next 86 = .ok (.if_icmp .ge 8, 3) := by decide +kernel
theorem dL_next_89 : decode cL_next 89 = .ok (.iload 5, 2) := by decide +kernel
theorem dL_next_91 : decode cL_next 91 = .ok (.goto 5, 3) := by decide +kernel
theorem dL_next_94 : decode cL_next 94 = .ok (.iload 4, 2) := by decide +kernel
theorem dL_next_96 : decode cL_next 96 = .ok (.istore 4, 2) := by decide +kernel
theorem dL_next_98 : decode cL_next 98 = .ok (.iinc 5 (-1), 3) := by decide +kernel
theorem dL_next_101 : decode cL_next 101 = .ok (.goto (-91), 3) := by decide +kernel
theorem dL_next_104 : decode cL_next 104 = .ok (.iload 4, 2) := by decide +kernel
theorem dL_next_106 : decode cL_next 106 = .ok (.ireturn, 1) := by decide +kernel
theorem dL_late_0 : decode cL_late 0 = .ok (.aload_n 2, 1) := by decide +kernel
theorem dL_late_1 : decode cL_late 1 = .ok (.bipush 9, 2) := by decide +kernel
theorem dL_late_3 : decode cL_late 3 = .ok (.iload_n 3, 1) := by decide +kernel
theorem dL_late_4 : decode cL_late 4 = .ok (.imul, 1) := by decide +kernel
theorem dL_late_5 : decode cL_late 5 = .ok (.iaload, 1) := by decide +kernel
theorem dL_late_6 : decode cL_late 6 = .ok (.istore 5, 2) := by decide +kernel
theorem dL_late_8 : decode cL_late 8 = .ok (.aload_n 1, 1) := by decide +kernel
theorem dL_late_9 : decode cL_late 9 = .ok (.bipush 11, 2) := by decide +kernel
theorem dL_late_11 : decode cL_late 11 = .ok (.iload 5, 2) := by decide +kernel
theorem dL_late_13 : decode cL_late 13 = .ok (.imul, 1) := by decide +kernel
theorem dL_late_14 : decode cL_late 14 = .ok (.iconst 4, 1) := by decide +kernel
theorem dL_late_15 : decode cL_late 15 = .ok (.iadd, 1) := by decide +kernel
theorem dL_late_16 : decode cL_late 16 = .ok (.iaload, 1) := by decide +kernel
theorem dL_late_17 : decode cL_late 17 = .ok (.iload 4, 2) := by decide +kernel
theorem dL_late_19 : decode cL_late 19 = .ok (.iadd, 1) := by decide +kernel
theorem dL_late_20 : decode cL_late 20 = .ok (.istore 6, 2) := by decide +kernel
theorem dL_late_22 : decode cL_late 22 = .ok (.iconst 0, 1) := by decide +kernel
theorem dL_late_23 : decode cL_late 23 = .ok (.istore 7, 2) := by decide +kernel
theorem dL_late_25 : decode cL_late 25 = .ok (.iconst 1, 1) := by decide +kernel
theorem dL_late_26 : decode cL_late 26 = .ok (.istore 8, 2) := by decide +kernel
theorem dL_late_28 : decode cL_late 28 = .ok (.aload_n 0, 1) := by decide +kernel
theorem dL_late_29 : decode cL_late 29 = .ok (.aload_n 2, 1) := by decide +kernel
theorem dL_late_30 : decode cL_late 30 = .ok (.iload 5, 2) := by decide +kernel
theorem dL_late_32 : decode cL_late 32 = .ok (.iconst 0, 1) := by decide +kernel
theorem dL_late_33 : decode cL_late 33 = .ok (.invokestatic 9, 3) := by decide +kernel
theorem dL_late_36 : decode cL_late 36 = .ok (.istore 9, 2) := by decide +kernel
theorem dL_late_38 : decode cL_late 38 = .ok (.iload 8, 2) := by decide +kernel
theorem dL_late_40 : decode cL_late 40 = .ok (.ifCond .eq 103, 3) := by decide +kernel
theorem dL_late_43 : decode cL_late 43 = .ok (.aload_n 2, 1) := by decide +kernel
theorem dL_late_44 : decode cL_late 44 = .ok (.bipush 9, 2) := by decide +kernel
theorem dL_late_46 : decode cL_late 46 = .ok (.iload 9, 2) := by decide +kernel
theorem dL_late_48 : decode cL_late 48 = .ok (.imul, 1) := by decide +kernel
theorem dL_late_49 : decode cL_late 49 = .ok (.iconst 1, 1) := by decide +kernel
theorem dL_late_50 : decode cL_late 50 = .ok (.iadd, 1) := by decide +kernel
theorem dL_late_51 : decode cL_late 51 = .ok (.iaload, 1) := by decide +kernel
theorem dL_late_52 : decode cL_late 52 = .ok (.istore 10, 2) := by decide +kernel
theorem dL_late_54 : decode cL_late 54 = .ok (.iload 6, 2) := by decide +kernel
theorem dL_late_56 : decode cL_late 56 = .ok (.iload 10, 2) := by decide +kernel
theorem dL_late_58 : decode cL_late 58 = .ok (.if_icmp .le 11, 3) := by decide +kernel
theorem dL_late_61 : decode cL_late 61 = .ok (.iload 6, 2) := by decide +kernel
theorem dL_late_63 : decode cL_late 63 = .ok (.iload 10, 2) := by decide +kernel
theorem dL_late_65 : decode cL_late 65 = .ok (.isub, 1) := by decide +kernel
theorem dL_late_66 : decode cL_late 66 = .ok (.goto 4, 3) := by decide +kernel
theorem dL_late_69 : decode cL_late 69 = .ok (.iconst 0, 1) := by decide +kernel
theorem dL_late_70 : decode cL_late 70 = .ok (.istore 7, 2) := by decide +kernel
theorem dL_late_72 : decode cL_late 72 = .ok (.iload 10, 2) := by decide +kernel
theorem dL_late_74 : decode cL_late 74 = .ok (.iload 7, 2) := by decide +kernel
theorem dL_late_76 : decode cL_late 76 = .ok (.iadd, 1) := by decide +kernel
theorem dL_late_77 : decode cL_late 77 = .ok (.aload_n 1, 1) := by decide +kernel
theorem dL_late_78 : decode cL_late 78 = .ok (.bipush 11, 2) := by decide +kernel
theorem dL_late_80 : decode cL_late 80 = .ok (.iload 5, 2) := by decide +kernel
theorem dL_late_82 : decode cL_late 82 = .ok (.imul, 1) := by decide +kernel
theorem dL_late_83 : decode cL_late 83 = .ok (.iaload, 1) := by decide +kernel
theorem dL_late_84 : decode cL_late 84 = .ok (.iadd, 1) := by decide +kernel
theorem dL_late_85 : decode cL_late 85 = .ok (.aload_n 1, 1) := by decide +kernel
theorem dL_late_86 : decode cL_late 86 = .ok (.bipush 11, 2) := by decide +kernel
theorem dL_late_88 : decode cL_late 88 = .ok (.iload 5, 2) := by decide +kernel
theorem dL_late_90 : decode cL_late 90 = .ok (.imul, 1) := by decide +kernel
theorem dL_late_91 : decode cL_late 91 = .ok (.iconst 1, 1) := by decide +kernel
theorem dL_late_92 : decode cL_late 92 = .ok (.iadd, 1) := by decide +kernel
theorem dL_late_93 : decode cL_late 93 = .ok (.iaload, 1) := by decide +kernel
theorem dL_late_94 : decode cL_late 94 = .ok (.iadd, 1) := by decide +kernel
theorem dL_late_95 : decode cL_late 95 = .ok (.istore 6, 2) := by decide +kernel
theorem dL_late_97 : decode cL_late 97 = .ok (.iload 9, 2) := by decide +kernel
theorem dL_late_99 : decode cL_late 99 = .ok (.iload_n 3, 1) := by decide +kernel
theorem dL_late_100 : decode cL_late 100 = .ok (.if_icmp .eq 7, 3) := by decide +kernel
theorem dL_late_103 : decode cL_late 103 = .ok (.iconst 1, 1) := by decide +kernel
theorem dL_late_104 : decode cL_late 104 = .ok (.goto 4, 3) := by decide +kernel
theorem dL_late_107 : decode cL_late 107 = .ok (.iconst 0, 1) := by decide +kernel
theorem dL_late_108 : decode cL_late 108 = .ok (.istore 8, 2) := by decide +kernel
theorem dL_late_110 : decode cL_late 110 = .ok (.iload 8, 2) := by decide +kernel
theorem dL_late_112 : decode cL_late 112 = .ok (.ifCond .eq 24, 3) := by decide +kernel
theorem dL_late_115 : decode cL_late 115 = .ok (.aload_n 0, 1) := by decide +kernel
theorem dL_late_116 : decode cL_late 116 = .ok (.aload_n 2, 1) := by decide +kernel
theorem dL_late_117 : decode cL_late 117 = .ok (.iload 5, 2) := by decide +kernel
theorem dL_late_119 : decode cL_late 119 = .ok (.aload_n 2, 1) := by decide +kernel
theorem dL_late_120 : decode cL_late 120 = .ok (.bipush 9, 2) := by decide +kernel
theorem dL_late_122 : decode cL_late 122 = .ok (.iload 9, 2) := by decide +kernel
theorem dL_late_124 : decode cL_late 124 = .ok (.imul, 1) := by decide +kernel
theorem dL_late_125 : decode cL_late 125 = .ok (.iconst 1, 1) := by decide +kernel
theorem dL_late_126 : decode cL_late 126 = .ok (.iadd, 1) := by decide +kernel
theorem dL_late_127 : decode cL_late 127 = .ok (.iaload, 1) := by decide +kernel
theorem dL_late_128 : decode cL_late 128 = .ok (.iconst 1, 1) := by decide +kernel
theorem dL_late_129 : decode cL_late 129 = .ok (.iadd, 1) := by decide +kernel
theorem dL_late_130 : decode cL_late 130 = .ok (.invokestatic 9, 3) := by decide +kernel
theorem dL_late_133 : decode cL_late 133 = .ok (.goto 5, 3) := by decide +kernel
theorem dL_late_136 : decode cL_late 136 = .ok (.iload 9, 2) := by decide +kernel
theorem dL_late_138 : decode cL_late 138 = .ok (.istore 9, 2) := by decide +kernel
theorem dL_late_140 : decode cL_late 140 = .ok (.goto (-102), 3) := by decide +kernel
theorem dL_late_143 : decode cL_late 143 = .ok (.iload 7, 2) := by decide +kernel
theorem dL_late_145 : decode cL_late 145 = .ok (.ireturn, 1) := by decide +kernel
theorem dL_share_0 : decode cL_share 0 = .ok (.iconst 0, 1) := by decide +kernel
theorem dL_share_1 : decode cL_share 1 = .ok (.istore_n 3, 1) := by decide +kernel
theorem dL_share_2 : decode cL_share 2 = .ok (.iload_n 2, 1) := by decide +kernel
theorem dL_share_3 : decode cL_share 3 = .ok (.aload_n 0, 1) := by decide +kernel
theorem dL_share_4 : decode cL_share 4 = .ok (.iconst 3, 1) := by decide +kernel
theorem dL_share_5 : decode cL_share 5 = .ok (.iaload, 1) := by decide +kernel
theorem dL_share_6 : decode cL_share 6 = .ok (.isub, 1) := by decide +kernel
theorem dL_share_7 : decode cL_share 7 = .ok (.istore 4, 2) := by decide +kernel
theorem dL_share_9 : decode cL_share 9 = .ok (.iload 4, 2) := by decide +kernel
theorem dL_share_11 : decode cL_share 11 = .ok (.ifCond .le 12, 3) := by decide +kernel
theorem dL_share_14 : decode cL_share 14 = .ok (.iinc 3 1, 3) := by decide +kernel
theorem dL_share_17 : decode cL_share 17 = .ok (.iinc 4 (-10), 3) := by decide +kernel
theorem dL_share_20 : decode cL_share 20 = .ok (.goto (-11), 3) := by decide +kernel
theorem dL_share_23 : decode cL_share 23 = .ok (.iload_n 3, 1) := by decide +kernel
theorem dL_share_24 : decode cL_share 24 = .ok (.aload_n 0, 1) := by decide +kernel
theorem dL_share_25 : decode cL_share 25 = .ok (.iconst 4, 1) := by decide +kernel
theorem dL_share_26 : decode cL_share 26 = .ok (.iaload, 1) := by decide +kernel
theorem dL_share_27 : decode cL_share 27 = .ok (.imul, 1) := by decide +kernel
theorem dL_share_28 : decode cL_share 28 = .ok (.bipush 100, 2) := by decide +kernel
theorem dL_share_30 : decode cL_share 30 = .ok (.if_icmp .le 8, 3) := by decide +kernel
theorem dL_share_33 : decode cL_share 33 = .ok (.bipush 100, 2) := by decide +kernel
theorem dL_share_35 : decode cL_share 35 = .ok (.goto 8, 3) := by decide +kernel
theorem dL_share_38 : decode cL_share 38 = .ok (.iload_n 3, 1) := by decide +kernel
theorem dL_share_39 : decode cL_share 39 = .ok (.aload_n 0, 1) := by decide +kernel
theorem dL_share_40 : decode cL_share 40 = .ok (.iconst 4, 1) := by decide +kernel
theorem dL_share_41 : decode cL_share 41 = .ok (.iaload, 1) := by decide +kernel
theorem dL_share_42 : decode cL_share 42 = .ok (.imul, 1) := by decide +kernel
theorem dL_share_43 : decode cL_share 43 = .ok (.istore 4, 2) := by decide +kernel
theorem dL_share_45 : decode cL_share 45 = .ok (.iload_n 1, 1) := by decide +kernel
theorem dL_share_46 : decode cL_share 46 = .ok (.iload 4, 2) := by decide +kernel
theorem dL_share_48 : decode cL_share 48 = .ok (.imul, 1) := by decide +kernel
theorem dL_share_49 : decode cL_share 49 = .ok (.bipush 100, 2) := by decide +kernel
theorem dL_share_51 : decode cL_share 51 = .ok (.idiv, 1) := by decide +kernel
theorem dL_share_52 : decode cL_share 52 = .ok (.ireturn, 1) := by decide +kernel
theorem dL_paid_0 : decode cL_paid 0 = .ok (.aload_n 1, 1) := by decide +kernel
theorem dL_paid_1 : decode cL_paid 1 = .ok (.bipush 9, 2) := by decide +kernel
theorem dL_paid_3 : decode cL_paid 3 = .ok (.iload_n 3, 1) := by decide +kernel
theorem dL_paid_4 : decode cL_paid 4 = .ok (.imul, 1) := by decide +kernel
theorem dL_paid_5 : decode cL_paid 5 = .ok (.iconst 5, 1) := by decide +kernel
theorem dL_paid_6 : decode cL_paid 6 = .ok (.iadd, 1) := by decide +kernel
theorem dL_paid_7 : decode cL_paid 7 = .ok (.iaload, 1) := by decide +kernel
theorem dL_paid_8 : decode cL_paid 8 = .ok (.istore 4, 2) := by decide +kernel
theorem dL_paid_10 : decode cL_paid 10 = .ok (.iconst 0, 1) := by decide +kernel
theorem dL_paid_11 : decode cL_paid 11 = .ok (.istore 5, 2) := by decide +kernel
theorem dL_paid_13 : decode cL_paid 13 = .ok (.iload 5, 2) := by decide +kernel
theorem dL_paid_15 : decode cL_paid 15 = .ok (.aload_n 0, 1) := by decide +kernel
theorem dL_paid_16 : decode cL_paid 16 = .ok (.iconst 1, 1) := by decide +kernel
theorem dL_paid_17 : decode cL_paid 17 = .ok (.iaload, 1) := by decide +kernel
theorem dL_paid_18 : decode cL_paid 18 = .ok (.if_icmp .ge 38, 3) := by decide +kernel
theorem dL_paid_21 : decode cL_paid 21 = .ok (.iload 4, 2) := by decide +kernel
theorem dL_paid_23 : decode cL_paid 23 = .ok (.aload_n 2, 1) := by decide +kernel
theorem dL_paid_24 : decode cL_paid 24 = .ok (.iconst 4, 1) := by decide +kernel
theorem dL_paid_25 : decode cL_paid 25 = .ok (.iload 5, 2) := by decide +kernel
theorem dL_paid_27 : decode cL_paid 27 = .ok (.imul, 1) := by decide +kernel
theorem dL_paid_28 : decode cL_paid 28 = .ok (.iconst 2, 1) := by decide +kernel
theorem dL_paid_29 : decode cL_paid 29 = .ok (.iadd, 1) := by decide +kernel
theorem dL_paid_30 : decode cL_paid 30 = .ok (.iaload, 1) := by decide +kernel
theorem dL_paid_31 : decode cL_paid 31 = .ok (.iload_n 3, 1) := by decide +kernel
theorem dL_paid_32 : decode cL_paid 32 = .ok (.if_icmp .ne 14, 3) := by decide +kernel
theorem dL_paid_35 : decode cL_paid 35 = .ok (.aload_n 2, 1) := by decide +kernel
theorem dL_paid_36 : decode cL_paid 36 = .ok (.iconst 4, 1) := by decide +kernel
theorem dL_paid_37 : decode cL_paid 37 = .ok (.iload 5, 2) := by decide +kernel
theorem dL_paid_39 : decode cL_paid 39 = .ok (.imul, 1) := by decide +kernel
theorem dL_paid_40 : decode cL_paid 40 = .ok (.iconst 1, 1) := by decide +kernel
theorem dL_paid_41 : decode cL_paid 41 = .ok (.iadd, 1) := by decide +kernel
theorem dL_paid_42 : decode cL_paid 42 = .ok (.iaload, 1) := by decide +kernel
theorem dL_paid_43 : decode cL_paid 43 = .ok (.goto 4, 3) := by decide +kernel
theorem dL_paid_46 : decode cL_paid 46 = .ok (.iconst 0, 1) := by decide +kernel
theorem dL_paid_47 : decode cL_paid 47 = .ok (.iadd, 1) := by decide +kernel
theorem dL_paid_48 : decode cL_paid 48 = .ok (.istore 4, 2) := by decide +kernel
theorem dL_paid_50 : decode cL_paid 50 = .ok (.iinc 5 1, 3) := by decide +kernel
theorem dL_paid_53 : decode cL_paid 53 = .ok (.goto (-40), 3) := by decide +kernel
theorem dL_paid_56 : decode cL_paid 56 = .ok (.iload 4, 2) := by decide +kernel
theorem dL_paid_58 : decode cL_paid 58 = .ok (.ireturn, 1) := by decide +kernel
theorem dL_refunds_0 : decode cL_refunds 0 = .ok (.iload 5, 2) := by decide +kernel
theorem dL_refunds_2 : decode cL_refunds 2 = .ok (.istore 6, 2) := by decide +kernel
theorem dL_refunds_4 : decode cL_refunds 4 = .ok (.aload_n 1, 1) := by decide +kernel
theorem dL_refunds_5 : decode cL_refunds 5 = .ok (.bipush 9, 2) := by decide +kernel
theorem dL_refunds_7 : decode cL_refunds 7 = .ok (.iload 4, 2) := by decide +kernel
theorem dL_refunds_9 : decode cL_refunds 9 = .ok (.imul, 1) := by decide +kernel
theorem dL_refunds_10 : decode cL_refunds 10 = .ok (.iconst 5, 1) := by decide +kernel
theorem dL_refunds_11 : decode cL_refunds 11 = .ok (.iadd, 1) := by decide +kernel
theorem dL_refunds_12 : decode cL_refunds 12 = .ok (.iaload, 1) := by decide +kernel
theorem dL_refunds_13 : decode cL_refunds 13 = .ok (.iload 6, 2) := by decide +kernel
theorem dL_refunds_15 : decode cL_refunds 15 = .ok (.if_icmp .ge 15, 3) := by decide +kernel
theorem dL_refunds_18 : decode cL_refunds 18 = .ok (.aload_n 1, 1) := by decide +kernel
theorem dL_refunds_19 : decode cL_refunds 19 = .ok (.bipush 9, 2) := by decide +kernel
theorem dL_refunds_21 : decode cL_refunds 21 = .ok (.iload 4, 2) := by decide +kernel
theorem dL_refunds_23 : decode cL_refunds 23 = .ok (.imul, 1) := by decide +kernel
theorem dL_refunds_24 : decode cL_refunds 24 = .ok (.iconst 5, 1) := by decide +kernel
theorem dL_refunds_25 : decode cL_refunds 25 = .ok (.iadd, 1) := by decide +kernel
theorem dL_refunds_26 : decode cL_refunds 26 = .ok (.iaload, 1) := by decide +kernel
theorem dL_refunds_27 : decode cL_refunds 27 = .ok (.goto 5, 3) := by decide +kernel
theorem dL_refunds_30 : decode cL_refunds 30 = .ok (.iload 6, 2) := by decide +kernel
theorem dL_refunds_32 : decode cL_refunds 32 = .ok (.istore 7, 2) := by decide +kernel
theorem dL_refunds_34 : decode cL_refunds 34 = .ok (.aload_n 1, 1) := by decide +kernel
theorem dL_refunds_35 : decode cL_refunds 35 = .ok (.bipush 9, 2) := by decide +kernel
theorem dL_refunds_37 : decode cL_refunds 37 = .ok (.iload 4, 2) := by decide +kernel
theorem dL_refunds_39 : decode cL_refunds 39 = .ok (.imul, 1) := by decide +kernel
theorem dL_refunds_40 : decode cL_refunds 40 = .ok (.iconst 5, 1) := by decide +kernel
theorem dL_refunds_41 : decode cL_refunds 41 = .ok (.iadd, 1) := by decide +kernel
theorem dL_refunds_42 : decode cL_refunds 42 = .ok (.dup2, 1) := by decide +kernel
theorem dL_refunds_43 : decode cL_refunds 43 = .ok (.iaload, 1) := by decide +kernel
theorem dL_refunds_44 : decode cL_refunds 44 = .ok (.iload 7, 2) := by decide +kernel
theorem dL_refunds_46 : decode cL_refunds 46 = .ok (.isub, 1) := by decide +kernel
theorem dL_refunds_47 : decode cL_refunds 47 = .ok (.iastore, 1) := by decide +kernel
theorem dL_refunds_48 : decode cL_refunds 48 = .ok (.aload_n 1, 1) := by decide +kernel
theorem dL_refunds_49 : decode cL_refunds 49 = .ok (.bipush 9, 2) := by decide +kernel
theorem dL_refunds_51 : decode cL_refunds 51 = .ok (.iload 4, 2) := by decide +kernel
theorem dL_refunds_53 : decode cL_refunds 53 = .ok (.imul, 1) := by decide +kernel
theorem dL_refunds_54 : decode cL_refunds 54 = .ok (.bipush 6, 2) := by decide +kernel
theorem dL_refunds_56 : decode cL_refunds 56 = .ok (.iadd, 1) := by decide +kernel
theorem dL_refunds_57 : decode cL_refunds 57 = .ok (.dup2, 1) := by decide +kernel
theorem dL_refunds_58 : decode cL_refunds 58 = .ok (.iaload, 1) := by decide +kernel
theorem dL_refunds_59 : decode cL_refunds 59 = .ok (.iload 5, 2) := by decide +kernel
theorem dL_refunds_61 : decode cL_refunds 61 = .ok (.iadd, 1) := by decide +kernel
theorem dL_refunds_62 : decode cL_refunds 62 = .ok (.iastore, 1) := by decide +kernel
theorem dL_refunds_63 : decode cL_refunds 63 = .ok (.aload_n 0, 1) := by decide +kernel
theorem dL_refunds_64 : decode cL_refunds 64 = .ok (.iconst 3, 1) := by decide +kernel
theorem dL_refunds_65 : decode cL_refunds 65 = .ok (.dup2, 1) := by decide +kernel
theorem dL_refunds_66 : decode cL_refunds 66 = .ok (.iaload, 1) := by decide +kernel
theorem dL_refunds_67 : decode cL_refunds 67 = .ok (.iload 7, 2) := by decide +kernel
theorem dL_refunds_69 : decode cL_refunds 69 = .ok (.isub, 1) := by decide +kernel
theorem dL_refunds_70 : decode cL_refunds 70 = .ok (.iastore, 1) := by decide +kernel
theorem dL_refunds_71 : decode cL_refunds 71 = .ok (.iload 6, 2) := by decide +kernel
theorem dL_refunds_73 : decode cL_refunds 73 = .ok (.iload 7, 2) := by decide +kernel
theorem dL_refunds_75 : decode cL_refunds 75 = .ok (.isub, 1) := by decide +kernel
theorem dL_refunds_76 : decode cL_refunds 76 = .ok (.istore 6, 2) := by decide +kernel
theorem dL_refunds_78 : decode cL_refunds 78 = .ok (.aload_n 0, 1) := by decide +kernel
theorem dL_refunds_79 : decode cL_refunds 79 = .ok (.iconst 4, 1) := by decide +kernel
theorem dL_refunds_80 : decode cL_refunds 80 = .ok (.iaload, 1) := by decide +kernel
theorem dL_refunds_81 : decode cL_refunds 81 = .ok (.istore 8, 2) := by decide +kernel
theorem dL_refunds_83 : decode cL_refunds 83 = .ok (.iload 8, 2) := by decide +kernel
theorem dL_refunds_85 : decode cL_refunds 85 = .ok (.ifCond .lt 117, 3) := by decide +kernel
theorem dL_refunds_88 : decode cL_refunds 88 = .ok (.iconst 0, 1) := by decide +kernel
theorem dL_refunds_89 : decode cL_refunds 89 = .ok (.istore 9, 2) := by decide +kernel
theorem dL_refunds_91 : decode cL_refunds 91 = .ok (.iload 9, 2) := by decide +kernel
theorem dL_refunds_93 : decode cL_refunds 93 = .ok (.aload_n 0, 1) := by decide +kernel
theorem dL_refunds_94 : decode cL_refunds 94 = .ok (.iconst 1, 1) := by decide +kernel
theorem dL_refunds_95 : decode cL_refunds 95 = .ok (.iaload, 1) := by decide +kernel
theorem dL_refunds_96 : decode cL_refunds 96 = .ok (.if_icmp .ge 100, 3) := by decide +kernel
theorem dL_refunds_99 : decode cL_refunds 99 = .ok (.aload_n 2, 1) := by decide +kernel
theorem dL_refunds_100 : decode cL_refunds 100 = .ok (.iconst 4, 1) := by decide +kernel
theorem dL_refunds_101 : decode cL_refunds 101 = .ok (.iload 9, 2) := by decide +kernel
theorem dL_refunds_103 : decode cL_refunds 103 = .ok (.imul, 1) := by decide +kernel
theorem dL_refunds_104 : decode cL_refunds 104 = .ok (.iconst 2, 1) := by decide +kernel
theorem dL_refunds_105 : decode cL_refunds 105 = .ok (.iadd, 1) := by decide +kernel
theorem dL_refunds_106 : decode cL_refunds 106 = .ok (.iaload, 1) := by decide +kernel
theorem dL_refunds_107 : decode cL_refunds 107 = .ok (.iload 4, 2) := by decide +kernel
theorem dL_refunds_109 : decode cL_refunds 109 = .ok (.if_icmp .ne 81, 3) := by decide +kernel
theorem dL_refunds_112 : decode cL_refunds 112 = .ok (.aload_n 2, 1) := by decide +kernel
theorem dL_refunds_113 : decode cL_refunds 113 = .ok (.iconst 4, 1) := by decide +kernel
theorem dL_refunds_114 : decode cL_refunds 114 = .ok (.iload 9, 2) := by decide +kernel
theorem dL_refunds_116 : decode cL_refunds 116 = .ok (.imul, 1) := by decide +kernel
theorem dL_refunds_117 : decode cL_refunds 117 = .ok (.iconst 3, 1) := by decide +kernel
theorem dL_refunds_118 : decode cL_refunds 118 = .ok (.iadd, 1) := by decide +kernel
theorem dL_refunds_119 : decode cL_refunds 119 = .ok (.iaload, 1) := by decide +kernel
theorem dL_refunds_120 : decode cL_refunds 120 = .ok (.iload 8, 2) := by decide +kernel
theorem dL_refunds_122 : decode cL_refunds 122 = .ok (.if_icmp .ne 68, 3) := by decide +kernel
theorem dL_refunds_125 : decode cL_refunds 125 = .ok (.aload_n 2, 1) := by decide +kernel
theorem dL_refunds_126 : decode cL_refunds 126 = .ok (.iconst 4, 1) := by decide +kernel
theorem dL_refunds_127 : decode cL_refunds 127 = .ok (.iload 9, 2) := by decide +kernel
theorem dL_refunds_129 : decode cL_refunds 129 = .ok (.imul, 1) := by decide +kernel
theorem dL_refunds_130 : decode cL_refunds 130 = .ok (.iconst 1, 1) := by decide +kernel
theorem dL_refunds_131 : decode cL_refunds 131 = .ok (.iadd, 1) := by decide +kernel
theorem dL_refunds_132 : decode cL_refunds 132 = .ok (.iaload, 1) := by decide +kernel
theorem dL_refunds_133 : decode cL_refunds 133 = .ok (.iload 6, 2) := by decide +kernel
theorem dL_refunds_135 : decode cL_refunds 135 = .ok (.if_icmp .ge 14, 3) := by decide +kernel
theorem dL_refunds_138 : decode cL_refunds 138 = .ok (.aload_n 2, 1) := by decide +kernel
theorem dL_refunds_139 : decode cL_refunds 139 = .ok (.iconst 4, 1) := by decide +kernel
theorem dL_refunds_140 : decode cL_refunds 140 = .ok (.iload 9, 2) := by decide +kernel
theorem dL_refunds_142 : decode cL_refunds 142 = .ok (.imul, 1) := by decide +kernel
theorem dL_refunds_143 : decode cL_refunds 143 = .ok (.iconst 1, 1) := by decide +kernel
theorem dL_refunds_144 : decode cL_refunds 144 = .ok (.iadd, 1) := by decide +kernel
theorem dL_refunds_145 : decode cL_refunds 145 = .ok (.iaload, 1) := by decide +kernel
theorem dL_refunds_146 : decode cL_refunds 146 = .ok (.goto 5, 3) := by decide +kernel
theorem dL_refunds_149 : decode cL_refunds 149 = .ok (.iload 6, 2) := by decide +kernel
theorem dL_refunds_151 : decode cL_refunds 151 = .ok (.istore 10, 2) := by decide +kernel
theorem dL_refunds_153 : decode cL_refunds 153 = .ok (.aload_n 2, 1) := by decide +kernel
theorem dL_refunds_154 : decode cL_refunds 154 = .ok (.iconst 4, 1) := by decide +kernel
theorem dL_refunds_155 : decode cL_refunds 155 = .ok (.iload 9, 2) := by decide +kernel
theorem dL_refunds_157 : decode cL_refunds 157 = .ok (.imul, 1) := by decide +kernel
theorem dL_refunds_158 : decode cL_refunds 158 = .ok (.iconst 1, 1) := by decide +kernel
theorem dL_refunds_159 : decode cL_refunds 159 = .ok (.iadd, 1) := by decide +kernel
theorem dL_refunds_160 : decode cL_refunds 160 = .ok (.dup2, 1) := by decide +kernel
theorem dL_refunds_161 : decode cL_refunds 161 = .ok (.iaload, 1) := by decide +kernel
theorem dL_refunds_162 : decode cL_refunds 162 = .ok (.iload 10, 2) := by decide +kernel
theorem dL_refunds_164 : decode cL_refunds 164 = .ok (.isub, 1) := by decide +kernel
theorem dL_refunds_165 : decode cL_refunds 165 = .ok (.iastore, 1) := by decide +kernel
theorem dL_refunds_166 : decode cL_refunds 166 = .ok (.aload_n 3, 1) := by decide +kernel
theorem dL_refunds_167 : decode cL_refunds 167 = .ok (.iconst 2, 1) := by decide +kernel
theorem dL_refunds_168 : decode cL_refunds 168 = .ok (.aload_n 2, 1) := by decide +kernel
theorem dL_refunds_169 : decode cL_refunds 169 = .ok (.iconst 4, 1) := by decide +kernel
theorem dL_refunds_170 : decode cL_refunds 170 = .ok (.iload 9, 2) := by decide +kernel
theorem dL_refunds_172 : decode cL_refunds 172 = .ok (.imul, 1) := by decide +kernel
theorem dL_refunds_173 : decode cL_refunds 173 = .ok (.iaload, 1) := by decide +kernel
theorem dL_refunds_174 : decode cL_refunds 174 = .ok (.imul, 1) := by decide +kernel
theorem dL_refunds_175 : decode cL_refunds 175 = .ok (.iconst 1, 1) := by decide +kernel
theorem dL_refunds_176 : decode cL_refunds 176 = .ok (.iadd, 1) := by decide +kernel
theorem dL_refunds_177 : decode cL_refunds 177 = .ok (.dup2, 1) := by decide +kernel
theorem dL_refunds_178 : decode cL_refunds 178 = .ok (.iaload, 1) := by decide +kernel
theorem dL_refunds_179 : decode cL_refunds 179 = .ok (.iload 10, 2) := by decide +kernel
theorem dL_refunds_181 : decode cL_refunds 181 = .ok (.iadd, 1) := by decide +kernel
theorem dL_refunds_182 : decode cL_refunds 182 = .ok (.iastore, 1) := by decide +kernel
theorem dL_refunds_183 : decode cL_refunds 183 = .ok (.iload 6, 2) := by decide +kernel
theorem dL_refunds_185 : decode cL_refunds 185 = .ok (.iload 10, 2) := by decide +kernel
theorem dL_refunds_187 : decode cL_refunds 187 = .ok (.isub, 1) := by decide +kernel
theorem dL_refunds_188 : decode cL_refunds 188 = .ok (.istore 6, 2) := by decide +kernel
theorem dL_refunds_190 : decode cL_refunds 190 = .ok (.iinc 9 1, 3) := by decide +kernel
theorem dL_refunds_193 : decode cL_refunds 193 = .ok (.goto (-102), 3) := by decide +kernel
theorem dL_refunds_196 : decode cL_refunds 196 = .ok (.iinc 8 (-1), 3) := by decide +kernel
theorem dL_refunds_199 : decode cL_refunds 199 = .ok (.goto (-116), 3) := by decide +kernel
theorem dL_refunds_202 : decode cL_refunds 202 = .ok (.return_, 1) := by decide +kernel
theorem dL_acts_0 : decode cL_acts 0 = .ok (.iload 7, 2) := by decide +kernel
theorem dL_acts_2 : decode cL_acts 2 = .ok (.iconst 5, 1) := by decide +kernel
theorem dL_acts_3 : decode cL_acts 3 = .ok (.ishr, 1) := by decide +kernel
theorem dL_acts_4 : decode cL_acts 4 = .ok (.ldc 15, 2) := by decide +kernel
theorem dL_acts_6 : decode cL_acts 6 = .ok (.invokestatic 16, 3) := by decide +kernel
theorem dL_acts_9 : decode cL_acts 9 = .ok (.istore 8, 2) := by decide +kernel
theorem dL_acts_11 : decode cL_acts 11 = .ok (.iload 7, 2) := by decide +kernel
theorem dL_acts_13 : decode cL_acts 13 = .ok (.bipush 26, 2) := by decide +kernel
theorem dL_acts_15 : decode cL_acts 15 = .ok (.invokestatic 16, 3) := by decide +kernel
theorem dL_acts_18 : decode cL_acts 18 = .ok (.istore 9, 2) := by decide +kernel
theorem dL_acts_20 : decode cL_acts 20 = .ok (.iload 9, 2) := by decide +kernel
theorem dL_acts_22 : decode cL_acts 22 = .ok (.iconst 2, 1) := by decide +kernel
theorem dL_acts_23 : decode cL_acts 23 = .ok (.if_icmp .lt 9, 3) := by decide +kernel
theorem dL_acts_26 : decode cL_acts 26 = .ok (.aload_n 1, 1) := by decide +kernel
theorem dL_acts_27 : decode cL_acts 27 = .ok (.iconst 0, 1) := by decide +kernel
theorem dL_acts_28 : decode cL_acts 28 = .ok (.iaload, 1) := by decide +kernel
theorem dL_acts_29 : decode cL_acts 29 = .ok (.ifCond .ne 181, 3) := by decide +kernel
theorem dL_acts_32 : decode cL_acts 32 = .ok (.aload_n 1, 1) := by decide +kernel
theorem dL_acts_33 : decode cL_acts 33 = .ok (.iconst 0, 1) := by decide +kernel
theorem dL_acts_34 : decode cL_acts 34 = .ok (.iaload, 1) := by decide +kernel
theorem dL_acts_35 : decode cL_acts 35 = .ok (.iconst 3, 1) := by decide +kernel
theorem dL_acts_36 : decode cL_acts 36 = .ok (.if_icmp .ne 36, 3) := by decide +kernel
theorem dL_acts_39 : decode cL_acts 39 = .ok (.aload_n 0, 1) := by decide +kernel
theorem dL_acts_40 : decode cL_acts 40 = .ok (.bipush 19, 2) := by decide +kernel
theorem dL_acts_42 : decode cL_acts 42 = .ok (.iconst 0, 1) := by decide +kernel
theorem dL_acts_43 : decode cL_acts 43 = .ok (.iconst 1, 1) := by decide +kernel
theorem dL_acts_44 : decode cL_acts 44 = .ok (.iconst 2, 1) := by decide +kernel
theorem dL_acts_45 : decode cL_acts 45 = .ok (.invokevirtual 20, 3) := by decide +kernel
theorem dL_acts_48 : decode cL_acts 48 = .ok (.iconst (-1), 1) := by decide +kernel
theorem dL_acts_49 : decode cL_acts 49 = .ok (.if_icmp .ne 21, 3) := by decide +kernel
theorem dL_acts_52 : decode cL_acts 52 = .ok (.aload_n 0, 1) := by decide +kernel
theorem dL_acts_53 : decode cL_acts 53 = .ok (.bipush 20, 2) := by decide +kernel
theorem dL_acts_55 : decode cL_acts 55 = .ok (.bipush 61, 2) := by decide +kernel
theorem dL_acts_57 : decode cL_acts 57 = .ok (.iconst 1, 1) := by decide +kernel
theorem dL_acts_58 : decode cL_acts 58 = .ok (.iconst 2, 1) := by decide +kernel
theorem dL_acts_59 : decode cL_acts 59 = .ok (.invokevirtual 20, 3) := by decide +kernel
theorem dL_acts_62 : decode cL_acts 62 = .ok (.iconst (-1), 1) := by decide +kernel
theorem dL_acts_63 : decode cL_acts 63 = .ok (.if_icmp .ne 7, 3) := by decide +kernel
theorem dL_acts_66 : decode cL_acts 66 = .ok (.iconst 1, 1) := by decide +kernel
theorem dL_acts_67 : decode cL_acts 67 = .ok (.goto 4, 3) := by decide +kernel
theorem dL_acts_70 : decode cL_acts 70 = .ok (.iconst 0, 1) := by decide +kernel
theorem dL_acts_71 : decode cL_acts 71 = .ok (.ireturn, 1) := by decide +kernel
theorem dL_acts_72 : decode cL_acts 72 = .ok (.bipush 11, 2) := by decide +kernel
theorem dL_acts_74 : decode cL_acts 74 = .ok (.aload_n 1, 1) := by decide +kernel
theorem dL_acts_75 : decode cL_acts 75 = .ok (.iconst 0, 1) := by decide +kernel
theorem dL_acts_76 : decode cL_acts 76 = .ok (.iaload, 1) := by decide +kernel
theorem dL_acts_77 : decode cL_acts 77 = .ok (.imul, 1) := by decide +kernel
theorem dL_acts_78 : decode cL_acts 78 = .ok (.istore 10, 2) := by decide +kernel
theorem dL_acts_80 : decode cL_acts 80 = .ok (.iconst 0, 1) := by decide +kernel
theorem dL_acts_81 : decode cL_acts 81 = .ok (.istore 11, 2) := by decide +kernel
theorem dL_acts_83 : decode cL_acts 83 = .ok (.iload 11, 2) := by decide +kernel
theorem dL_acts_85 : decode cL_acts 85 = .ok (.bipush 11, 2) := by decide +kernel
theorem dL_acts_87 : decode cL_acts 87 = .ok (.if_icmp .ge 17, 3) := by decide +kernel
theorem dL_acts_90 : decode cL_acts 90 = .ok (.aload_n 3, 1) := by decide +kernel
theorem dL_acts_91 : decode cL_acts 91 = .ok (.iload 10, 2) := by decide +kernel
theorem dL_acts_93 : decode cL_acts 93 = .ok (.iload 11, 2) := by decide +kernel
theorem dL_acts_95 : decode cL_acts 95 = .ok (.iadd, 1) := by decide +kernel
theorem dL_acts_96 : decode cL_acts 96 = .ok (.iconst 0, 1) := by decide +kernel
theorem dL_acts_97 : decode cL_acts 97 = .ok (.iastore, 1) := by decide +kernel
theorem dL_acts_98 : decode cL_acts 98 = .ok (.iinc 11 1, 3) := by decide +kernel
theorem dL_acts_101 : decode cL_acts 101 = .ok (.goto (-18), 3) := by decide +kernel
theorem dL_acts_104 : decode cL_acts 104 = .ok (.aload_n 3, 1) := by decide +kernel
theorem dL_acts_105 : decode cL_acts 105 = .ok (.iload 10, 2) := by decide +kernel
theorem dL_acts_107 : decode cL_acts 107 = .ok (.bipush 20, 2) := by decide +kernel
theorem dL_acts_109 : decode cL_acts 109 = .ok (.iload 8, 2) := by decide +kernel
theorem dL_acts_111 : decode cL_acts 111 = .ok (.bipush 101, 2) := by decide +kernel
theorem dL_acts_113 : decode cL_acts 113 = .ok (.irem, 1) := by decide +kernel
theorem dL_acts_114 : decode cL_acts 114 = .ok (.iadd, 1) := by decide +kernel
theorem dL_acts_115 : decode cL_acts 115 = .ok (.iastore, 1) := by decide +kernel
theorem dL_acts_116 : decode cL_acts 116 = .ok (.aload_n 3, 1) := by decide +kernel
theorem dL_acts_117 : decode cL_acts 117 = .ok (.iload 10, 2) := by decide +kernel
theorem dL_acts_119 : decode cL_acts 119 = .ok (.iconst 1, 1) := by decide +kernel
theorem dL_acts_120 : decode cL_acts 120 = .ok (.iadd, 1) := by decide +kernel
theorem dL_acts_121 : decode cL_acts 121 = .ok (.iload 8, 2) := by decide +kernel
theorem dL_acts_123 : decode cL_acts 123 = .ok (.bipush 101, 2) := by decide +kernel
theorem dL_acts_125 : decode cL_acts 125 = .ok (.idiv, 1) := by decide +kernel
theorem dL_acts_126 : decode cL_acts 126 = .ok (.bipush 61, 2) := by decide +kernel
theorem dL_acts_128 : decode cL_acts 128 = .ok (.irem, 1) := by decide +kernel
theorem dL_acts_129 : decode cL_acts 129 = .ok (.iastore, 1) := by decide +kernel
theorem dL_acts_130 : decode cL_acts 130 = .ok (.aload_n 3, 1) := by decide +kernel
theorem dL_acts_131 : decode cL_acts 131 = .ok (.iload 10, 2) := by decide +kernel
theorem dL_acts_133 : decode cL_acts 133 = .ok (.iconst 2, 1) := by decide +kernel
theorem dL_acts_134 : decode cL_acts 134 = .ok (.iadd, 1) := by decide +kernel
theorem dL_acts_135 : decode cL_acts 135 = .ok (.iconst 1, 1) := by decide +kernel
theorem dL_acts_136 : decode cL_acts 136 = .ok (.iload 8, 2) := by decide +kernel
theorem dL_acts_138 : decode cL_acts 138 = .ok (.bipush 7, 2) := by decide +kernel
theorem dL_acts_140 : decode cL_acts 140 = .ok (.idiv, 1) := by decide +kernel
theorem dL_acts_141 : decode cL_acts 141 = .ok (.sipush 200, 3) := by decide +kernel
theorem dL_acts_144 : decode cL_acts 144 = .ok (.irem, 1) := by decide +kernel
theorem dL_acts_145 : decode cL_acts 145 = .ok (.iadd, 1) := by decide +kernel
theorem dL_acts_146 : decode cL_acts 146 = .ok (.iastore, 1) := by decide +kernel
theorem dL_acts_147 : decode cL_acts 147 = .ok (.aload_n 3, 1) := by decide +kernel
theorem dL_acts_148 : decode cL_acts 148 = .ok (.iload 10, 2) := by decide +kernel
theorem dL_acts_150 : decode cL_acts 150 = .ok (.iconst 3, 1) := by decide +kernel
theorem dL_acts_151 : decode cL_acts 151 = .ok (.iadd, 1) := by decide +kernel
theorem dL_acts_152 : decode cL_acts 152 = .ok (.iconst 2, 1) := by decide +kernel
theorem dL_acts_153 : decode cL_acts 153 = .ok (.iload 8, 2) := by decide +kernel
theorem dL_acts_155 : decode cL_acts 155 = .ok (.bipush 11, 2) := by decide +kernel
theorem dL_acts_157 : decode cL_acts 157 = .ok (.idiv, 1) := by decide +kernel
theorem dL_acts_158 : decode cL_acts 158 = .ok (.bipush 7, 2) := by decide +kernel
theorem dL_acts_160 : decode cL_acts 160 = .ok (.irem, 1) := by decide +kernel
theorem dL_acts_161 : decode cL_acts 161 = .ok (.iadd, 1) := by decide +kernel
theorem dL_acts_162 : decode cL_acts 162 = .ok (.iastore, 1) := by decide +kernel
theorem dL_acts_163 : decode cL_acts 163 = .ok (.aload_n 1, 1) := by decide +kernel
theorem dL_acts_164 : decode cL_acts 164 = .ok (.iconst 0, 1) := by decide +kernel
theorem dL_acts_165 : decode cL_acts 165 = .ok (.dup2, 1) := by decide +kernel
theorem dL_acts_166 : decode cL_acts 166 = .ok (.iaload, 1) := by decide +kernel
theorem dL_acts_167 : decode cL_acts 167 = .ok (.iconst 1, 1) := by decide +kernel
theorem dL_acts_168 : decode cL_acts 168 = .ok (.iadd, 1) := by decide +kernel
theorem dL_acts_169 : decode cL_acts 169 = .ok (.iastore, 1) := by decide +kernel
theorem dL_acts_170 : decode cL_acts 170 = .ok (.aload_n 0, 1) := by decide +kernel
theorem dL_acts_171 : decode cL_acts 171 = .ok (.aload_n 3, 1) := by decide +kernel
theorem dL_acts_172 : decode cL_acts 172 = .ok (.iload 10, 2) := by decide +kernel
theorem dL_acts_174 : decode cL_acts 174 = .ok (.iaload, 1) := by decide +kernel
theorem dL_acts_175 : decode cL_acts 175 = .ok (.aload_n 3, 1) := by decide +kernel
theorem dL_acts_176 : decode cL_acts 176 = .ok (.iload 10, 2) := by decide +kernel
theorem dL_acts_178 : decode cL_acts 178 = .ok (.iconst 1, 1) := by decide +kernel
theorem dL_acts_179 : decode cL_acts 179 = .ok (.iadd, 1) := by decide +kernel
theorem dL_acts_180 : decode cL_acts 180 = .ok (.iaload, 1) := by decide +kernel
theorem dL_acts_181 : decode cL_acts 181 = .ok (.aload_n 3, 1) := by decide +kernel
theorem dL_acts_182 : decode cL_acts 182 = .ok (.iload 10, 2) := by decide +kernel
theorem dL_acts_184 : decode cL_acts 184 = .ok (.iconst 2, 1) := by decide +kernel
theorem dL_acts_185 : decode cL_acts 185 = .ok (.iadd, 1) := by decide +kernel
theorem dL_acts_186 : decode cL_acts 186 = .ok (.iaload, 1) := by decide +kernel
theorem dL_acts_187 : decode cL_acts 187 = .ok (.aload_n 3, 1) := by decide +kernel
theorem dL_acts_188 : decode cL_acts 188 = .ok (.iload 10, 2) := by decide +kernel
theorem dL_acts_190 : decode cL_acts 190 = .ok (.iconst 3, 1) := by decide +kernel
theorem dL_acts_191 : decode cL_acts 191 = .ok (.iadd, 1) := by decide +kernel
theorem dL_acts_192 : decode cL_acts 192 = .ok (.iaload, 1) := by decide +kernel
theorem dL_acts_193 : decode cL_acts 193 = .ok (.invokevirtual 20, 3) := by decide +kernel
theorem dL_acts_196 : decode cL_acts 196 = .ok (.aload_n 1, 1) := by decide +kernel
theorem dL_acts_197 : decode cL_acts 197 = .ok (.iconst 0, 1) := by decide +kernel
theorem dL_acts_198 : decode cL_acts 198 = .ok (.iaload, 1) := by decide +kernel
theorem dL_acts_199 : decode cL_acts 199 = .ok (.iconst 1, 1) := by decide +kernel
theorem dL_acts_200 : decode cL_acts 200 = .ok (.isub, 1) := by decide +kernel
theorem dL_acts_201 : decode cL_acts 201 = .ok (.if_icmp .ne 7, 3) := by decide +kernel
theorem dL_acts_204 : decode cL_acts 204 = .ok (.iconst 1, 1) := by decide +kernel
theorem dL_acts_205 : decode cL_acts 205 = .ok (.goto 4, 3) := by decide +kernel
theorem dL_acts_208 : decode cL_acts 208 = .ok (.iconst 0, 1) := by decide +kernel
theorem dL_acts_209 : decode cL_acts 209 = .ok (.ireturn, 1) := by decide +kernel
theorem dL_acts_210 : decode cL_acts 210 = .ok (.iload 9, 2) := by decide +kernel
theorem dL_acts_212 : decode cL_acts 212 = .ok (.iconst 4, 1) := by decide +kernel
theorem dL_acts_213 : decode cL_acts 213 = .ok (.if_icmp .ge 109, 3) := by decide +kernel
theorem dL_acts_216 : decode cL_acts 216 = .ok (.aload_n 1, 1) := by decide +kernel
theorem dL_acts_217 : decode cL_acts 217 = .ok (.iconst 2, 1) := by decide +kernel
theorem dL_acts_218 : decode cL_acts 218 = .ok (.iaload, 1) := by decide +kernel
theorem dL_acts_219 : decode cL_acts 219 = .ok (.iconst 4, 1) := by decide +kernel
theorem dL_acts_220 : decode cL_acts 220 = .ok (.if_icmp .ne 29, 3) := by decide +kernel
theorem dL_acts_223 : decode cL_acts 223 = .ok (.aload_n 0, 1) := by decide +kernel
theorem dL_acts_224 : decode cL_acts 224 = .ok (.sipush 501, 3) := by decide +kernel
theorem dL_acts_227 : decode cL_acts 227 = .ok (.invokevirtual 26, 3) := by decide +kernel
theorem dL_acts_230 : decode cL_acts 230 = .ok (.iconst (-1), 1) := by decide +kernel
theorem dL_acts_231 : decode cL_acts 231 = .ok (.if_icmp .ne 16, 3) := by decide +kernel
theorem dL_acts_234 : decode cL_acts 234 = .ok (.aload_n 0, 1) := by decide +kernel
theorem dL_acts_235 : decode cL_acts 235 = .ok (.iconst 0, 1) := by decide +kernel
theorem dL_acts_236 : decode cL_acts 236 = .ok (.invokevirtual 26, 3) := by decide +kernel
theorem dL_acts_239 : decode cL_acts 239 = .ok (.iconst (-1), 1) := by decide +kernel
theorem dL_acts_240 : decode cL_acts 240 = .ok (.if_icmp .ne 7, 3) := by decide +kernel
theorem dL_acts_243 : decode cL_acts 243 = .ok (.iconst 1, 1) := by decide +kernel
theorem dL_acts_244 : decode cL_acts 244 = .ok (.goto 4, 3) := by decide +kernel
theorem dL_acts_247 : decode cL_acts 247 = .ok (.iconst 0, 1) := by decide +kernel
theorem dL_acts_248 : decode cL_acts 248 = .ok (.ireturn, 1) := by decide +kernel
theorem dL_acts_249 : decode cL_acts 249 = .ok (.iconst 2, 1) := by decide +kernel
theorem dL_acts_250 : decode cL_acts 250 = .ok (.aload_n 1, 1) := by decide +kernel
theorem dL_acts_251 : decode cL_acts 251 = .ok (.iconst 2, 1) := by decide +kernel
theorem dL_acts_252 : decode cL_acts 252 = .ok (.iaload, 1) := by decide +kernel
theorem dL_acts_253 : decode cL_acts 253 = .ok (.imul, 1) := by decide +kernel
theorem dL_acts_254 : decode cL_acts 254 = .ok (.istore 10, 2) := by decide +kernel
theorem dL_acts_256 : decode cL_acts 256 = .ok (.aload 6, 2) := by decide +kernel
theorem dL_acts_258 : decode cL_acts 258 = .ok (.iload 10, 2) := by decide +kernel
theorem dL_acts_260 : decode cL_acts 260 = .ok (.iconst 1, 1) := by decide +kernel
theorem dL_acts_261 : decode cL_acts 261 = .ok (.iload 8, 2) := by decide +kernel
theorem dL_acts_263 : decode cL_acts 263 = .ok (.sipush 500, 3) := by decide +kernel
theorem dL_acts_266 : decode cL_acts 266 = .ok (.irem, 1) := by decide +kernel
theorem dL_acts_267 : decode cL_acts 267 = .ok (.iadd, 1) := by decide +kernel
theorem dL_acts_268 : decode cL_acts 268 = .ok (.iastore, 1) := by decide +kernel
theorem dL_acts_269 : decode cL_acts 269 = .ok (.aload 6, 2) := by decide +kernel
theorem dL_acts_271 : decode cL_acts 271 = .ok (.iload 10, 2) := by decide +kernel
theorem dL_acts_273 : decode cL_acts 273 = .ok (.iconst 1, 1) := by decide +kernel
theorem dL_acts_274 : decode cL_acts 274 = .ok (.iadd, 1) := by decide +kernel
theorem dL_acts_275 : decode cL_acts 275 = .ok (.aload 6, 2) := by decide +kernel
theorem dL_acts_277 : decode cL_acts 277 = .ok (.iload 10, 2) := by decide +kernel
theorem dL_acts_279 : decode cL_acts 279 = .ok (.iaload, 1) := by decide +kernel
theorem dL_acts_280 : decode cL_acts 280 = .ok (.iastore, 1) := by decide +kernel
theorem dL_acts_281 : decode cL_acts 281 = .ok (.aload_n 1, 1) := by decide +kernel
theorem dL_acts_282 : decode cL_acts 282 = .ok (.iconst 3, 1) := by decide +kernel
theorem dL_acts_283 : decode cL_acts 283 = .ok (.dup2, 1) := by decide +kernel
theorem dL_acts_284 : decode cL_acts 284 = .ok (.iaload, 1) := by decide +kernel
theorem dL_acts_285 : decode cL_acts 285 = .ok (.aload 6, 2) := by decide +kernel
theorem dL_acts_287 : decode cL_acts 287 = .ok (.iload 10, 2) := by decide +kernel
theorem dL_acts_289 : decode cL_acts 289 = .ok (.iaload, 1) := by decide +kernel
theorem dL_acts_290 : decode cL_acts 290 = .ok (.iadd, 1) := by decide +kernel
theorem dL_acts_291 : decode cL_acts 291 = .ok (.iastore, 1) := by decide +kernel
theorem dL_acts_292 : decode cL_acts 292 = .ok (.aload_n 1, 1) := by decide +kernel
theorem dL_acts_293 : decode cL_acts 293 = .ok (.iconst 2, 1) := by decide +kernel
theorem dL_acts_294 : decode cL_acts 294 = .ok (.dup2, 1) := by decide +kernel
theorem dL_acts_295 : decode cL_acts 295 = .ok (.iaload, 1) := by decide +kernel
theorem dL_acts_296 : decode cL_acts 296 = .ok (.iconst 1, 1) := by decide +kernel
theorem dL_acts_297 : decode cL_acts 297 = .ok (.iadd, 1) := by decide +kernel
theorem dL_acts_298 : decode cL_acts 298 = .ok (.iastore, 1) := by decide +kernel
theorem dL_acts_299 : decode cL_acts 299 = .ok (.aload_n 0, 1) := by decide +kernel
theorem dL_acts_300 : decode cL_acts 300 = .ok (.aload 6, 2) := by decide +kernel
theorem dL_acts_302 : decode cL_acts 302 = .ok (.iload 10, 2) := by decide +kernel
theorem dL_acts_304 : decode cL_acts 304 = .ok (.iaload, 1) := by decide +kernel
theorem dL_acts_305 : decode cL_acts 305 = .ok (.invokevirtual 26, 3) := by decide +kernel
theorem dL_acts_308 : decode cL_acts 308 = .ok (.aload_n 1, 1) := by decide +kernel
theorem dL_acts_309 : decode cL_acts 309 = .ok (.iconst 2, 1) := by decide +kernel
theorem dL_acts_310 : decode cL_acts 310 = .ok (.iaload, 1) := by decide +kernel
theorem dL_acts_311 : decode cL_acts 311 = .ok (.iconst 1, 1) := by decide +kernel
theorem dL_acts_312 : decode cL_acts 312 = .ok (.isub, 1) := by decide +kernel
theorem dL_acts_313 : decode cL_acts 313 = .ok (.if_icmp .ne 7, 3) := by decide +kernel
theorem dL_acts_316 : decode cL_acts 316 = .ok (.iconst 1, 1) := by decide +kernel
theorem dL_acts_317 : decode cL_acts 317 = .ok (.goto 4, 3) := by decide +kernel
theorem dL_acts_320 : decode cL_acts 320 = .ok (.iconst 0, 1) := by decide +kernel
theorem dL_acts_321 : decode cL_acts 321 = .ok (.ireturn, 1) := by decide +kernel
theorem dL_acts_322 : decode cL_acts 322 = .ok (.iload 8, 2) := by decide +kernel
theorem dL_acts_324 : decode cL_acts 324 = .ok (.aload_n 1, 1) := by decide +kernel
theorem dL_acts_325 : decode cL_acts 325 = .ok (.iconst 0, 1) := by decide +kernel
theorem dL_acts_326 : decode cL_acts 326 = .ok (.iaload, 1) := by decide +kernel
theorem dL_acts_327 : decode cL_acts 327 = .ok (.irem, 1) := by decide +kernel
theorem dL_acts_328 : decode cL_acts 328 = .ok (.istore 10, 2) := by decide +kernel
theorem dL_acts_330 : decode cL_acts 330 = .ok (.iload 9, 2) := by decide +kernel
theorem dL_acts_332 : decode cL_acts 332 = .ok (.bipush 12, 2) := by decide +kernel
theorem dL_acts_334 : decode cL_acts 334 = .ok (.if_icmp .ge 441, 3) := by decide +kernel
theorem dL_acts_337 : decode cL_acts 337 = .ok (.iload 8, 2) := by decide +kernel
theorem dL_acts_339 : decode cL_acts 339 = .ok (.iconst 3, 1) := by decide +kernel
theorem dL_acts_340 : decode cL_acts 340 = .ok (.idiv, 1) := by decide +kernel
theorem dL_acts_341 : decode cL_acts 341 = .ok (.iload 8, 2) := by decide +kernel
theorem dL_acts_343 : decode cL_acts 343 = .ok (.iconst 2, 1) := by decide +kernel
theorem dL_acts_344 : decode cL_acts 344 = .ok (.irem, 1) := by decide +kernel
theorem dL_acts_345 : decode cL_acts 345 = .ok (.ifCond .ne 9, 3) := by decide +kernel
theorem dL_acts_348 : decode cL_acts 348 = .ok (.sipush 721, 3) := by decide +kernel
theorem dL_acts_351 : decode cL_acts 351 = .ok (.goto 6, 3) := by decide +kernel
theorem dL_acts_354 : decode cL_acts 354 = .ok (.sipush 240, 3) := by decide +kernel
theorem dL_acts_357 : decode cL_acts 357 = .ok (.irem, 1) := by decide +kernel
theorem dL_acts_358 : decode cL_acts 358 = .ok (.istore 11, 2) := by decide +kernel
theorem dL_acts_360 : decode cL_acts 360 = .ok (.iconst 2, 1) := by decide +kernel
theorem dL_acts_361 : decode cL_acts 361 = .ok (.iload 8, 2) := by decide +kernel
theorem dL_acts_363 : decode cL_acts 363 = .ok (.sipush 1440, 3) := by decide +kernel
theorem dL_acts_366 : decode cL_acts 366 = .ok (.idiv, 1) := by decide +kernel
theorem dL_acts_367 : decode cL_acts 367 = .ok (.aload_n 3, 1) := by decide +kernel
theorem dL_acts_368 : decode cL_acts 368 = .ok (.bipush 11, 2) := by decide +kernel
theorem dL_acts_370 : decode cL_acts 370 = .ok (.iload 10, 2) := by decide +kernel
theorem dL_acts_372 : decode cL_acts 372 = .ok (.imul, 1) := by decide +kernel
theorem dL_acts_373 : decode cL_acts 373 = .ok (.iconst 3, 1) := by decide +kernel
theorem dL_acts_374 : decode cL_acts 374 = .ok (.iadd, 1) := by decide +kernel
theorem dL_acts_375 : decode cL_acts 375 = .ok (.iaload, 1) := by decide +kernel
theorem dL_acts_376 : decode cL_acts 376 = .ok (.iconst 1, 1) := by decide +kernel
theorem dL_acts_377 : decode cL_acts 377 = .ok (.isub, 1) := by decide +kernel
theorem dL_acts_378 : decode cL_acts 378 = .ok (.irem, 1) := by decide +kernel
theorem dL_acts_379 : decode cL_acts 379 = .ok (.iadd, 1) := by decide +kernel
theorem dL_acts_380 : decode cL_acts 380 = .ok (.istore 12, 2) := by decide +kernel
theorem dL_acts_382 : decode cL_acts 382 = .ok (.iload 8, 2) := by decide +kernel
theorem dL_acts_384 : decode cL_acts 384 = .ok (.iconst 5, 1) := by decide +kernel
theorem dL_acts_385 : decode cL_acts 385 = .ok (.idiv, 1) := by decide +kernel
theorem dL_acts_386 : decode cL_acts 386 = .ok (.aload_n 1, 1) := by decide +kernel
theorem dL_acts_387 : decode cL_acts 387 = .ok (.iconst 2, 1) := by decide +kernel
theorem dL_acts_388 : decode cL_acts 388 = .ok (.iaload, 1) := by decide +kernel
theorem dL_acts_389 : decode cL_acts 389 = .ok (.iconst 1, 1) := by decide +kernel
theorem dL_acts_390 : decode cL_acts 390 = .ok (.iadd, 1) := by decide +kernel
theorem dL_acts_391 : decode cL_acts 391 = .ok (.irem, 1) := by decide +kernel
theorem dL_acts_392 : decode cL_acts 392 = .ok (.iconst 1, 1) := by decide +kernel
theorem dL_acts_393 : decode cL_acts 393 = .ok (.isub, 1) := by decide +kernel
theorem dL_acts_394 : decode cL_acts 394 = .ok (.istore 13, 2) := by decide +kernel
theorem dL_acts_396 : decode cL_acts 396 = .ok (.aload_n 1, 1) := by decide +kernel
theorem dL_acts_397 : decode cL_acts 397 = .ok (.aload_n 3, 1) := by decide +kernel
theorem dL_acts_398 : decode cL_acts 398 = .ok (.aload 4, 2) := by decide +kernel
theorem dL_acts_400 : decode cL_acts 400 = .ok (.iload 10, 2) := by decide +kernel
theorem dL_acts_402 : decode cL_acts 402 = .ok (.iload 11, 2) := by decide +kernel
theorem dL_acts_404 : decode cL_acts 404 = .ok (.iconst (-1), 1) := by decide +kernel
theorem dL_acts_405 : decode cL_acts 405 = .ok (.invokestatic 30, 3) := by decide +kernel
theorem dL_acts_408 : decode cL_acts 408 = .ok (.ifCond .ne 26, 3) := by decide +kernel
theorem dL_acts_411 : decode cL_acts 411 = .ok (.aload_n 0, 1) := by decide +kernel
theorem dL_acts_412 : decode cL_acts 412 = .ok (.iload 10, 2) := by decide +kernel
theorem dL_acts_414 : decode cL_acts 414 = .ok (.iload 11, 2) := by decide +kernel
theorem dL_acts_416 : decode cL_acts 416 = .ok (.iload 12, 2) := by decide +kernel
theorem dL_acts_418 : decode cL_acts 418 = .ok (.iload 13, 2) := by decide +kernel
theorem dL_acts_420 : decode cL_acts 420 = .ok (.invokevirtual 34, 3) := by decide +kernel
theorem dL_acts_423 : decode cL_acts 423 = .ok (.bipush (-2), 2) := by decide +kernel
theorem dL_acts_425 : decode cL_acts 425 = .ok (.if_icmp .ne 7, 3) := by decide +kernel
theorem dL_acts_428 : decode cL_acts 428 = .ok (.iconst 1, 1) := by decide +kernel
theorem dL_acts_429 : decode cL_acts 429 = .ok (.goto 4, 3) := by decide +kernel
theorem dL_acts_432 : decode cL_acts 432 = .ok (.iconst 0, 1) := by decide +kernel
theorem dL_acts_433 : decode cL_acts 433 = .ok (.ireturn, 1) := by decide +kernel
theorem dL_acts_434 : decode cL_acts 434 = .ok (.aload_n 1, 1) := by decide +kernel
theorem dL_acts_435 : decode cL_acts 435 = .ok (.iconst 1, 1) := by decide +kernel
theorem dL_acts_436 : decode cL_acts 436 = .ok (.iaload, 1) := by decide +kernel
theorem dL_acts_437 : decode cL_acts 437 = .ok (.bipush 7, 2) := by decide +kernel
theorem dL_acts_439 : decode cL_acts 439 = .ok (.if_icmp .ne 49, 3) := by decide +kernel
theorem dL_acts_442 : decode cL_acts 442 = .ok (.aload_n 0, 1) := by decide +kernel
theorem dL_acts_443 : decode cL_acts 443 = .ok (.iload 10, 2) := by decide +kernel
theorem dL_acts_445 : decode cL_acts 445 = .ok (.iload 11, 2) := by decide +kernel
theorem dL_acts_447 : decode cL_acts 447 = .ok (.aload_n 3, 1) := by decide +kernel
theorem dL_acts_448 : decode cL_acts 448 = .ok (.bipush 11, 2) := by decide +kernel
theorem dL_acts_450 : decode cL_acts 450 = .ok (.iload 10, 2) := by decide +kernel
theorem dL_acts_452 : decode cL_acts 452 = .ok (.imul, 1) := by decide +kernel
theorem dL_acts_453 : decode cL_acts 453 = .ok (.iconst 3, 1) := by decide +kernel
theorem dL_acts_454 : decode cL_acts 454 = .ok (.iadd, 1) := by decide +kernel
theorem dL_acts_455 : decode cL_acts 455 = .ok (.iaload, 1) := by decide +kernel
theorem dL_acts_456 : decode cL_acts 456 = .ok (.iconst 1, 1) := by decide +kernel
theorem dL_acts_457 : decode cL_acts 457 = .ok (.iadd, 1) := by decide +kernel
theorem dL_acts_458 : decode cL_acts 458 = .ok (.iload 13, 2) := by decide +kernel
theorem dL_acts_460 : decode cL_acts 460 = .ok (.invokevirtual 34, 3) := by decide +kernel
theorem dL_acts_463 : decode cL_acts 463 = .ok (.iconst (-1), 1) := by decide +kernel
theorem dL_acts_464 : decode cL_acts 464 = .ok (.if_icmp .ne 22, 3) := by decide +kernel
theorem dL_acts_467 : decode cL_acts 467 = .ok (.aload_n 0, 1) := by decide +kernel
theorem dL_acts_468 : decode cL_acts 468 = .ok (.iload 10, 2) := by decide +kernel
theorem dL_acts_470 : decode cL_acts 470 = .ok (.sipush 721, 3) := by decide +kernel
theorem dL_acts_473 : decode cL_acts 473 = .ok (.iconst 2, 1) := by decide +kernel
theorem dL_acts_474 : decode cL_acts 474 = .ok (.iconst (-1), 1) := by decide +kernel
theorem dL_acts_475 : decode cL_acts 475 = .ok (.invokevirtual 34, 3) := by decide +kernel
theorem dL_acts_478 : decode cL_acts 478 = .ok (.iconst (-1), 1) := by decide +kernel
theorem dL_acts_479 : decode cL_acts 479 = .ok (.if_icmp .ne 7, 3) := by decide +kernel
theorem dL_acts_482 : decode cL_acts 482 = .ok (.iconst 1, 1) := by decide +kernel
theorem dL_acts_483 : decode cL_acts 483 = .ok (.goto 4, 3) := by decide +kernel
theorem dL_acts_486 : decode cL_acts 486 = .ok (.iconst 0, 1) := by decide +kernel
theorem dL_acts_487 : decode cL_acts 487 = .ok (.ireturn, 1) := by decide +kernel
theorem dL_acts_488 : decode cL_acts 488 = .ok (.aload_n 1, 1) := by decide +kernel
theorem dL_acts_489 : decode cL_acts 489 = .ok (.iconst 1, 1) := by decide +kernel
theorem dL_acts_490 : decode cL_acts 490 = .ok (.iaload, 1) := by decide +kernel
theorem dL_acts_491 : decode cL_acts 491 = .ok (.istore 14, 2) := by decide +kernel
theorem dL_acts_493 : decode cL_acts 493 = .ok (.aload_n 3, 1) := by decide +kernel
theorem dL_acts_494 : decode cL_acts 494 = .ok (.bipush 11, 2) := by decide +kernel
theorem dL_acts_496 : decode cL_acts 496 = .ok (.iload 10, 2) := by decide +kernel
theorem dL_acts_498 : decode cL_acts 498 = .ok (.imul, 1) := by decide +kernel
theorem dL_acts_499 : decode cL_acts 499 = .ok (.iconst 2, 1) := by decide +kernel
theorem dL_acts_500 : decode cL_acts 500 = .ok (.iadd, 1) := by decide +kernel
theorem dL_acts_501 : decode cL_acts 501 = .ok (.iaload, 1) := by decide +kernel
theorem dL_acts_502 : decode cL_acts 502 = .ok (.iload 12, 2) := by decide +kernel
theorem dL_acts_504 : decode cL_acts 504 = .ok (.imul, 1) := by decide +kernel
theorem dL_acts_505 : decode cL_acts 505 = .ok (.istore 15, 2) := by decide +kernel
theorem dL_acts_507 : decode cL_acts 507 = .ok (.iload 13, 2) := by decide +kernel
theorem dL_acts_509 : decode cL_acts 509 = .ok (.ifCond .ge 7, 3) := by decide +kernel
theorem dL_acts_512 : decode cL_acts 512 = .ok (.iconst 0, 1) := by decide +kernel
theorem dL_acts_513 : decode cL_acts 513 = .ok (.goto 31, 3) := by decide +kernel
theorem dL_acts_516 : decode cL_acts 516 = .ok (.aload 6, 2) := by decide +kernel
theorem dL_acts_518 : decode cL_acts 518 = .ok (.iconst 2, 1) := by decide +kernel
theorem dL_acts_519 : decode cL_acts 519 = .ok (.iload 13, 2) := by decide +kernel
theorem dL_acts_521 : decode cL_acts 521 = .ok (.imul, 1) := by decide +kernel
theorem dL_acts_522 : decode cL_acts 522 = .ok (.iconst 1, 1) := by decide +kernel
theorem dL_acts_523 : decode cL_acts 523 = .ok (.iadd, 1) := by decide +kernel
theorem dL_acts_524 : decode cL_acts 524 = .ok (.iaload, 1) := by decide +kernel
theorem dL_acts_525 : decode cL_acts 525 = .ok (.iload 15, 2) := by decide +kernel
theorem dL_acts_527 : decode cL_acts 527 = .ok (.if_icmp .ge 15, 3) := by decide +kernel
theorem dL_acts_530 : decode cL_acts 530 = .ok (.aload 6, 2) := by decide +kernel
theorem dL_acts_532 : decode cL_acts 532 = .ok (.iconst 2, 1) := by decide +kernel
theorem dL_acts_533 : decode cL_acts 533 = .ok (.iload 13, 2) := by decide +kernel
theorem dL_acts_535 : decode cL_acts 535 = .ok (.imul, 1) := by decide +kernel
theorem dL_acts_536 : decode cL_acts 536 = .ok (.iconst 1, 1) := by decide +kernel
theorem dL_acts_537 : decode cL_acts 537 = .ok (.iadd, 1) := by decide +kernel
theorem dL_acts_538 : decode cL_acts 538 = .ok (.iaload, 1) := by decide +kernel
theorem dL_acts_539 : decode cL_acts 539 = .ok (.goto 5, 3) := by decide +kernel
theorem dL_acts_542 : decode cL_acts 542 = .ok (.iload 15, 2) := by decide +kernel
theorem dL_acts_544 : decode cL_acts 544 = .ok (.istore 16, 2) := by decide +kernel
theorem dL_acts_546 : decode cL_acts 546 = .ok (.aload 4, 2) := by decide +kernel
theorem dL_acts_548 : decode cL_acts 548 = .ok (.bipush 9, 2) := by decide +kernel
theorem dL_acts_550 : decode cL_acts 550 = .ok (.iload 14, 2) := by decide +kernel
theorem dL_acts_552 : decode cL_acts 552 = .ok (.imul, 1) := by decide +kernel
theorem dL_acts_553 : decode cL_acts 553 = .ok (.iload 10, 2) := by decide +kernel
theorem dL_acts_555 : decode cL_acts 555 = .ok (.iastore, 1) := by decide +kernel
theorem dL_acts_556 : decode cL_acts 556 = .ok (.aload 4, 2) := by decide +kernel
theorem dL_acts_558 : decode cL_acts 558 = .ok (.bipush 9, 2) := by decide +kernel
theorem dL_acts_560 : decode cL_acts 560 = .ok (.iload 14, 2) := by decide +kernel
theorem dL_acts_562 : decode cL_acts 562 = .ok (.imul, 1) := by decide +kernel
theorem dL_acts_563 : decode cL_acts 563 = .ok (.iconst 1, 1) := by decide +kernel
theorem dL_acts_564 : decode cL_acts 564 = .ok (.iadd, 1) := by decide +kernel
theorem dL_acts_565 : decode cL_acts 565 = .ok (.iload 11, 2) := by decide +kernel
theorem dL_acts_567 : decode cL_acts 567 = .ok (.iastore, 1) := by decide +kernel
theorem dL_acts_568 : decode cL_acts 568 = .ok (.aload 4, 2) := by decide +kernel
theorem dL_acts_570 : decode cL_acts 570 = .ok (.bipush 9, 2) := by decide +kernel
theorem dL_acts_572 : decode cL_acts 572 = .ok (.iload 14, 2) := by decide +kernel
theorem dL_acts_574 : decode cL_acts 574 = .ok (.imul, 1) := by decide +kernel
theorem dL_acts_575 : decode cL_acts 575 = .ok (.iconst 2, 1) := by decide +kernel
theorem dL_acts_576 : decode cL_acts 576 = .ok (.iadd, 1) := by decide +kernel
theorem dL_acts_577 : decode cL_acts 577 = .ok (.iload 12, 2) := by decide +kernel
theorem dL_acts_579 : decode cL_acts 579 = .ok (.iastore, 1) := by decide +kernel
theorem dL_acts_580 : decode cL_acts 580 = .ok (.aload 4, 2) := by decide +kernel
theorem dL_acts_582 : decode cL_acts 582 = .ok (.bipush 9, 2) := by decide +kernel
theorem dL_acts_584 : decode cL_acts 584 = .ok (.iload 14, 2) := by decide +kernel
theorem dL_acts_586 : decode cL_acts 586 = .ok (.imul, 1) := by decide +kernel
theorem dL_acts_587 : decode cL_acts 587 = .ok (.iconst 3, 1) := by decide +kernel
theorem dL_acts_588 : decode cL_acts 588 = .ok (.iadd, 1) := by decide +kernel
theorem dL_acts_589 : decode cL_acts 589 = .ok (.iconst 0, 1) := by decide +kernel
theorem dL_acts_590 : decode cL_acts 590 = .ok (.iastore, 1) := by decide +kernel
theorem dL_acts_591 : decode cL_acts 591 = .ok (.aload 4, 2) := by decide +kernel
theorem dL_acts_593 : decode cL_acts 593 = .ok (.bipush 9, 2) := by decide +kernel
theorem dL_acts_595 : decode cL_acts 595 = .ok (.iload 14, 2) := by decide +kernel
theorem dL_acts_597 : decode cL_acts 597 = .ok (.imul, 1) := by decide +kernel
theorem dL_acts_598 : decode cL_acts 598 = .ok (.iconst 4, 1) := by decide +kernel
theorem dL_acts_599 : decode cL_acts 599 = .ok (.iadd, 1) := by decide +kernel
theorem dL_acts_600 : decode cL_acts 600 = .ok (.iload 15, 2) := by decide +kernel
theorem dL_acts_602 : decode cL_acts 602 = .ok (.iastore, 1) := by decide +kernel
theorem dL_acts_603 : decode cL_acts 603 = .ok (.aload 4, 2) := by decide +kernel
theorem dL_acts_605 : decode cL_acts 605 = .ok (.bipush 9, 2) := by decide +kernel
theorem dL_acts_607 : decode cL_acts 607 = .ok (.iload 14, 2) := by decide +kernel
theorem dL_acts_609 : decode cL_acts 609 = .ok (.imul, 1) := by decide +kernel
theorem dL_acts_610 : decode cL_acts 610 = .ok (.iconst 5, 1) := by decide +kernel
theorem dL_acts_611 : decode cL_acts 611 = .ok (.iadd, 1) := by decide +kernel
theorem dL_acts_612 : decode cL_acts 612 = .ok (.iload 15, 2) := by decide +kernel
theorem dL_acts_614 : decode cL_acts 614 = .ok (.iload 16, 2) := by decide +kernel
theorem dL_acts_616 : decode cL_acts 616 = .ok (.isub, 1) := by decide +kernel
theorem dL_acts_617 : decode cL_acts 617 = .ok (.iastore, 1) := by decide +kernel
theorem dL_acts_618 : decode cL_acts 618 = .ok (.aload 4, 2) := by decide +kernel
theorem dL_acts_620 : decode cL_acts 620 = .ok (.bipush 9, 2) := by decide +kernel
theorem dL_acts_622 : decode cL_acts 622 = .ok (.iload 14, 2) := by decide +kernel
theorem dL_acts_624 : decode cL_acts 624 = .ok (.imul, 1) := by decide +kernel
theorem dL_acts_625 : decode cL_acts 625 = .ok (.bipush 6, 2) := by decide +kernel
theorem dL_acts_627 : decode cL_acts 627 = .ok (.iadd, 1) := by decide +kernel
theorem dL_acts_628 : decode cL_acts 628 = .ok (.iconst 0, 1) := by decide +kernel
theorem dL_acts_629 : decode cL_acts 629 = .ok (.iastore, 1) := by decide +kernel
theorem dL_acts_630 : decode cL_acts 630 = .ok (.aload 4, 2) := by decide +kernel
theorem dL_acts_632 : decode cL_acts 632 = .ok (.bipush 9, 2) := by decide +kernel
theorem dL_acts_634 : decode cL_acts 634 = .ok (.iload 14, 2) := by decide +kernel
theorem dL_acts_636 : decode cL_acts 636 = .ok (.imul, 1) := by decide +kernel
theorem dL_acts_637 : decode cL_acts 637 = .ok (.bipush 7, 2) := by decide +kernel
theorem dL_acts_639 : decode cL_acts 639 = .ok (.iadd, 1) := by decide +kernel
theorem dL_acts_640 : decode cL_acts 640 = .ok (.bipush (-9), 2) := by decide +kernel
theorem dL_acts_642 : decode cL_acts 642 = .ok (.iastore, 1) := by decide +kernel
theorem dL_acts_643 : decode cL_acts 643 = .ok (.aload 4, 2) := by decide +kernel
theorem dL_acts_645 : decode cL_acts 645 = .ok (.bipush 9, 2) := by decide +kernel
theorem dL_acts_647 : decode cL_acts 647 = .ok (.iload 14, 2) := by decide +kernel
theorem dL_acts_649 : decode cL_acts 649 = .ok (.imul, 1) := by decide +kernel
theorem dL_acts_650 : decode cL_acts 650 = .ok (.bipush 8, 2) := by decide +kernel
theorem dL_acts_652 : decode cL_acts 652 = .ok (.iadd, 1) := by decide +kernel
theorem dL_acts_653 : decode cL_acts 653 = .ok (.bipush (-9), 2) := by decide +kernel
theorem dL_acts_655 : decode cL_acts 655 = .ok (.iastore, 1) := by decide +kernel
theorem dL_acts_656 : decode cL_acts 656 = .ok (.aload 5, 2) := by decide +kernel
theorem dL_acts_658 : decode cL_acts 658 = .ok (.iconst 4, 1) := by decide +kernel
theorem dL_acts_659 : decode cL_acts 659 = .ok (.iload 14, 2) := by decide +kernel
theorem dL_acts_661 : decode cL_acts 661 = .ok (.imul, 1) := by decide +kernel
theorem dL_acts_662 : decode cL_acts 662 = .ok (.iload 13, 2) := by decide +kernel
theorem dL_acts_664 : decode cL_acts 664 = .ok (.iastore, 1) := by decide +kernel
theorem dL_acts_665 : decode cL_acts 665 = .ok (.aload 5, 2) := by decide +kernel
theorem dL_acts_667 : decode cL_acts 667 = .ok (.iconst 4, 1) := by decide +kernel
theorem dL_acts_668 : decode cL_acts 668 = .ok (.iload 14, 2) := by decide +kernel
theorem dL_acts_670 : decode cL_acts 670 = .ok (.imul, 1) := by decide +kernel
theorem dL_acts_671 : decode cL_acts 671 = .ok (.iconst 1, 1) := by decide +kernel
theorem dL_acts_672 : decode cL_acts 672 = .ok (.iadd, 1) := by decide +kernel
theorem dL_acts_673 : decode cL_acts 673 = .ok (.iload 16, 2) := by decide +kernel
theorem dL_acts_675 : decode cL_acts 675 = .ok (.iastore, 1) := by decide +kernel
theorem dL_acts_676 : decode cL_acts 676 = .ok (.aload 5, 2) := by decide +kernel
theorem dL_acts_678 : decode cL_acts 678 = .ok (.iconst 4, 1) := by decide +kernel
theorem dL_acts_679 : decode cL_acts 679 = .ok (.iload 14, 2) := by decide +kernel
theorem dL_acts_681 : decode cL_acts 681 = .ok (.imul, 1) := by decide +kernel
theorem dL_acts_682 : decode cL_acts 682 = .ok (.iconst 2, 1) := by decide +kernel
theorem dL_acts_683 : decode cL_acts 683 = .ok (.iadd, 1) := by decide +kernel
theorem dL_acts_684 : decode cL_acts 684 = .ok (.iload 16, 2) := by decide +kernel
theorem dL_acts_686 : decode cL_acts 686 = .ok (.ifCond .le 8, 3) := by decide +kernel
theorem dL_acts_689 : decode cL_acts 689 = .ok (.iload 14, 2) := by decide +kernel
theorem dL_acts_691 : decode cL_acts 691 = .ok (.goto 4, 3) := by decide +kernel
theorem dL_acts_694 : decode cL_acts 694 = .ok (.iconst (-1), 1) := by decide +kernel
theorem dL_acts_695 : decode cL_acts 695 = .ok (.iastore, 1) := by decide +kernel
theorem dL_acts_696 : decode cL_acts 696 = .ok (.aload 5, 2) := by decide +kernel
theorem dL_acts_698 : decode cL_acts 698 = .ok (.iconst 4, 1) := by decide +kernel
theorem dL_acts_699 : decode cL_acts 699 = .ok (.iload 14, 2) := by decide +kernel
theorem dL_acts_701 : decode cL_acts 701 = .ok (.imul, 1) := by decide +kernel
theorem dL_acts_702 : decode cL_acts 702 = .ok (.iconst 3, 1) := by decide +kernel
theorem dL_acts_703 : decode cL_acts 703 = .ok (.iadd, 1) := by decide +kernel
theorem dL_acts_704 : decode cL_acts 704 = .ok (.aload_n 1, 1) := by decide +kernel
theorem dL_acts_705 : decode cL_acts 705 = .ok (.iconst 4, 1) := by decide +kernel
theorem dL_acts_706 : decode cL_acts 706 = .ok (.iaload, 1) := by decide +kernel
theorem dL_acts_707 : decode cL_acts 707 = .ok (.iastore, 1) := by decide +kernel
theorem dL_acts_708 : decode cL_acts 708 = .ok (.aload_n 1, 1) := by decide +kernel
theorem dL_acts_709 : decode cL_acts 709 = .ok (.iconst 4, 1) := by decide +kernel
theorem dL_acts_710 : decode cL_acts 710 = .ok (.dup2, 1) := by decide +kernel
theorem dL_acts_711 : decode cL_acts 711 = .ok (.iaload, 1) := by decide +kernel
theorem dL_acts_712 : decode cL_acts 712 = .ok (.iconst 1, 1) := by decide +kernel
theorem dL_acts_713 : decode cL_acts 713 = .ok (.iadd, 1) := by decide +kernel
theorem dL_acts_714 : decode cL_acts 714 = .ok (.iastore, 1) := by decide +kernel
theorem dL_acts_715 : decode cL_acts 715 = .ok (.aload_n 1, 1) := by decide +kernel
theorem dL_acts_716 : decode cL_acts 716 = .ok (.iconst 3, 1) := by decide +kernel
theorem dL_acts_717 : decode cL_acts 717 = .ok (.dup2, 1) := by decide +kernel
theorem dL_acts_718 : decode cL_acts 718 = .ok (.iaload, 1) := by decide +kernel
theorem dL_acts_719 : decode cL_acts 719 = .ok (.iload 15, 2) := by decide +kernel
theorem dL_acts_721 : decode cL_acts 721 = .ok (.iload 16, 2) := by decide +kernel
theorem dL_acts_723 : decode cL_acts 723 = .ok (.isub, 1) := by decide +kernel
theorem dL_acts_724 : decode cL_acts 724 = .ok (.iadd, 1) := by decide +kernel
theorem dL_acts_725 : decode cL_acts 725 = .ok (.iastore, 1) := by decide +kernel
theorem dL_acts_726 : decode cL_acts 726 = .ok (.iload 16, 2) := by decide +kernel
theorem dL_acts_728 : decode cL_acts 728 = .ok (.ifCond .le 17, 3) := by decide +kernel
theorem dL_acts_731 : decode cL_acts 731 = .ok (.aload 6, 2) := by decide +kernel
theorem dL_acts_733 : decode cL_acts 733 = .ok (.iconst 2, 1) := by decide +kernel
theorem dL_acts_734 : decode cL_acts 734 = .ok (.iload 13, 2) := by decide +kernel
theorem dL_acts_736 : decode cL_acts 736 = .ok (.imul, 1) := by decide +kernel
theorem dL_acts_737 : decode cL_acts 737 = .ok (.iconst 1, 1) := by decide +kernel
theorem dL_acts_738 : decode cL_acts 738 = .ok (.iadd, 1) := by decide +kernel
theorem dL_acts_739 : decode cL_acts 739 = .ok (.dup2, 1) := by decide +kernel
theorem dL_acts_740 : decode cL_acts 740 = .ok (.iaload, 1) := by decide +kernel
theorem dL_acts_741 : decode cL_acts 741 = .ok (.iload 16, 2) := by decide +kernel
theorem dL_acts_743 : decode cL_acts 743 = .ok (.isub, 1) := by decide +kernel
theorem dL_acts_744 : decode cL_acts 744 = .ok (.iastore, 1) := by decide +kernel
theorem dL_acts_745 : decode cL_acts 745 = .ok (.aload_n 1, 1) := by decide +kernel
theorem dL_acts_746 : decode cL_acts 746 = .ok (.iconst 1, 1) := by decide +kernel
theorem dL_acts_747 : decode cL_acts 747 = .ok (.dup2, 1) := by decide +kernel
theorem dL_acts_748 : decode cL_acts 748 = .ok (.iaload, 1) := by decide +kernel
theorem dL_acts_749 : decode cL_acts 749 = .ok (.iconst 1, 1) := by decide +kernel
theorem dL_acts_750 : decode cL_acts 750 = .ok (.iadd, 1) := by decide +kernel
theorem dL_acts_751 : decode cL_acts 751 = .ok (.iastore, 1) := by decide +kernel
theorem dL_acts_752 : decode cL_acts 752 = .ok (.aload_n 0, 1) := by decide +kernel
theorem dL_acts_753 : decode cL_acts 753 = .ok (.iload 10, 2) := by decide +kernel
theorem dL_acts_755 : decode cL_acts 755 = .ok (.iload 11, 2) := by decide +kernel
theorem dL_acts_757 : decode cL_acts 757 = .ok (.iload 12, 2) := by decide +kernel
theorem dL_acts_759 : decode cL_acts 759 = .ok (.iload 13, 2) := by decide +kernel
theorem dL_acts_761 : decode cL_acts 761 = .ok (.invokevirtual 34, 3) := by decide +kernel
theorem dL_acts_764 : decode cL_acts 764 = .ok (.iload 14, 2) := by decide +kernel
theorem dL_acts_766 : decode cL_acts 766 = .ok (.if_icmp .ne 7, 3) := by decide +kernel
theorem dL_acts_769 : decode cL_acts 769 = .ok (.iconst 1, 1) := by decide +kernel
theorem dL_acts_770 : decode cL_acts 770 = .ok (.goto 4, 3) := by decide +kernel
theorem dL_acts_773 : decode cL_acts 773 = .ok (.iconst 0, 1) := by decide +kernel
theorem dL_acts_774 : decode cL_acts 774 = .ok (.ireturn, 1) := by decide +kernel
theorem dL_acts_775 : decode cL_acts 775 = .ok (.iload 9, 2) := by decide +kernel
theorem dL_acts_777 : decode cL_acts 777 = .ok (.bipush 12, 2) := by decide +kernel
theorem dL_acts_779 : decode cL_acts 779 = .ok (.if_icmp .ne 59, 3) := by decide +kernel
theorem dL_acts_782 : decode cL_acts 782 = .ok (.aload_n 3, 1) := by decide +kernel
theorem dL_acts_783 : decode cL_acts 783 = .ok (.bipush 11, 2) := by decide +kernel
theorem dL_acts_785 : decode cL_acts 785 = .ok (.iload 10, 2) := by decide +kernel
theorem dL_acts_787 : decode cL_acts 787 = .ok (.imul, 1) := by decide +kernel
theorem dL_acts_788 : decode cL_acts 788 = .ok (.iconst 2, 1) := by decide +kernel
theorem dL_acts_789 : decode cL_acts 789 = .ok (.iadd, 1) := by decide +kernel
theorem dL_acts_790 : decode cL_acts 790 = .ok (.iaload, 1) := by decide +kernel
theorem dL_acts_791 : decode cL_acts 791 = .ok (.istore 11, 2) := by decide +kernel
theorem dL_acts_793 : decode cL_acts 793 = .ok (.aload_n 3, 1) := by decide +kernel
theorem dL_acts_794 : decode cL_acts 794 = .ok (.bipush 11, 2) := by decide +kernel
theorem dL_acts_796 : decode cL_acts 796 = .ok (.iload 10, 2) := by decide +kernel
theorem dL_acts_798 : decode cL_acts 798 = .ok (.imul, 1) := by decide +kernel
theorem dL_acts_799 : decode cL_acts 799 = .ok (.iconst 2, 1) := by decide +kernel
theorem dL_acts_800 : decode cL_acts 800 = .ok (.iadd, 1) := by decide +kernel
theorem dL_acts_801 : decode cL_acts 801 = .ok (.iconst 1, 1) := by decide +kernel
theorem dL_acts_802 : decode cL_acts 802 = .ok (.iload 8, 2) := by decide +kernel
theorem dL_acts_804 : decode cL_acts 804 = .ok (.iconst 3, 1) := by decide +kernel
theorem dL_acts_805 : decode cL_acts 805 = .ok (.idiv, 1) := by decide +kernel
theorem dL_acts_806 : decode cL_acts 806 = .ok (.sipush 200, 3) := by decide +kernel
theorem dL_acts_809 : decode cL_acts 809 = .ok (.irem, 1) := by decide +kernel
theorem dL_acts_810 : decode cL_acts 810 = .ok (.iadd, 1) := by decide +kernel
theorem dL_acts_811 : decode cL_acts 811 = .ok (.iastore, 1) := by decide +kernel
theorem dL_acts_812 : decode cL_acts 812 = .ok (.aload_n 0, 1) := by decide +kernel
theorem dL_acts_813 : decode cL_acts 813 = .ok (.iload 10, 2) := by decide +kernel
theorem dL_acts_815 : decode cL_acts 815 = .ok (.aload_n 3, 1) := by decide +kernel
theorem dL_acts_816 : decode cL_acts 816 = .ok (.bipush 11, 2) := by decide +kernel
theorem dL_acts_818 : decode cL_acts 818 = .ok (.iload 10, 2) := by decide +kernel
theorem dL_acts_820 : decode cL_acts 820 = .ok (.imul, 1) := by decide +kernel
theorem dL_acts_821 : decode cL_acts 821 = .ok (.iconst 2, 1) := by decide +kernel
theorem dL_acts_822 : decode cL_acts 822 = .ok (.iadd, 1) := by decide +kernel
theorem dL_acts_823 : decode cL_acts 823 = .ok (.iaload, 1) := by decide +kernel
theorem dL_acts_824 : decode cL_acts 824 = .ok (.invokevirtual 37, 3) := by decide +kernel
theorem dL_acts_827 : decode cL_acts 827 = .ok (.iload 11, 2) := by decide +kernel
theorem dL_acts_829 : decode cL_acts 829 = .ok (.if_icmp .ne 7, 3) := by decide +kernel
theorem dL_acts_832 : decode cL_acts 832 = .ok (.iconst 1, 1) := by decide +kernel
theorem dL_acts_833 : decode cL_acts 833 = .ok (.goto 4, 3) := by decide +kernel
theorem dL_acts_836 : decode cL_acts 836 = .ok (.iconst 0, 1) := by decide +kernel
theorem dL_acts_837 : decode cL_acts 837 = .ok (.ireturn, 1) := by decide +kernel
theorem dL_acts_838 : decode cL_acts 838 = .ok (.iload 9, 2) := by decide +kernel
theorem dL_acts_840 : decode cL_acts 840 = .ok (.bipush 15, 2) := by decide +kernel
theorem dL_acts_842 : decode cL_acts 842 = .ok (.if_icmp .ge 90, 3) := by decide +kernel
theorem dL_acts_845 : decode cL_acts 845 = .ok (.iload 8, 2) := by decide +kernel
theorem dL_acts_847 : decode cL_acts 847 = .ok (.iconst 5, 1) := by decide +kernel
theorem dL_acts_848 : decode cL_acts 848 = .ok (.irem, 1) := by decide +kernel
theorem dL_acts_849 : decode cL_acts 849 = .ok (.istore 11, 2) := by decide +kernel
theorem dL_acts_851 : decode cL_acts 851 = .ok (.aload_n 2, 1) := by decide +kernel
theorem dL_acts_852 : decode cL_acts 852 = .ok (.iload 11, 2) := by decide +kernel
theorem dL_acts_854 : decode cL_acts 854 = .ok (.iaload, 1) := by decide +kernel
theorem dL_acts_855 : decode cL_acts 855 = .ok (.istore 12, 2) := by decide +kernel
theorem dL_acts_857 : decode cL_acts 857 = .ok (.aload_n 2, 1) := by decide +kernel
theorem dL_acts_858 : decode cL_acts 858 = .ok (.iload 11, 2) := by decide +kernel
theorem dL_acts_860 : decode cL_acts 860 = .ok (.iload 8, 2) := by decide +kernel
theorem dL_acts_862 : decode cL_acts 862 = .ok (.iconst 5, 1) := by decide +kernel
theorem dL_acts_863 : decode cL_acts 863 = .ok (.idiv, 1) := by decide +kernel
theorem dL_acts_864 : decode cL_acts 864 = .ok (.iload 11, 2) := by decide +kernel
theorem dL_acts_866 : decode cL_acts 866 = .ok (.ifCond .ne 8, 3) := by decide +kernel
theorem dL_acts_869 : decode cL_acts 869 = .ok (.bipush 11, 2) := by decide +kernel
theorem dL_acts_871 : decode cL_acts 871 = .ok (.goto 38, 3) := by decide +kernel
theorem dL_acts_874 : decode cL_acts 874 = .ok (.iload 11, 2) := by decide +kernel
theorem dL_acts_876 : decode cL_acts 876 = .ok (.iconst 1, 1) := by decide +kernel
theorem dL_acts_877 : decode cL_acts 877 = .ok (.if_icmp .ne 8, 3) := by decide +kernel
theorem dL_acts_880 : decode cL_acts 880 = .ok (.bipush 31, 2) := by decide +kernel
theorem dL_acts_882 : decode cL_acts 882 = .ok (.goto 27, 3) := by decide +kernel
theorem dL_acts_885 : decode cL_acts 885 = .ok (.iload 11, 2) := by decide +kernel
theorem dL_acts_887 : decode cL_acts 887 = .ok (.iconst 2, 1) := by decide +kernel
theorem dL_acts_888 : decode cL_acts 888 = .ok (.if_icmp .ne 8, 3) := by decide +kernel
theorem dL_acts_891 : decode cL_acts 891 = .ok (.bipush 21, 2) := by decide +kernel
theorem dL_acts_893 : decode cL_acts 893 = .ok (.goto 16, 3) := by decide +kernel
theorem dL_acts_896 : decode cL_acts 896 = .ok (.iload 11, 2) := by decide +kernel
theorem dL_acts_898 : decode cL_acts 898 = .ok (.iconst 3, 1) := by decide +kernel
theorem dL_acts_899 : decode cL_acts 899 = .ok (.if_icmp .ne 8, 3) := by decide +kernel
theorem dL_acts_902 : decode cL_acts 902 = .ok (.bipush 61, 2) := by decide +kernel
theorem dL_acts_904 : decode cL_acts 904 = .ok (.goto 5, 3) := by decide +kernel
theorem dL_acts_907 : decode cL_acts 907 = .ok (.bipush 51, 2) := by decide +kernel
theorem dL_acts_909 : decode cL_acts 909 = .ok (.irem, 1) := by decide +kernel
theorem dL_acts_910 : decode cL_acts 910 = .ok (.iastore, 1) := by decide +kernel
theorem dL_acts_911 : decode cL_acts 911 = .ok (.aload_n 0, 1) := by decide +kernel
theorem dL_acts_912 : decode cL_acts 912 = .ok (.iload 11, 2) := by decide +kernel
theorem dL_acts_914 : decode cL_acts 914 = .ok (.aload_n 2, 1) := by decide +kernel
theorem dL_acts_915 : decode cL_acts 915 = .ok (.iload 11, 2) := by decide +kernel
theorem dL_acts_917 : decode cL_acts 917 = .ok (.iaload, 1) := by decide +kernel
theorem dL_acts_918 : decode cL_acts 918 = .ok (.invokevirtual 40, 3) := by decide +kernel
theorem dL_acts_921 : decode cL_acts 921 = .ok (.iload 12, 2) := by decide +kernel
theorem dL_acts_923 : decode cL_acts 923 = .ok (.if_icmp .ne 7, 3) := by decide +kernel
theorem dL_acts_926 : decode cL_acts 926 = .ok (.iconst 1, 1) := by decide +kernel
theorem dL_acts_927 : decode cL_acts 927 = .ok (.goto 4, 3) := by decide +kernel
theorem dL_acts_930 : decode cL_acts 930 = .ok (.iconst 0, 1) := by decide +kernel
theorem dL_acts_931 : decode cL_acts 931 = .ok (.ireturn, 1) := by decide +kernel
theorem dL_acts_932 : decode cL_acts 932 = .ok (.aload_n 1, 1) := by decide +kernel
theorem dL_acts_933 : decode cL_acts 933 = .ok (.iconst 1, 1) := by decide +kernel
theorem dL_acts_934 : decode cL_acts 934 = .ok (.iaload, 1) := by decide +kernel
theorem dL_acts_935 : decode cL_acts 935 = .ok (.ifCond .ne 50, 3) := by decide +kernel
theorem dL_acts_938 : decode cL_acts 938 = .ok (.aload_n 0, 1) := by decide +kernel
theorem dL_acts_939 : decode cL_acts 939 = .ok (.iconst 0, 1) := by decide +kernel
theorem dL_acts_940 : decode cL_acts 940 = .ok (.invokevirtual 43, 3) := by decide +kernel
theorem dL_acts_943 : decode cL_acts 943 = .ok (.iconst (-1), 1) := by decide +kernel
theorem dL_acts_944 : decode cL_acts 944 = .ok (.if_icmp .ne 39, 3) := by decide +kernel
theorem dL_acts_947 : decode cL_acts 947 = .ok (.aload_n 0, 1) := by decide +kernel
theorem dL_acts_948 : decode cL_acts 948 = .ok (.iconst 0, 1) := by decide +kernel
theorem dL_acts_949 : decode cL_acts 949 = .ok (.iconst 0, 1) := by decide +kernel
theorem dL_acts_950 : decode cL_acts 950 = .ok (.invokevirtual 46, 3) := by decide +kernel
theorem dL_acts_953 : decode cL_acts 953 = .ok (.iconst (-1), 1) := by decide +kernel
theorem dL_acts_954 : decode cL_acts 954 = .ok (.if_icmp .ne 29, 3) := by decide +kernel
theorem dL_acts_957 : decode cL_acts 957 = .ok (.aload_n 0, 1) := by decide +kernel
theorem dL_acts_958 : decode cL_acts 958 = .ok (.iconst 0, 1) := by decide +kernel
theorem dL_acts_959 : decode cL_acts 959 = .ok (.iconst 1, 1) := by decide +kernel
theorem dL_acts_960 : decode cL_acts 960 = .ok (.invokevirtual 49, 3) := by decide +kernel
theorem dL_acts_963 : decode cL_acts 963 = .ok (.iconst (-1), 1) := by decide +kernel
theorem dL_acts_964 : decode cL_acts 964 = .ok (.if_icmp .ne 19, 3) := by decide +kernel
theorem dL_acts_967 : decode cL_acts 967 = .ok (.aload_n 0, 1) := by decide +kernel
theorem dL_acts_968 : decode cL_acts 968 = .ok (.iconst 0, 1) := by decide +kernel
theorem dL_acts_969 : decode cL_acts 969 = .ok (.iconst 0, 1) := by decide +kernel
theorem dL_acts_970 : decode cL_acts 970 = .ok (.iconst 0, 1) := by decide +kernel
theorem dL_acts_971 : decode cL_acts 971 = .ok (.iconst 0, 1) := by decide +kernel
theorem dL_acts_972 : decode cL_acts 972 = .ok (.invokevirtual 52, 3) := by decide +kernel
theorem dL_acts_975 : decode cL_acts 975 = .ok (.iconst (-1), 1) := by decide +kernel
theorem dL_acts_976 : decode cL_acts 976 = .ok (.if_icmp .ne 7, 3) := by decide +kernel
theorem dL_acts_979 : decode cL_acts 979 = .ok (.iconst 1, 1) := by decide +kernel
theorem dL_acts_980 : decode cL_acts 980 = .ok (.goto 4, 3) := by decide +kernel
theorem dL_acts_983 : decode cL_acts 983 = .ok (.iconst 0, 1) := by decide +kernel
theorem dL_acts_984 : decode cL_acts 984 = .ok (.ireturn, 1) := by decide +kernel
theorem dL_acts_985 : decode cL_acts 985 = .ok (.iload 8, 2) := by decide +kernel
theorem dL_acts_987 : decode cL_acts 987 = .ok (.iconst 3, 1) := by decide +kernel
theorem dL_acts_988 : decode cL_acts 988 = .ok (.idiv, 1) := by decide +kernel
theorem dL_acts_989 : decode cL_acts 989 = .ok (.aload_n 1, 1) := by decide +kernel
theorem dL_acts_990 : decode cL_acts 990 = .ok (.iconst 1, 1) := by decide +kernel
theorem dL_acts_991 : decode cL_acts 991 = .ok (.iaload, 1) := by decide +kernel
theorem dL_acts_992 : decode cL_acts 992 = .ok (.irem, 1) := by decide +kernel
theorem dL_acts_993 : decode cL_acts 993 = .ok (.istore 11, 2) := by decide +kernel
theorem dL_acts_995 : decode cL_acts 995 = .ok (.aload 4, 2) := by decide +kernel
theorem dL_acts_997 : decode cL_acts 997 = .ok (.bipush 9, 2) := by decide +kernel
theorem dL_acts_999 : decode cL_acts 999 = .ok (.iload 11, 2) := by decide +kernel
theorem dL_acts_1001 : decode cL_acts 1001 = .ok (.imul, 1) := by decide +kernel
theorem dL_acts_1002 : decode cL_acts 1002 = .ok (.iconst 3, 1) := by decide +kernel
theorem dL_acts_1003 : decode cL_acts 1003 = .ok (.iadd, 1) := by decide +kernel
theorem dL_acts_1004 : decode cL_acts 1004 = .ok (.iaload, 1) := by decide +kernel
theorem dL_acts_1005 : decode cL_acts 1005 = .ok (.ifCond .ne 7, 3) := by decide +kernel
theorem dL_acts_1008 : decode cL_acts 1008 = .ok (.iconst 1, 1) := by decide +kernel
theorem dL_acts_1009 : decode cL_acts 1009 = .ok (.goto 4, 3) := by decide +kernel
theorem dL_acts_1012 : decode cL_acts 1012 = .ok (.iconst 0, 1) := by decide +kernel
theorem dL_acts_1013 : decode cL_acts 1013 = .ok (.istore 12, 2) := by decide +kernel
theorem dL_acts_1015 : decode cL_acts 1015 = .ok (.aload 4, 2) := by decide +kernel
theorem dL_acts_1017 : decode cL_acts 1017 = .ok (.bipush 9, 2) := by decide +kernel
theorem dL_acts_1019 : decode cL_acts 1019 = .ok (.iload 11, 2) := by decide +kernel
theorem dL_acts_1021 : decode cL_acts 1021 = .ok (.imul, 1) := by decide +kernel
theorem dL_acts_1022 : decode cL_acts 1022 = .ok (.iaload, 1) := by decide +kernel
theorem dL_acts_1023 : decode cL_acts 1023 = .ok (.istore 10, 2) := by decide +kernel
theorem dL_acts_1025 : decode cL_acts 1025 = .ok (.iload 9, 2) := by decide +kernel
theorem dL_acts_1027 : decode cL_acts 1027 = .ok (.bipush 15, 2) := by decide +kernel
theorem dL_acts_1029 : decode cL_acts 1029 = .ok (.if_icmp .ne 97, 3) := by decide +kernel
theorem dL_acts_1032 : decode cL_acts 1032 = .ok (.iload 8, 2) := by decide +kernel
theorem dL_acts_1034 : decode cL_acts 1034 = .ok (.bipush 21, 2) := by decide +kernel
theorem dL_acts_1036 : decode cL_acts 1036 = .ok (.idiv, 1) := by decide +kernel
theorem dL_acts_1037 : decode cL_acts 1037 = .ok (.sipush 721, 3) := by decide +kernel
theorem dL_acts_1040 : decode cL_acts 1040 = .ok (.irem, 1) := by decide +kernel
theorem dL_acts_1041 : decode cL_acts 1041 = .ok (.istore 13, 2) := by decide +kernel
theorem dL_acts_1043 : decode cL_acts 1043 = .ok (.iload 12, 2) := by decide +kernel
theorem dL_acts_1045 : decode cL_acts 1045 = .ok (.ifCond .eq 19, 3) := by decide +kernel
theorem dL_acts_1048 : decode cL_acts 1048 = .ok (.aload_n 1, 1) := by decide +kernel
theorem dL_acts_1049 : decode cL_acts 1049 = .ok (.aload_n 3, 1) := by decide +kernel
theorem dL_acts_1050 : decode cL_acts 1050 = .ok (.aload 4, 2) := by decide +kernel
theorem dL_acts_1052 : decode cL_acts 1052 = .ok (.iload 10, 2) := by decide +kernel
theorem dL_acts_1054 : decode cL_acts 1054 = .ok (.iload 13, 2) := by decide +kernel
theorem dL_acts_1056 : decode cL_acts 1056 = .ok (.iload 11, 2) := by decide +kernel
theorem dL_acts_1058 : decode cL_acts 1058 = .ok (.invokestatic 30, 3) := by decide +kernel
theorem dL_acts_1061 : decode cL_acts 1061 = .ok (.ifCond .ne 22, 3) := by decide +kernel
theorem dL_acts_1064 : decode cL_acts 1064 = .ok (.aload_n 0, 1) := by decide +kernel
theorem dL_acts_1065 : decode cL_acts 1065 = .ok (.iload 11, 2) := by decide +kernel
theorem dL_acts_1067 : decode cL_acts 1067 = .ok (.iload 13, 2) := by decide +kernel
theorem dL_acts_1069 : decode cL_acts 1069 = .ok (.invokevirtual 46, 3) := by decide +kernel
theorem dL_acts_1072 : decode cL_acts 1072 = .ok (.bipush (-2), 2) := by decide +kernel
theorem dL_acts_1074 : decode cL_acts 1074 = .ok (.if_icmp .ne 7, 3) := by decide +kernel
theorem dL_acts_1077 : decode cL_acts 1077 = .ok (.iconst 1, 1) := by decide +kernel
theorem dL_acts_1078 : decode cL_acts 1078 = .ok (.goto 4, 3) := by decide +kernel
theorem dL_acts_1081 : decode cL_acts 1081 = .ok (.iconst 0, 1) := by decide +kernel
theorem dL_acts_1082 : decode cL_acts 1082 = .ok (.ireturn, 1) := by decide +kernel
theorem dL_acts_1083 : decode cL_acts 1083 = .ok (.aload 4, 2) := by decide +kernel
theorem dL_acts_1085 : decode cL_acts 1085 = .ok (.bipush 9, 2) := by decide +kernel
theorem dL_acts_1087 : decode cL_acts 1087 = .ok (.iload 11, 2) := by decide +kernel
theorem dL_acts_1089 : decode cL_acts 1089 = .ok (.imul, 1) := by decide +kernel
theorem dL_acts_1090 : decode cL_acts 1090 = .ok (.iconst 1, 1) := by decide +kernel
theorem dL_acts_1091 : decode cL_acts 1091 = .ok (.iadd, 1) := by decide +kernel
theorem dL_acts_1092 : decode cL_acts 1092 = .ok (.iaload, 1) := by decide +kernel
theorem dL_acts_1093 : decode cL_acts 1093 = .ok (.istore 14, 2) := by decide +kernel
theorem dL_acts_1095 : decode cL_acts 1095 = .ok (.aload 4, 2) := by decide +kernel
theorem dL_acts_1097 : decode cL_acts 1097 = .ok (.bipush 9, 2) := by decide +kernel
theorem dL_acts_1099 : decode cL_acts 1099 = .ok (.iload 11, 2) := by decide +kernel
theorem dL_acts_1101 : decode cL_acts 1101 = .ok (.imul, 1) := by decide +kernel
theorem dL_acts_1102 : decode cL_acts 1102 = .ok (.iconst 1, 1) := by decide +kernel
theorem dL_acts_1103 : decode cL_acts 1103 = .ok (.iadd, 1) := by decide +kernel
theorem dL_acts_1104 : decode cL_acts 1104 = .ok (.iload 13, 2) := by decide +kernel
theorem dL_acts_1106 : decode cL_acts 1106 = .ok (.iastore, 1) := by decide +kernel
theorem dL_acts_1107 : decode cL_acts 1107 = .ok (.aload_n 0, 1) := by decide +kernel
theorem dL_acts_1108 : decode cL_acts 1108 = .ok (.iload 11, 2) := by decide +kernel
theorem dL_acts_1110 : decode cL_acts 1110 = .ok (.iload 13, 2) := by decide +kernel
theorem dL_acts_1112 : decode cL_acts 1112 = .ok (.invokevirtual 46, 3) := by decide +kernel
theorem dL_acts_1115 : decode cL_acts 1115 = .ok (.iload 14, 2) := by decide +kernel
theorem dL_acts_1117 : decode cL_acts 1117 = .ok (.if_icmp .ne 7, 3) := by decide +kernel
theorem dL_acts_1120 : decode cL_acts 1120 = .ok (.iconst 1, 1) := by decide +kernel
theorem dL_acts_1121 : decode cL_acts 1121 = .ok (.goto 4, 3) := by decide +kernel
theorem dL_acts_1124 : decode cL_acts 1124 = .ok (.iconst 0, 1) := by decide +kernel
theorem dL_acts_1125 : decode cL_acts 1125 = .ok (.ireturn, 1) := by decide +kernel
theorem dL_acts_1126 : decode cL_acts 1126 = .ok (.iload 9, 2) := by decide +kernel
theorem dL_acts_1128 : decode cL_acts 1128 = .ok (.bipush 16, 2) := by decide +kernel
theorem dL_acts_1130 : decode cL_acts 1130 = .ok (.if_icmp .ne 106, 3) := by decide +kernel
theorem dL_acts_1133 : decode cL_acts 1133 = .ok (.iload 12, 2) := by decide +kernel
theorem dL_acts_1135 : decode cL_acts 1135 = .ok (.ifCond .ne 20, 3) := by decide +kernel
theorem dL_acts_1138 : decode cL_acts 1138 = .ok (.aload_n 0, 1) := by decide +kernel
end
section
theorem dL_acts_1139 : decode cL_acts 1139 = .ok (.iload 11, 2) := by decide +kernel
theorem dL_acts_1141 : decode cL_acts 1141 = .ok (.invokevirtual 43, 3) := by decide +kernel
theorem dL_acts_1144 : decode cL_acts 1144 = .ok (.bipush (-2), 2) := by decide +kernel
theorem dL_acts_1146 : decode cL_acts 1146 = .ok (.if_icmp .ne 7, 3) := by decide +kernel
theorem dL_acts_1149 : decode cL_acts 1149 = .ok (.iconst 1, 1) := by decide +kernel
theorem dL_acts_1150 : decode cL_acts 1150 = .ok (.goto 4, 3) := by decide +kernel
theorem dL_acts_1153 : decode cL_acts 1153 = .ok (.iconst 0, 1) := by decide +kernel
theorem dL_acts_1154 : decode cL_acts 1154 = .ok (.ireturn, 1) := by decide +kernel
theorem dL_acts_1155 : decode cL_acts 1155 = .ok (.aload_n 1, 1) := by decide +kernel
theorem dL_acts_1156 : decode cL_acts 1156 = .ok (.aload 4, 2) := by decide +kernel
theorem dL_acts_1158 : decode cL_acts 1158 = .ok (.aload 5, 2) := by decide +kernel
theorem dL_acts_1160 : decode cL_acts 1160 = .ok (.iload 11, 2) := by decide +kernel
theorem dL_acts_1162 : decode cL_acts 1162 = .ok (.invokestatic 55, 3) := by decide +kernel
theorem dL_acts_1165 : decode cL_acts 1165 = .ok (.istore 13, 2) := by decide +kernel
theorem dL_acts_1167 : decode cL_acts 1167 = .ok (.aload_n 1, 1) := by decide +kernel
theorem dL_acts_1168 : decode cL_acts 1168 = .ok (.aload_n 3, 1) := by decide +kernel
theorem dL_acts_1169 : decode cL_acts 1169 = .ok (.aload 4, 2) := by decide +kernel
theorem dL_acts_1171 : decode cL_acts 1171 = .ok (.iload 11, 2) := by decide +kernel
theorem dL_acts_1173 : decode cL_acts 1173 = .ok (.iconst 0, 1) := by decide +kernel
theorem dL_acts_1174 : decode cL_acts 1174 = .ok (.invokestatic 59, 3) := by decide +kernel
theorem dL_acts_1177 : decode cL_acts 1177 = .ok (.aload_n 2, 1) := by decide +kernel
theorem dL_acts_1178 : decode cL_acts 1178 = .ok (.iconst 3, 1) := by decide +kernel
theorem dL_acts_1179 : decode cL_acts 1179 = .ok (.iaload, 1) := by decide +kernel
theorem dL_acts_1180 : decode cL_acts 1180 = .ok (.if_icmp .le 8, 3) := by decide +kernel
theorem dL_acts_1183 : decode cL_acts 1183 = .ok (.iload 13, 2) := by decide +kernel
theorem dL_acts_1185 : decode cL_acts 1185 = .ok (.goto 7, 3) := by decide +kernel
theorem dL_acts_1188 : decode cL_acts 1188 = .ok (.iload 13, 2) := by decide +kernel
theorem dL_acts_1190 : decode cL_acts 1190 = .ok (.iconst 2, 1) := by decide +kernel
theorem dL_acts_1191 : decode cL_acts 1191 = .ok (.idiv, 1) := by decide +kernel
theorem dL_acts_1192 : decode cL_acts 1192 = .ok (.istore 14, 2) := by decide +kernel
theorem dL_acts_1194 : decode cL_acts 1194 = .ok (.aload_n 1, 1) := by decide +kernel
theorem dL_acts_1195 : decode cL_acts 1195 = .ok (.aload 4, 2) := by decide +kernel
theorem dL_acts_1197 : decode cL_acts 1197 = .ok (.aload 5, 2) := by decide +kernel
theorem dL_acts_1199 : decode cL_acts 1199 = .ok (.aload 6, 2) := by decide +kernel
theorem dL_acts_1201 : decode cL_acts 1201 = .ok (.iload 11, 2) := by decide +kernel
theorem dL_acts_1203 : decode cL_acts 1203 = .ok (.iload 14, 2) := by decide +kernel
theorem dL_acts_1205 : decode cL_acts 1205 = .ok (.invokestatic 63, 3) := by decide +kernel
theorem dL_acts_1208 : decode cL_acts 1208 = .ok (.aload 4, 2) := by decide +kernel
theorem dL_acts_1210 : decode cL_acts 1210 = .ok (.bipush 9, 2) := by decide +kernel
theorem dL_acts_1212 : decode cL_acts 1212 = .ok (.iload 11, 2) := by decide +kernel
theorem dL_acts_1214 : decode cL_acts 1214 = .ok (.imul, 1) := by decide +kernel
theorem dL_acts_1215 : decode cL_acts 1215 = .ok (.iconst 3, 1) := by decide +kernel
theorem dL_acts_1216 : decode cL_acts 1216 = .ok (.iadd, 1) := by decide +kernel
theorem dL_acts_1217 : decode cL_acts 1217 = .ok (.iconst 2, 1) := by decide +kernel
theorem dL_acts_1218 : decode cL_acts 1218 = .ok (.iastore, 1) := by decide +kernel
theorem dL_acts_1219 : decode cL_acts 1219 = .ok (.aload_n 0, 1) := by decide +kernel
theorem dL_acts_1220 : decode cL_acts 1220 = .ok (.iload 11, 2) := by decide +kernel
theorem dL_acts_1222 : decode cL_acts 1222 = .ok (.invokevirtual 43, 3) := by decide +kernel
theorem dL_acts_1225 : decode cL_acts 1225 = .ok (.iload 14, 2) := by decide +kernel
theorem dL_acts_1227 : decode cL_acts 1227 = .ok (.if_icmp .ne 7, 3) := by decide +kernel
theorem dL_acts_1230 : decode cL_acts 1230 = .ok (.iconst 1, 1) := by decide +kernel
theorem dL_acts_1231 : decode cL_acts 1231 = .ok (.goto 4, 3) := by decide +kernel
theorem dL_acts_1234 : decode cL_acts 1234 = .ok (.iconst 0, 1) := by decide +kernel
theorem dL_acts_1235 : decode cL_acts 1235 = .ok (.ireturn, 1) := by decide +kernel
theorem dL_acts_1236 : decode cL_acts 1236 = .ok (.iload 9, 2) := by decide +kernel
theorem dL_acts_1238 : decode cL_acts 1238 = .ok (.bipush 20, 2) := by decide +kernel
theorem dL_acts_1240 : decode cL_acts 1240 = .ok (.if_icmp .ge 377, 3) := by decide +kernel
theorem dL_acts_1243 : decode cL_acts 1243 = .ok (.iload 8, 2) := by decide +kernel
theorem dL_acts_1245 : decode cL_acts 1245 = .ok (.bipush 21, 2) := by decide +kernel
theorem dL_acts_1247 : decode cL_acts 1247 = .ok (.idiv, 1) := by decide +kernel
theorem dL_acts_1248 : decode cL_acts 1248 = .ok (.aload_n 1, 1) := by decide +kernel
theorem dL_acts_1249 : decode cL_acts 1249 = .ok (.iconst 1, 1) := by decide +kernel
theorem dL_acts_1250 : decode cL_acts 1250 = .ok (.iaload, 1) := by decide +kernel
theorem dL_acts_1251 : decode cL_acts 1251 = .ok (.irem, 1) := by decide +kernel
theorem dL_acts_1252 : decode cL_acts 1252 = .ok (.istore 13, 2) := by decide +kernel
theorem dL_acts_1254 : decode cL_acts 1254 = .ok (.iload 13, 2) := by decide +kernel
theorem dL_acts_1256 : decode cL_acts 1256 = .ok (.iload 11, 2) := by decide +kernel
theorem dL_acts_1258 : decode cL_acts 1258 = .ok (.if_icmp .ne 21, 3) := by decide +kernel
theorem dL_acts_1261 : decode cL_acts 1261 = .ok (.aload_n 0, 1) := by decide +kernel
theorem dL_acts_1262 : decode cL_acts 1262 = .ok (.iload 11, 2) := by decide +kernel
theorem dL_acts_1264 : decode cL_acts 1264 = .ok (.iload 11, 2) := by decide +kernel
theorem dL_acts_1266 : decode cL_acts 1266 = .ok (.invokevirtual 49, 3) := by decide +kernel
theorem dL_acts_1269 : decode cL_acts 1269 = .ok (.iconst (-1), 1) := by decide +kernel
theorem dL_acts_1270 : decode cL_acts 1270 = .ok (.if_icmp .ne 7, 3) := by decide +kernel
theorem dL_acts_1273 : decode cL_acts 1273 = .ok (.iconst 1, 1) := by decide +kernel
theorem dL_acts_1274 : decode cL_acts 1274 = .ok (.goto 4, 3) := by decide +kernel
theorem dL_acts_1277 : decode cL_acts 1277 = .ok (.iconst 0, 1) := by decide +kernel
theorem dL_acts_1278 : decode cL_acts 1278 = .ok (.ireturn, 1) := by decide +kernel
theorem dL_acts_1279 : decode cL_acts 1279 = .ok (.iload 12, 2) := by decide +kernel
theorem dL_acts_1281 : decode cL_acts 1281 = .ok (.ifCond .eq 29, 3) := by decide +kernel
theorem dL_acts_1284 : decode cL_acts 1284 = .ok (.aload 4, 2) := by decide +kernel
theorem dL_acts_1286 : decode cL_acts 1286 = .ok (.bipush 9, 2) := by decide +kernel
theorem dL_acts_1288 : decode cL_acts 1288 = .ok (.iload 13, 2) := by decide +kernel
theorem dL_acts_1290 : decode cL_acts 1290 = .ok (.imul, 1) := by decide +kernel
theorem dL_acts_1291 : decode cL_acts 1291 = .ok (.iconst 3, 1) := by decide +kernel
theorem dL_acts_1292 : decode cL_acts 1292 = .ok (.iadd, 1) := by decide +kernel
theorem dL_acts_1293 : decode cL_acts 1293 = .ok (.iaload, 1) := by decide +kernel
theorem dL_acts_1294 : decode cL_acts 1294 = .ok (.ifCond .ne 16, 3) := by decide +kernel
theorem dL_acts_1297 : decode cL_acts 1297 = .ok (.aload 4, 2) := by decide +kernel
theorem dL_acts_1299 : decode cL_acts 1299 = .ok (.bipush 9, 2) := by decide +kernel
theorem dL_acts_1301 : decode cL_acts 1301 = .ok (.iload 13, 2) := by decide +kernel
theorem dL_acts_1303 : decode cL_acts 1303 = .ok (.imul, 1) := by decide +kernel
theorem dL_acts_1304 : decode cL_acts 1304 = .ok (.iaload, 1) := by decide +kernel
theorem dL_acts_1305 : decode cL_acts 1305 = .ok (.iload 10, 2) := by decide +kernel
theorem dL_acts_1307 : decode cL_acts 1307 = .ok (.if_icmp .eq 22, 3) := by decide +kernel
theorem dL_acts_1310 : decode cL_acts 1310 = .ok (.aload_n 0, 1) := by decide +kernel
theorem dL_acts_1311 : decode cL_acts 1311 = .ok (.iload 11, 2) := by decide +kernel
theorem dL_acts_1313 : decode cL_acts 1313 = .ok (.iload 13, 2) := by decide +kernel
theorem dL_acts_1315 : decode cL_acts 1315 = .ok (.invokevirtual 49, 3) := by decide +kernel
theorem dL_acts_1318 : decode cL_acts 1318 = .ok (.bipush (-2), 2) := by decide +kernel
theorem dL_acts_1320 : decode cL_acts 1320 = .ok (.if_icmp .ne 7, 3) := by decide +kernel
theorem dL_acts_1323 : decode cL_acts 1323 = .ok (.iconst 1, 1) := by decide +kernel
theorem dL_acts_1324 : decode cL_acts 1324 = .ok (.goto 4, 3) := by decide +kernel
theorem dL_acts_1327 : decode cL_acts 1327 = .ok (.iconst 0, 1) := by decide +kernel
theorem dL_acts_1328 : decode cL_acts 1328 = .ok (.ireturn, 1) := by decide +kernel
theorem dL_acts_1329 : decode cL_acts 1329 = .ok (.aload 4, 2) := by decide +kernel
theorem dL_acts_1331 : decode cL_acts 1331 = .ok (.bipush 9, 2) := by decide +kernel
theorem dL_acts_1333 : decode cL_acts 1333 = .ok (.iload 11, 2) := by decide +kernel
theorem dL_acts_1335 : decode cL_acts 1335 = .ok (.imul, 1) := by decide +kernel
theorem dL_acts_1336 : decode cL_acts 1336 = .ok (.iconst 2, 1) := by decide +kernel
theorem dL_acts_1337 : decode cL_acts 1337 = .ok (.iadd, 1) := by decide +kernel
theorem dL_acts_1338 : decode cL_acts 1338 = .ok (.iaload, 1) := by decide +kernel
theorem dL_acts_1339 : decode cL_acts 1339 = .ok (.aload 4, 2) := by decide +kernel
theorem dL_acts_1341 : decode cL_acts 1341 = .ok (.bipush 9, 2) := by decide +kernel
theorem dL_acts_1343 : decode cL_acts 1343 = .ok (.iload 13, 2) := by decide +kernel
theorem dL_acts_1345 : decode cL_acts 1345 = .ok (.imul, 1) := by decide +kernel
theorem dL_acts_1346 : decode cL_acts 1346 = .ok (.iconst 2, 1) := by decide +kernel
theorem dL_acts_1347 : decode cL_acts 1347 = .ok (.iadd, 1) := by decide +kernel
theorem dL_acts_1348 : decode cL_acts 1348 = .ok (.iaload, 1) := by decide +kernel
theorem dL_acts_1349 : decode cL_acts 1349 = .ok (.iadd, 1) := by decide +kernel
theorem dL_acts_1350 : decode cL_acts 1350 = .ok (.aload_n 3, 1) := by decide +kernel
theorem dL_acts_1351 : decode cL_acts 1351 = .ok (.bipush 11, 2) := by decide +kernel
theorem dL_acts_1353 : decode cL_acts 1353 = .ok (.iload 10, 2) := by decide +kernel
theorem dL_acts_1355 : decode cL_acts 1355 = .ok (.imul, 1) := by decide +kernel
theorem dL_acts_1356 : decode cL_acts 1356 = .ok (.iconst 3, 1) := by decide +kernel
theorem dL_acts_1357 : decode cL_acts 1357 = .ok (.iadd, 1) := by decide +kernel
theorem dL_acts_1358 : decode cL_acts 1358 = .ok (.iaload, 1) := by decide +kernel
theorem dL_acts_1359 : decode cL_acts 1359 = .ok (.if_icmp .le 22, 3) := by decide +kernel
theorem dL_acts_1362 : decode cL_acts 1362 = .ok (.aload_n 0, 1) := by decide +kernel
theorem dL_acts_1363 : decode cL_acts 1363 = .ok (.iload 11, 2) := by decide +kernel
theorem dL_acts_1365 : decode cL_acts 1365 = .ok (.iload 13, 2) := by decide +kernel
theorem dL_acts_1367 : decode cL_acts 1367 = .ok (.invokevirtual 49, 3) := by decide +kernel
theorem dL_acts_1370 : decode cL_acts 1370 = .ok (.bipush (-3), 2) := by decide +kernel
theorem dL_acts_1372 : decode cL_acts 1372 = .ok (.if_icmp .ne 7, 3) := by decide +kernel
theorem dL_acts_1375 : decode cL_acts 1375 = .ok (.iconst 1, 1) := by decide +kernel
theorem dL_acts_1376 : decode cL_acts 1376 = .ok (.goto 4, 3) := by decide +kernel
theorem dL_acts_1379 : decode cL_acts 1379 = .ok (.iconst 0, 1) := by decide +kernel
theorem dL_acts_1380 : decode cL_acts 1380 = .ok (.ireturn, 1) := by decide +kernel
theorem dL_acts_1381 : decode cL_acts 1381 = .ok (.aload 4, 2) := by decide +kernel
theorem dL_acts_1383 : decode cL_acts 1383 = .ok (.bipush 9, 2) := by decide +kernel
theorem dL_acts_1385 : decode cL_acts 1385 = .ok (.iload 13, 2) := by decide +kernel
theorem dL_acts_1387 : decode cL_acts 1387 = .ok (.imul, 1) := by decide +kernel
theorem dL_acts_1388 : decode cL_acts 1388 = .ok (.iconst 2, 1) := by decide +kernel
theorem dL_acts_1389 : decode cL_acts 1389 = .ok (.iadd, 1) := by decide +kernel
theorem dL_acts_1390 : decode cL_acts 1390 = .ok (.dup2, 1) := by decide +kernel
theorem dL_acts_1391 : decode cL_acts 1391 = .ok (.iaload, 1) := by decide +kernel
theorem dL_acts_1392 : decode cL_acts 1392 = .ok (.aload 4, 2) := by decide +kernel
theorem dL_acts_1394 : decode cL_acts 1394 = .ok (.bipush 9, 2) := by decide +kernel
theorem dL_acts_1396 : decode cL_acts 1396 = .ok (.iload 11, 2) := by decide +kernel
theorem dL_acts_1398 : decode cL_acts 1398 = .ok (.imul, 1) := by decide +kernel
theorem dL_acts_1399 : decode cL_acts 1399 = .ok (.iconst 2, 1) := by decide +kernel
theorem dL_acts_1400 : decode cL_acts 1400 = .ok (.iadd, 1) := by decide +kernel
theorem dL_acts_1401 : decode cL_acts 1401 = .ok (.iaload, 1) := by decide +kernel
theorem dL_acts_1402 : decode cL_acts 1402 = .ok (.iadd, 1) := by decide +kernel
theorem dL_acts_1403 : decode cL_acts 1403 = .ok (.iastore, 1) := by decide +kernel
theorem dL_acts_1404 : decode cL_acts 1404 = .ok (.aload 4, 2) := by decide +kernel
theorem dL_acts_1406 : decode cL_acts 1406 = .ok (.bipush 9, 2) := by decide +kernel
theorem dL_acts_1408 : decode cL_acts 1408 = .ok (.iload 13, 2) := by decide +kernel
theorem dL_acts_1410 : decode cL_acts 1410 = .ok (.imul, 1) := by decide +kernel
theorem dL_acts_1411 : decode cL_acts 1411 = .ok (.iconst 4, 1) := by decide +kernel
theorem dL_acts_1412 : decode cL_acts 1412 = .ok (.iadd, 1) := by decide +kernel
theorem dL_acts_1413 : decode cL_acts 1413 = .ok (.dup2, 1) := by decide +kernel
theorem dL_acts_1414 : decode cL_acts 1414 = .ok (.iaload, 1) := by decide +kernel
theorem dL_acts_1415 : decode cL_acts 1415 = .ok (.aload 4, 2) := by decide +kernel
theorem dL_acts_1417 : decode cL_acts 1417 = .ok (.bipush 9, 2) := by decide +kernel
theorem dL_acts_1419 : decode cL_acts 1419 = .ok (.iload 11, 2) := by decide +kernel
theorem dL_acts_1421 : decode cL_acts 1421 = .ok (.imul, 1) := by decide +kernel
theorem dL_acts_1422 : decode cL_acts 1422 = .ok (.iconst 4, 1) := by decide +kernel
theorem dL_acts_1423 : decode cL_acts 1423 = .ok (.iadd, 1) := by decide +kernel
theorem dL_acts_1424 : decode cL_acts 1424 = .ok (.iaload, 1) := by decide +kernel
theorem dL_acts_1425 : decode cL_acts 1425 = .ok (.iadd, 1) := by decide +kernel
theorem dL_acts_1426 : decode cL_acts 1426 = .ok (.iastore, 1) := by decide +kernel
theorem dL_acts_1427 : decode cL_acts 1427 = .ok (.aload 4, 2) := by decide +kernel
theorem dL_acts_1429 : decode cL_acts 1429 = .ok (.bipush 9, 2) := by decide +kernel
theorem dL_acts_1431 : decode cL_acts 1431 = .ok (.iload 13, 2) := by decide +kernel
theorem dL_acts_1433 : decode cL_acts 1433 = .ok (.imul, 1) := by decide +kernel
theorem dL_acts_1434 : decode cL_acts 1434 = .ok (.iconst 5, 1) := by decide +kernel
theorem dL_acts_1435 : decode cL_acts 1435 = .ok (.iadd, 1) := by decide +kernel
theorem dL_acts_1436 : decode cL_acts 1436 = .ok (.dup2, 1) := by decide +kernel
theorem dL_acts_1437 : decode cL_acts 1437 = .ok (.iaload, 1) := by decide +kernel
theorem dL_acts_1438 : decode cL_acts 1438 = .ok (.aload 4, 2) := by decide +kernel
theorem dL_acts_1440 : decode cL_acts 1440 = .ok (.bipush 9, 2) := by decide +kernel
theorem dL_acts_1442 : decode cL_acts 1442 = .ok (.iload 11, 2) := by decide +kernel
theorem dL_acts_1444 : decode cL_acts 1444 = .ok (.imul, 1) := by decide +kernel
theorem dL_acts_1445 : decode cL_acts 1445 = .ok (.iconst 5, 1) := by decide +kernel
theorem dL_acts_1446 : decode cL_acts 1446 = .ok (.iadd, 1) := by decide +kernel
theorem dL_acts_1447 : decode cL_acts 1447 = .ok (.iaload, 1) := by decide +kernel
theorem dL_acts_1448 : decode cL_acts 1448 = .ok (.iadd, 1) := by decide +kernel
theorem dL_acts_1449 : decode cL_acts 1449 = .ok (.iastore, 1) := by decide +kernel
theorem dL_acts_1450 : decode cL_acts 1450 = .ok (.aload 4, 2) := by decide +kernel
theorem dL_acts_1452 : decode cL_acts 1452 = .ok (.bipush 9, 2) := by decide +kernel
theorem dL_acts_1454 : decode cL_acts 1454 = .ok (.iload 11, 2) := by decide +kernel
theorem dL_acts_1456 : decode cL_acts 1456 = .ok (.imul, 1) := by decide +kernel
theorem dL_acts_1457 : decode cL_acts 1457 = .ok (.iconst 2, 1) := by decide +kernel
theorem dL_acts_1458 : decode cL_acts 1458 = .ok (.iadd, 1) := by decide +kernel
theorem dL_acts_1459 : decode cL_acts 1459 = .ok (.iconst 0, 1) := by decide +kernel
theorem dL_acts_1460 : decode cL_acts 1460 = .ok (.iastore, 1) := by decide +kernel
theorem dL_acts_1461 : decode cL_acts 1461 = .ok (.aload 4, 2) := by decide +kernel
theorem dL_acts_1463 : decode cL_acts 1463 = .ok (.bipush 9, 2) := by decide +kernel
theorem dL_acts_1465 : decode cL_acts 1465 = .ok (.iload 11, 2) := by decide +kernel
theorem dL_acts_1467 : decode cL_acts 1467 = .ok (.imul, 1) := by decide +kernel
theorem dL_acts_1468 : decode cL_acts 1468 = .ok (.iconst 4, 1) := by decide +kernel
theorem dL_acts_1469 : decode cL_acts 1469 = .ok (.iadd, 1) := by decide +kernel
theorem dL_acts_1470 : decode cL_acts 1470 = .ok (.iconst 0, 1) := by decide +kernel
theorem dL_acts_1471 : decode cL_acts 1471 = .ok (.iastore, 1) := by decide +kernel
theorem dL_acts_1472 : decode cL_acts 1472 = .ok (.aload 4, 2) := by decide +kernel
theorem dL_acts_1474 : decode cL_acts 1474 = .ok (.bipush 9, 2) := by decide +kernel
theorem dL_acts_1476 : decode cL_acts 1476 = .ok (.iload 11, 2) := by decide +kernel
theorem dL_acts_1478 : decode cL_acts 1478 = .ok (.imul, 1) := by decide +kernel
theorem dL_acts_1479 : decode cL_acts 1479 = .ok (.iconst 5, 1) := by decide +kernel
theorem dL_acts_1480 : decode cL_acts 1480 = .ok (.iadd, 1) := by decide +kernel
theorem dL_acts_1481 : decode cL_acts 1481 = .ok (.iconst 0, 1) := by decide +kernel
theorem dL_acts_1482 : decode cL_acts 1482 = .ok (.iastore, 1) := by decide +kernel
theorem dL_acts_1483 : decode cL_acts 1483 = .ok (.aload 4, 2) := by decide +kernel
theorem dL_acts_1485 : decode cL_acts 1485 = .ok (.bipush 9, 2) := by decide +kernel
theorem dL_acts_1487 : decode cL_acts 1487 = .ok (.iload 11, 2) := by decide +kernel
theorem dL_acts_1489 : decode cL_acts 1489 = .ok (.imul, 1) := by decide +kernel
theorem dL_acts_1490 : decode cL_acts 1490 = .ok (.iconst 3, 1) := by decide +kernel
theorem dL_acts_1491 : decode cL_acts 1491 = .ok (.iadd, 1) := by decide +kernel
theorem dL_acts_1492 : decode cL_acts 1492 = .ok (.iconst 3, 1) := by decide +kernel
theorem dL_acts_1493 : decode cL_acts 1493 = .ok (.iastore, 1) := by decide +kernel
theorem dL_acts_1494 : decode cL_acts 1494 = .ok (.aload_n 1, 1) := by decide +kernel
theorem dL_acts_1495 : decode cL_acts 1495 = .ok (.iconst 4, 1) := by decide +kernel
theorem dL_acts_1496 : decode cL_acts 1496 = .ok (.iaload, 1) := by decide +kernel
theorem dL_acts_1497 : decode cL_acts 1497 = .ok (.istore 14, 2) := by decide +kernel
theorem dL_acts_1499 : decode cL_acts 1499 = .ok (.iconst 0, 1) := by decide +kernel
theorem dL_acts_1500 : decode cL_acts 1500 = .ok (.istore 15, 2) := by decide +kernel
theorem dL_acts_1502 : decode cL_acts 1502 = .ok (.iload 15, 2) := by decide +kernel
theorem dL_acts_1504 : decode cL_acts 1504 = .ok (.iload 14, 2) := by decide +kernel
theorem dL_acts_1506 : decode cL_acts 1506 = .ok (.if_icmp .ge 84, 3) := by decide +kernel
theorem dL_acts_1509 : decode cL_acts 1509 = .ok (.iconst 0, 1) := by decide +kernel
theorem dL_acts_1510 : decode cL_acts 1510 = .ok (.istore 16, 2) := by decide +kernel
theorem dL_acts_1512 : decode cL_acts 1512 = .ok (.iload 16, 2) := by decide +kernel
theorem dL_acts_1514 : decode cL_acts 1514 = .ok (.aload_n 1, 1) := by decide +kernel
theorem dL_acts_1515 : decode cL_acts 1515 = .ok (.iconst 1, 1) := by decide +kernel
theorem dL_acts_1516 : decode cL_acts 1516 = .ok (.iaload, 1) := by decide +kernel
theorem dL_acts_1517 : decode cL_acts 1517 = .ok (.if_icmp .ge 67, 3) := by decide +kernel
theorem dL_acts_1520 : decode cL_acts 1520 = .ok (.aload 5, 2) := by decide +kernel
theorem dL_acts_1522 : decode cL_acts 1522 = .ok (.iconst 4, 1) := by decide +kernel
theorem dL_acts_1523 : decode cL_acts 1523 = .ok (.iload 16, 2) := by decide +kernel
theorem dL_acts_1525 : decode cL_acts 1525 = .ok (.imul, 1) := by decide +kernel
theorem dL_acts_1526 : decode cL_acts 1526 = .ok (.iconst 2, 1) := by decide +kernel
theorem dL_acts_1527 : decode cL_acts 1527 = .ok (.iadd, 1) := by decide +kernel
theorem dL_acts_1528 : decode cL_acts 1528 = .ok (.iaload, 1) := by decide +kernel
theorem dL_acts_1529 : decode cL_acts 1529 = .ok (.iload 11, 2) := by decide +kernel
theorem dL_acts_1531 : decode cL_acts 1531 = .ok (.if_icmp .ne 47, 3) := by decide +kernel
theorem dL_acts_1534 : decode cL_acts 1534 = .ok (.aload 5, 2) := by decide +kernel
theorem dL_acts_1536 : decode cL_acts 1536 = .ok (.iconst 4, 1) := by decide +kernel
theorem dL_acts_1537 : decode cL_acts 1537 = .ok (.iload 16, 2) := by decide +kernel
theorem dL_acts_1539 : decode cL_acts 1539 = .ok (.imul, 1) := by decide +kernel
theorem dL_acts_1540 : decode cL_acts 1540 = .ok (.iconst 3, 1) := by decide +kernel
theorem dL_acts_1541 : decode cL_acts 1541 = .ok (.iadd, 1) := by decide +kernel
theorem dL_acts_1542 : decode cL_acts 1542 = .ok (.iaload, 1) := by decide +kernel
theorem dL_acts_1543 : decode cL_acts 1543 = .ok (.iload 15, 2) := by decide +kernel
theorem dL_acts_1545 : decode cL_acts 1545 = .ok (.if_icmp .ne 33, 3) := by decide +kernel
theorem dL_acts_1548 : decode cL_acts 1548 = .ok (.aload 5, 2) := by decide +kernel
theorem dL_acts_1550 : decode cL_acts 1550 = .ok (.iconst 4, 1) := by decide +kernel
theorem dL_acts_1551 : decode cL_acts 1551 = .ok (.iload 16, 2) := by decide +kernel
theorem dL_acts_1553 : decode cL_acts 1553 = .ok (.imul, 1) := by decide +kernel
theorem dL_acts_1554 : decode cL_acts 1554 = .ok (.iconst 2, 1) := by decide +kernel
theorem dL_acts_1555 : decode cL_acts 1555 = .ok (.iadd, 1) := by decide +kernel
theorem dL_acts_1556 : decode cL_acts 1556 = .ok (.iload 13, 2) := by decide +kernel
theorem dL_acts_1558 : decode cL_acts 1558 = .ok (.iastore, 1) := by decide +kernel
theorem dL_acts_1559 : decode cL_acts 1559 = .ok (.aload 5, 2) := by decide +kernel
theorem dL_acts_1561 : decode cL_acts 1561 = .ok (.iconst 4, 1) := by decide +kernel
theorem dL_acts_1562 : decode cL_acts 1562 = .ok (.iload 16, 2) := by decide +kernel
theorem dL_acts_1564 : decode cL_acts 1564 = .ok (.imul, 1) := by decide +kernel
theorem dL_acts_1565 : decode cL_acts 1565 = .ok (.iconst 3, 1) := by decide +kernel
theorem dL_acts_1566 : decode cL_acts 1566 = .ok (.iadd, 1) := by decide +kernel
theorem dL_acts_1567 : decode cL_acts 1567 = .ok (.aload_n 1, 1) := by decide +kernel
theorem dL_acts_1568 : decode cL_acts 1568 = .ok (.iconst 4, 1) := by decide +kernel
theorem dL_acts_1569 : decode cL_acts 1569 = .ok (.iaload, 1) := by decide +kernel
theorem dL_acts_1570 : decode cL_acts 1570 = .ok (.iastore, 1) := by decide +kernel
theorem dL_acts_1571 : decode cL_acts 1571 = .ok (.aload_n 1, 1) := by decide +kernel
theorem dL_acts_1572 : decode cL_acts 1572 = .ok (.iconst 4, 1) := by decide +kernel
theorem dL_acts_1573 : decode cL_acts 1573 = .ok (.dup2, 1) := by decide +kernel
theorem dL_acts_1574 : decode cL_acts 1574 = .ok (.iaload, 1) := by decide +kernel
theorem dL_acts_1575 : decode cL_acts 1575 = .ok (.iconst 1, 1) := by decide +kernel
theorem dL_acts_1576 : decode cL_acts 1576 = .ok (.iadd, 1) := by decide +kernel
theorem dL_acts_1577 : decode cL_acts 1577 = .ok (.iastore, 1) := by decide +kernel
theorem dL_acts_1578 : decode cL_acts 1578 = .ok (.iinc 16 1, 3) := by decide +kernel
theorem dL_acts_1581 : decode cL_acts 1581 = .ok (.goto (-69), 3) := by decide +kernel
theorem dL_acts_1584 : decode cL_acts 1584 = .ok (.iinc 15 1, 3) := by decide +kernel
theorem dL_acts_1587 : decode cL_acts 1587 = .ok (.goto (-85), 3) := by decide +kernel
theorem dL_acts_1590 : decode cL_acts 1590 = .ok (.aload_n 0, 1) := by decide +kernel
theorem dL_acts_1591 : decode cL_acts 1591 = .ok (.iload 11, 2) := by decide +kernel
theorem dL_acts_1593 : decode cL_acts 1593 = .ok (.iload 13, 2) := by decide +kernel
theorem dL_acts_1595 : decode cL_acts 1595 = .ok (.invokevirtual 49, 3) := by decide +kernel
theorem dL_acts_1598 : decode cL_acts 1598 = .ok (.aload 4, 2) := by decide +kernel
theorem dL_acts_1600 : decode cL_acts 1600 = .ok (.bipush 9, 2) := by decide +kernel
theorem dL_acts_1602 : decode cL_acts 1602 = .ok (.iload 13, 2) := by decide +kernel
theorem dL_acts_1604 : decode cL_acts 1604 = .ok (.imul, 1) := by decide +kernel
theorem dL_acts_1605 : decode cL_acts 1605 = .ok (.iconst 2, 1) := by decide +kernel
theorem dL_acts_1606 : decode cL_acts 1606 = .ok (.iadd, 1) := by decide +kernel
theorem dL_acts_1607 : decode cL_acts 1607 = .ok (.iaload, 1) := by decide +kernel
theorem dL_acts_1608 : decode cL_acts 1608 = .ok (.if_icmp .ne 7, 3) := by decide +kernel
theorem dL_acts_1611 : decode cL_acts 1611 = .ok (.iconst 1, 1) := by decide +kernel
theorem dL_acts_1612 : decode cL_acts 1612 = .ok (.goto 4, 3) := by decide +kernel
theorem dL_acts_1615 : decode cL_acts 1615 = .ok (.iconst 0, 1) := by decide +kernel
theorem dL_acts_1616 : decode cL_acts 1616 = .ok (.ireturn, 1) := by decide +kernel
theorem dL_acts_1617 : decode cL_acts 1617 = .ok (.iload 8, 2) := by decide +kernel
theorem dL_acts_1619 : decode cL_acts 1619 = .ok (.bipush 21, 2) := by decide +kernel
theorem dL_acts_1621 : decode cL_acts 1621 = .ok (.idiv, 1) := by decide +kernel
theorem dL_acts_1622 : decode cL_acts 1622 = .ok (.iload 8, 2) := by decide +kernel
theorem dL_acts_1624 : decode cL_acts 1624 = .ok (.iconst 3, 1) := by decide +kernel
theorem dL_acts_1625 : decode cL_acts 1625 = .ok (.irem, 1) := by decide +kernel
theorem dL_acts_1626 : decode cL_acts 1626 = .ok (.ifCond .ne 15, 3) := by decide +kernel
theorem dL_acts_1629 : decode cL_acts 1629 = .ok (.aload_n 3, 1) := by decide +kernel
theorem dL_acts_1630 : decode cL_acts 1630 = .ok (.bipush 11, 2) := by decide +kernel
theorem dL_acts_1632 : decode cL_acts 1632 = .ok (.iload 10, 2) := by decide +kernel
theorem dL_acts_1634 : decode cL_acts 1634 = .ok (.imul, 1) := by decide +kernel
theorem dL_acts_1635 : decode cL_acts 1635 = .ok (.iaload, 1) := by decide +kernel
theorem dL_acts_1636 : decode cL_acts 1636 = .ok (.iconst 1, 1) := by decide +kernel
theorem dL_acts_1637 : decode cL_acts 1637 = .ok (.iadd, 1) := by decide +kernel
theorem dL_acts_1638 : decode cL_acts 1638 = .ok (.goto 5, 3) := by decide +kernel
theorem dL_acts_1641 : decode cL_acts 1641 = .ok (.bipush 20, 2) := by decide +kernel
theorem dL_acts_1643 : decode cL_acts 1643 = .ok (.irem, 1) := by decide +kernel
theorem dL_acts_1644 : decode cL_acts 1644 = .ok (.istore 13, 2) := by decide +kernel
theorem dL_acts_1646 : decode cL_acts 1646 = .ok (.iload 8, 2) := by decide +kernel
theorem dL_acts_1648 : decode cL_acts 1648 = .ok (.bipush 7, 2) := by decide +kernel
theorem dL_acts_1650 : decode cL_acts 1650 = .ok (.idiv, 1) := by decide +kernel
theorem dL_acts_1651 : decode cL_acts 1651 = .ok (.bipush 21, 2) := by decide +kernel
theorem dL_acts_1653 : decode cL_acts 1653 = .ok (.irem, 1) := by decide +kernel
theorem dL_acts_1654 : decode cL_acts 1654 = .ok (.istore 14, 2) := by decide +kernel
theorem dL_acts_1656 : decode cL_acts 1656 = .ok (.iload 8, 2) := by decide +kernel
theorem dL_acts_1658 : decode cL_acts 1658 = .ok (.sipush 147, 3) := by decide +kernel
theorem dL_acts_1661 : decode cL_acts 1661 = .ok (.idiv, 1) := by decide +kernel
theorem dL_acts_1662 : decode cL_acts 1662 = .ok (.bipush 10, 2) := by decide +kernel
theorem dL_acts_1664 : decode cL_acts 1664 = .ok (.irem, 1) := by decide +kernel
theorem dL_acts_1665 : decode cL_acts 1665 = .ok (.istore 15, 2) := by decide +kernel
theorem dL_acts_1667 : decode cL_acts 1667 = .ok (.iload 9, 2) := by decide +kernel
theorem dL_acts_1669 : decode cL_acts 1669 = .ok (.bipush 24, 2) := by decide +kernel
theorem dL_acts_1671 : decode cL_acts 1671 = .ok (.if_icmp .ge 27, 3) := by decide +kernel
theorem dL_acts_1674 : decode cL_acts 1674 = .ok (.aload_n 1, 1) := by decide +kernel
theorem dL_acts_1675 : decode cL_acts 1675 = .ok (.aload 4, 2) := by decide +kernel
theorem dL_acts_1677 : decode cL_acts 1677 = .ok (.iload 10, 2) := by decide +kernel
theorem dL_acts_1679 : decode cL_acts 1679 = .ok (.iconst 0, 1) := by decide +kernel
theorem dL_acts_1680 : decode cL_acts 1680 = .ok (.invokestatic 9, 3) := by decide +kernel
theorem dL_acts_1683 : decode cL_acts 1683 = .ok (.ifCond .lt 15, 3) := by decide +kernel
theorem dL_acts_1686 : decode cL_acts 1686 = .ok (.aload_n 1, 1) := by decide +kernel
theorem dL_acts_1687 : decode cL_acts 1687 = .ok (.aload 4, 2) := by decide +kernel
theorem dL_acts_1689 : decode cL_acts 1689 = .ok (.iload 10, 2) := by decide +kernel
theorem dL_acts_1691 : decode cL_acts 1691 = .ok (.iconst 0, 1) := by decide +kernel
theorem dL_acts_1692 : decode cL_acts 1692 = .ok (.invokestatic 9, 3) := by decide +kernel
theorem dL_acts_1695 : decode cL_acts 1695 = .ok (.goto 5, 3) := by decide +kernel
theorem dL_acts_1698 : decode cL_acts 1698 = .ok (.iload 11, 2) := by decide +kernel
theorem dL_acts_1700 : decode cL_acts 1700 = .ok (.istore 11, 2) := by decide +kernel
theorem dL_acts_1702 : decode cL_acts 1702 = .ok (.aload_n 1, 1) := by decide +kernel
theorem dL_acts_1703 : decode cL_acts 1703 = .ok (.aload 4, 2) := by decide +kernel
theorem dL_acts_1705 : decode cL_acts 1705 = .ok (.iload 10, 2) := by decide +kernel
theorem dL_acts_1707 : decode cL_acts 1707 = .ok (.iconst 0, 1) := by decide +kernel
theorem dL_acts_1708 : decode cL_acts 1708 = .ok (.invokestatic 9, 3) := by decide +kernel
theorem dL_acts_1711 : decode cL_acts 1711 = .ok (.iload 11, 2) := by decide +kernel
theorem dL_acts_1713 : decode cL_acts 1713 = .ok (.if_icmp .eq 26, 3) := by decide +kernel
theorem dL_acts_1716 : decode cL_acts 1716 = .ok (.aload_n 0, 1) := by decide +kernel
theorem dL_acts_1717 : decode cL_acts 1717 = .ok (.iload 11, 2) := by decide +kernel
theorem dL_acts_1719 : decode cL_acts 1719 = .ok (.iload 13, 2) := by decide +kernel
theorem dL_acts_1721 : decode cL_acts 1721 = .ok (.iload 14, 2) := by decide +kernel
theorem dL_acts_1723 : decode cL_acts 1723 = .ok (.iload 15, 2) := by decide +kernel
theorem dL_acts_1725 : decode cL_acts 1725 = .ok (.invokevirtual 52, 3) := by decide +kernel
theorem dL_acts_1728 : decode cL_acts 1728 = .ok (.bipush (-2), 2) := by decide +kernel
theorem dL_acts_1730 : decode cL_acts 1730 = .ok (.if_icmp .ne 7, 3) := by decide +kernel
theorem dL_acts_1733 : decode cL_acts 1733 = .ok (.iconst 1, 1) := by decide +kernel
theorem dL_acts_1734 : decode cL_acts 1734 = .ok (.goto 4, 3) := by decide +kernel
theorem dL_acts_1737 : decode cL_acts 1737 = .ok (.iconst 0, 1) := by decide +kernel
theorem dL_acts_1738 : decode cL_acts 1738 = .ok (.ireturn, 1) := by decide +kernel
theorem dL_acts_1739 : decode cL_acts 1739 = .ok (.bipush 11, 2) := by decide +kernel
theorem dL_acts_1741 : decode cL_acts 1741 = .ok (.iload 10, 2) := by decide +kernel
theorem dL_acts_1743 : decode cL_acts 1743 = .ok (.imul, 1) := by decide +kernel
theorem dL_acts_1744 : decode cL_acts 1744 = .ok (.istore 16, 2) := by decide +kernel
theorem dL_acts_1746 : decode cL_acts 1746 = .ok (.aload_n 1, 1) := by decide +kernel
theorem dL_acts_1747 : decode cL_acts 1747 = .ok (.aload_n 3, 1) := by decide +kernel
theorem dL_acts_1748 : decode cL_acts 1748 = .ok (.aload 4, 2) := by decide +kernel
theorem dL_acts_1750 : decode cL_acts 1750 = .ok (.iload 11, 2) := by decide +kernel
theorem dL_acts_1752 : decode cL_acts 1752 = .ok (.iconst 0, 1) := by decide +kernel
theorem dL_acts_1753 : decode cL_acts 1753 = .ok (.invokestatic 59, 3) := by decide +kernel
theorem dL_acts_1756 : decode cL_acts 1756 = .ok (.istore 17, 2) := by decide +kernel
theorem dL_acts_1758 : decode cL_acts 1758 = .ok (.iload 13, 2) := by decide +kernel
theorem dL_acts_1760 : decode cL_acts 1760 = .ok (.iload 14, 2) := by decide +kernel
theorem dL_acts_1762 : decode cL_acts 1762 = .ok (.aload_n 2, 1) := by decide +kernel
theorem dL_acts_1763 : decode cL_acts 1763 = .ok (.iconst 0, 1) := by decide +kernel
theorem dL_acts_1764 : decode cL_acts 1764 = .ok (.iaload, 1) := by decide +kernel
theorem dL_acts_1765 : decode cL_acts 1765 = .ok (.imul, 1) := by decide +kernel
theorem dL_acts_1766 : decode cL_acts 1766 = .ok (.iadd, 1) := by decide +kernel
theorem dL_acts_1767 : decode cL_acts 1767 = .ok (.istore 18, 2) := by decide +kernel
theorem dL_acts_1769 : decode cL_acts 1769 = .ok (.iload 13, 2) := by decide +kernel
theorem dL_acts_1771 : decode cL_acts 1771 = .ok (.ifCond .le 20, 3) := by decide +kernel
theorem dL_acts_1774 : decode cL_acts 1774 = .ok (.iload 18, 2) := by decide +kernel
theorem dL_acts_1776 : decode cL_acts 1776 = .ok (.aload_n 3, 1) := by decide +kernel
theorem dL_acts_1777 : decode cL_acts 1777 = .ok (.iload 16, 2) := by decide +kernel
theorem dL_acts_1779 : decode cL_acts 1779 = .ok (.iaload, 1) := by decide +kernel
theorem dL_acts_1780 : decode cL_acts 1780 = .ok (.aload_n 2, 1) := by decide +kernel
theorem dL_acts_1781 : decode cL_acts 1781 = .ok (.iconst 1, 1) := by decide +kernel
theorem dL_acts_1782 : decode cL_acts 1782 = .ok (.iaload, 1) := by decide +kernel
theorem dL_acts_1783 : decode cL_acts 1783 = .ok (.iadd, 1) := by decide +kernel
theorem dL_acts_1784 : decode cL_acts 1784 = .ok (.if_icmp .gt 7, 3) := by decide +kernel
theorem dL_acts_1787 : decode cL_acts 1787 = .ok (.iconst 1, 1) := by decide +kernel
theorem dL_acts_1788 : decode cL_acts 1788 = .ok (.goto 4, 3) := by decide +kernel
theorem dL_acts_1791 : decode cL_acts 1791 = .ok (.iconst 0, 1) := by decide +kernel
theorem dL_acts_1792 : decode cL_acts 1792 = .ok (.istore 19, 2) := by decide +kernel
theorem dL_acts_1794 : decode cL_acts 1794 = .ok (.iload 13, 2) := by decide +kernel
theorem dL_acts_1796 : decode cL_acts 1796 = .ok (.ifCond .ne 10, 3) := by decide +kernel
theorem dL_acts_1799 : decode cL_acts 1799 = .ok (.aload_n 3, 1) := by decide +kernel
theorem dL_acts_1800 : decode cL_acts 1800 = .ok (.iload 16, 2) := by decide +kernel
theorem dL_acts_1802 : decode cL_acts 1802 = .ok (.iaload, 1) := by decide +kernel
theorem dL_acts_1803 : decode cL_acts 1803 = .ok (.goto 21, 3) := by decide +kernel
theorem dL_acts_1806 : decode cL_acts 1806 = .ok (.iload 19, 2) := by decide +kernel
theorem dL_acts_1808 : decode cL_acts 1808 = .ok (.ifCond .eq 8, 3) := by decide +kernel
theorem dL_acts_1811 : decode cL_acts 1811 = .ok (.iload 18, 2) := by decide +kernel
theorem dL_acts_1813 : decode cL_acts 1813 = .ok (.goto 11, 3) := by decide +kernel
theorem dL_acts_1816 : decode cL_acts 1816 = .ok (.aload_n 3, 1) := by decide +kernel
theorem dL_acts_1817 : decode cL_acts 1817 = .ok (.iload 16, 2) := by decide +kernel
theorem dL_acts_1819 : decode cL_acts 1819 = .ok (.iaload, 1) := by decide +kernel
theorem dL_acts_1820 : decode cL_acts 1820 = .ok (.aload_n 2, 1) := by decide +kernel
theorem dL_acts_1821 : decode cL_acts 1821 = .ok (.iconst 1, 1) := by decide +kernel
theorem dL_acts_1822 : decode cL_acts 1822 = .ok (.iaload, 1) := by decide +kernel
theorem dL_acts_1823 : decode cL_acts 1823 = .ok (.iadd, 1) := by decide +kernel
theorem dL_acts_1824 : decode cL_acts 1824 = .ok (.istore 20, 2) := by decide +kernel
theorem dL_acts_1826 : decode cL_acts 1826 = .ok (.aload 4, 2) := by decide +kernel
theorem dL_acts_1828 : decode cL_acts 1828 = .ok (.bipush 9, 2) := by decide +kernel
theorem dL_acts_1830 : decode cL_acts 1830 = .ok (.iload 11, 2) := by decide +kernel
theorem dL_acts_1832 : decode cL_acts 1832 = .ok (.imul, 1) := by decide +kernel
theorem dL_acts_1833 : decode cL_acts 1833 = .ok (.iconst 3, 1) := by decide +kernel
theorem dL_acts_1834 : decode cL_acts 1834 = .ok (.iadd, 1) := by decide +kernel
theorem dL_acts_1835 : decode cL_acts 1835 = .ok (.iconst 1, 1) := by decide +kernel
theorem dL_acts_1836 : decode cL_acts 1836 = .ok (.iastore, 1) := by decide +kernel
theorem dL_acts_1837 : decode cL_acts 1837 = .ok (.aload 4, 2) := by decide +kernel
theorem dL_acts_1839 : decode cL_acts 1839 = .ok (.bipush 9, 2) := by decide +kernel
theorem dL_acts_1841 : decode cL_acts 1841 = .ok (.iload 11, 2) := by decide +kernel
theorem dL_acts_1843 : decode cL_acts 1843 = .ok (.imul, 1) := by decide +kernel
theorem dL_acts_1844 : decode cL_acts 1844 = .ok (.bipush 7, 2) := by decide +kernel
theorem dL_acts_1846 : decode cL_acts 1846 = .ok (.iadd, 1) := by decide +kernel
theorem dL_acts_1847 : decode cL_acts 1847 = .ok (.aload 4, 2) := by decide +kernel
theorem dL_acts_1849 : decode cL_acts 1849 = .ok (.bipush 9, 2) := by decide +kernel
theorem dL_acts_1851 : decode cL_acts 1851 = .ok (.iload 11, 2) := by decide +kernel
theorem dL_acts_1853 : decode cL_acts 1853 = .ok (.imul, 1) := by decide +kernel
theorem dL_acts_1854 : decode cL_acts 1854 = .ok (.iconst 1, 1) := by decide +kernel
theorem dL_acts_1855 : decode cL_acts 1855 = .ok (.iadd, 1) := by decide +kernel
theorem dL_acts_1856 : decode cL_acts 1856 = .ok (.iaload, 1) := by decide +kernel
theorem dL_acts_1857 : decode cL_acts 1857 = .ok (.iload 17, 2) := by decide +kernel
theorem dL_acts_1859 : decode cL_acts 1859 = .ok (.iadd, 1) := by decide +kernel
theorem dL_acts_1860 : decode cL_acts 1860 = .ok (.iastore, 1) := by decide +kernel
theorem dL_acts_1861 : decode cL_acts 1861 = .ok (.aload 4, 2) := by decide +kernel
theorem dL_acts_1863 : decode cL_acts 1863 = .ok (.bipush 9, 2) := by decide +kernel
theorem dL_acts_1865 : decode cL_acts 1865 = .ok (.iload 11, 2) := by decide +kernel
theorem dL_acts_1867 : decode cL_acts 1867 = .ok (.imul, 1) := by decide +kernel
theorem dL_acts_1868 : decode cL_acts 1868 = .ok (.bipush 8, 2) := by decide +kernel
theorem dL_acts_1870 : decode cL_acts 1870 = .ok (.iadd, 1) := by decide +kernel
theorem dL_acts_1871 : decode cL_acts 1871 = .ok (.iload 20, 2) := by decide +kernel
theorem dL_acts_1873 : decode cL_acts 1873 = .ok (.iastore, 1) := by decide +kernel
theorem dL_acts_1874 : decode cL_acts 1874 = .ok (.aload_n 3, 1) := by decide +kernel
theorem dL_acts_1875 : decode cL_acts 1875 = .ok (.iload 16, 2) := by decide +kernel
theorem dL_acts_1877 : decode cL_acts 1877 = .ok (.iconst 4, 1) := by decide +kernel
theorem dL_acts_1878 : decode cL_acts 1878 = .ok (.iadd, 1) := by decide +kernel
theorem dL_acts_1879 : decode cL_acts 1879 = .ok (.aload 4, 2) := by decide +kernel
theorem dL_acts_1881 : decode cL_acts 1881 = .ok (.bipush 9, 2) := by decide +kernel
theorem dL_acts_1883 : decode cL_acts 1883 = .ok (.iload 11, 2) := by decide +kernel
theorem dL_acts_1885 : decode cL_acts 1885 = .ok (.imul, 1) := by decide +kernel
theorem dL_acts_1886 : decode cL_acts 1886 = .ok (.bipush 7, 2) := by decide +kernel
theorem dL_acts_1888 : decode cL_acts 1888 = .ok (.iadd, 1) := by decide +kernel
theorem dL_acts_1889 : decode cL_acts 1889 = .ok (.iaload, 1) := by decide +kernel
theorem dL_acts_1890 : decode cL_acts 1890 = .ok (.iload 20, 2) := by decide +kernel
theorem dL_acts_1892 : decode cL_acts 1892 = .ok (.iadd, 1) := by decide +kernel
theorem dL_acts_1893 : decode cL_acts 1893 = .ok (.aload_n 3, 1) := by decide +kernel
theorem dL_acts_1894 : decode cL_acts 1894 = .ok (.iload 16, 2) := by decide +kernel
theorem dL_acts_1896 : decode cL_acts 1896 = .ok (.iconst 1, 1) := by decide +kernel
theorem dL_acts_1897 : decode cL_acts 1897 = .ok (.iadd, 1) := by decide +kernel
theorem dL_acts_1898 : decode cL_acts 1898 = .ok (.iaload, 1) := by decide +kernel
theorem dL_acts_1899 : decode cL_acts 1899 = .ok (.iadd, 1) := by decide +kernel
theorem dL_acts_1900 : decode cL_acts 1900 = .ok (.iload 15, 2) := by decide +kernel
theorem dL_acts_1902 : decode cL_acts 1902 = .ok (.aload_n 2, 1) := by decide +kernel
theorem dL_acts_1903 : decode cL_acts 1903 = .ok (.iconst 2, 1) := by decide +kernel
theorem dL_acts_1904 : decode cL_acts 1904 = .ok (.iaload, 1) := by decide +kernel
theorem dL_acts_1905 : decode cL_acts 1905 = .ok (.imul, 1) := by decide +kernel
theorem dL_acts_1906 : decode cL_acts 1906 = .ok (.iadd, 1) := by decide +kernel
theorem dL_acts_1907 : decode cL_acts 1907 = .ok (.iastore, 1) := by decide +kernel
theorem dL_acts_1908 : decode cL_acts 1908 = .ok (.aload_n 3, 1) := by decide +kernel
theorem dL_acts_1909 : decode cL_acts 1909 = .ok (.iload 16, 2) := by decide +kernel
theorem dL_acts_1911 : decode cL_acts 1911 = .ok (.iconst 5, 1) := by decide +kernel
theorem dL_acts_1912 : decode cL_acts 1912 = .ok (.iadd, 1) := by decide +kernel
theorem dL_acts_1913 : decode cL_acts 1913 = .ok (.dup2, 1) := by decide +kernel
theorem dL_acts_1914 : decode cL_acts 1914 = .ok (.iaload, 1) := by decide +kernel
theorem dL_acts_1915 : decode cL_acts 1915 = .ok (.iconst 1, 1) := by decide +kernel
theorem dL_acts_1916 : decode cL_acts 1916 = .ok (.iadd, 1) := by decide +kernel
theorem dL_acts_1917 : decode cL_acts 1917 = .ok (.iastore, 1) := by decide +kernel
theorem dL_acts_1918 : decode cL_acts 1918 = .ok (.aload_n 3, 1) := by decide +kernel
theorem dL_acts_1919 : decode cL_acts 1919 = .ok (.iload 16, 2) := by decide +kernel
theorem dL_acts_1921 : decode cL_acts 1921 = .ok (.bipush 6, 2) := by decide +kernel
theorem dL_acts_1923 : decode cL_acts 1923 = .ok (.iadd, 1) := by decide +kernel
theorem dL_acts_1924 : decode cL_acts 1924 = .ok (.dup2, 1) := by decide +kernel
theorem dL_acts_1925 : decode cL_acts 1925 = .ok (.iaload, 1) := by decide +kernel
theorem dL_acts_1926 : decode cL_acts 1926 = .ok (.iload 19, 2) := by decide +kernel
theorem dL_acts_1928 : decode cL_acts 1928 = .ok (.ifCond .eq 7, 3) := by decide +kernel
theorem dL_acts_1931 : decode cL_acts 1931 = .ok (.iconst 1, 1) := by decide +kernel
theorem dL_acts_1932 : decode cL_acts 1932 = .ok (.goto 4, 3) := by decide +kernel
theorem dL_acts_1935 : decode cL_acts 1935 = .ok (.iconst 0, 1) := by decide +kernel
theorem dL_acts_1936 : decode cL_acts 1936 = .ok (.iadd, 1) := by decide +kernel
theorem dL_acts_1937 : decode cL_acts 1937 = .ok (.iastore, 1) := by decide +kernel
theorem dL_acts_1938 : decode cL_acts 1938 = .ok (.aload_n 3, 1) := by decide +kernel
theorem dL_acts_1939 : decode cL_acts 1939 = .ok (.iload 16, 2) := by decide +kernel
theorem dL_acts_1941 : decode cL_acts 1941 = .ok (.bipush 7, 2) := by decide +kernel
theorem dL_acts_1943 : decode cL_acts 1943 = .ok (.iadd, 1) := by decide +kernel
theorem dL_acts_1944 : decode cL_acts 1944 = .ok (.dup2, 1) := by decide +kernel
theorem dL_acts_1945 : decode cL_acts 1945 = .ok (.iaload, 1) := by decide +kernel
theorem dL_acts_1946 : decode cL_acts 1946 = .ok (.iload 14, 2) := by decide +kernel
theorem dL_acts_1948 : decode cL_acts 1948 = .ok (.iadd, 1) := by decide +kernel
theorem dL_acts_1949 : decode cL_acts 1949 = .ok (.iastore, 1) := by decide +kernel
theorem dL_acts_1950 : decode cL_acts 1950 = .ok (.aload_n 3, 1) := by decide +kernel
theorem dL_acts_1951 : decode cL_acts 1951 = .ok (.iload 16, 2) := by decide +kernel
theorem dL_acts_1953 : decode cL_acts 1953 = .ok (.bipush 8, 2) := by decide +kernel
theorem dL_acts_1955 : decode cL_acts 1955 = .ok (.iadd, 1) := by decide +kernel
theorem dL_acts_1956 : decode cL_acts 1956 = .ok (.dup2, 1) := by decide +kernel
theorem dL_acts_1957 : decode cL_acts 1957 = .ok (.iaload, 1) := by decide +kernel
theorem dL_acts_1958 : decode cL_acts 1958 = .ok (.iload 20, 2) := by decide +kernel
theorem dL_acts_1960 : decode cL_acts 1960 = .ok (.iadd, 1) := by decide +kernel
theorem dL_acts_1961 : decode cL_acts 1961 = .ok (.iastore, 1) := by decide +kernel
theorem dL_acts_1962 : decode cL_acts 1962 = .ok (.aload_n 3, 1) := by decide +kernel
theorem dL_acts_1963 : decode cL_acts 1963 = .ok (.iload 16, 2) := by decide +kernel
theorem dL_acts_1965 : decode cL_acts 1965 = .ok (.bipush 9, 2) := by decide +kernel
theorem dL_acts_1967 : decode cL_acts 1967 = .ok (.iadd, 1) := by decide +kernel
theorem dL_acts_1968 : decode cL_acts 1968 = .ok (.iload 17, 2) := by decide +kernel
theorem dL_acts_1970 : decode cL_acts 1970 = .ok (.aload_n 3, 1) := by decide +kernel
theorem dL_acts_1971 : decode cL_acts 1971 = .ok (.iload 16, 2) := by decide +kernel
theorem dL_acts_1973 : decode cL_acts 1973 = .ok (.bipush 9, 2) := by decide +kernel
theorem dL_acts_1975 : decode cL_acts 1975 = .ok (.iadd, 1) := by decide +kernel
theorem dL_acts_1976 : decode cL_acts 1976 = .ok (.iaload, 1) := by decide +kernel
theorem dL_acts_1977 : decode cL_acts 1977 = .ok (.if_icmp .le 8, 3) := by decide +kernel
theorem dL_acts_1980 : decode cL_acts 1980 = .ok (.iload 17, 2) := by decide +kernel
theorem dL_acts_1982 : decode cL_acts 1982 = .ok (.goto 10, 3) := by decide +kernel
theorem dL_acts_1985 : decode cL_acts 1985 = .ok (.aload_n 3, 1) := by decide +kernel
theorem dL_acts_1986 : decode cL_acts 1986 = .ok (.iload 16, 2) := by decide +kernel
theorem dL_acts_1988 : decode cL_acts 1988 = .ok (.bipush 9, 2) := by decide +kernel
theorem dL_acts_1990 : decode cL_acts 1990 = .ok (.iadd, 1) := by decide +kernel
theorem dL_acts_1991 : decode cL_acts 1991 = .ok (.iaload, 1) := by decide +kernel
theorem dL_acts_1992 : decode cL_acts 1992 = .ok (.iastore, 1) := by decide +kernel
theorem dL_acts_1993 : decode cL_acts 1993 = .ok (.aload_n 3, 1) := by decide +kernel
theorem dL_acts_1994 : decode cL_acts 1994 = .ok (.iload 16, 2) := by decide +kernel
theorem dL_acts_1996 : decode cL_acts 1996 = .ok (.bipush 10, 2) := by decide +kernel
theorem dL_acts_1998 : decode cL_acts 1998 = .ok (.iadd, 1) := by decide +kernel
theorem dL_acts_1999 : decode cL_acts 1999 = .ok (.dup2, 1) := by decide +kernel
theorem dL_acts_2000 : decode cL_acts 2000 = .ok (.iaload, 1) := by decide +kernel
theorem dL_acts_2001 : decode cL_acts 2001 = .ok (.iload 13, 2) := by decide +kernel
theorem dL_acts_2003 : decode cL_acts 2003 = .ok (.ifCond .le 16, 3) := by decide +kernel
theorem dL_acts_2006 : decode cL_acts 2006 = .ok (.iload 18, 2) := by decide +kernel
theorem dL_acts_2008 : decode cL_acts 2008 = .ok (.aload_n 3, 1) := by decide +kernel
theorem dL_acts_2009 : decode cL_acts 2009 = .ok (.iload 16, 2) := by decide +kernel
theorem dL_acts_2011 : decode cL_acts 2011 = .ok (.iaload, 1) := by decide +kernel
theorem dL_acts_2012 : decode cL_acts 2012 = .ok (.if_icmp .le 7, 3) := by decide +kernel
theorem dL_acts_2015 : decode cL_acts 2015 = .ok (.iconst 1, 1) := by decide +kernel
theorem dL_acts_2016 : decode cL_acts 2016 = .ok (.goto 4, 3) := by decide +kernel
theorem dL_acts_2019 : decode cL_acts 2019 = .ok (.iconst 0, 1) := by decide +kernel
theorem dL_acts_2020 : decode cL_acts 2020 = .ok (.iadd, 1) := by decide +kernel
theorem dL_acts_2021 : decode cL_acts 2021 = .ok (.iastore, 1) := by decide +kernel
theorem dL_acts_2022 : decode cL_acts 2022 = .ok (.aload_n 1, 1) := by decide +kernel
theorem dL_acts_2023 : decode cL_acts 2023 = .ok (.aload 4, 2) := by decide +kernel
theorem dL_acts_2025 : decode cL_acts 2025 = .ok (.aload 5, 2) := by decide +kernel
theorem dL_acts_2027 : decode cL_acts 2027 = .ok (.aload 6, 2) := by decide +kernel
theorem dL_acts_2029 : decode cL_acts 2029 = .ok (.iload 11, 2) := by decide +kernel
theorem dL_acts_2031 : decode cL_acts 2031 = .ok (.aload_n 2, 1) := by decide +kernel
theorem dL_acts_2032 : decode cL_acts 2032 = .ok (.aload 4, 2) := by decide +kernel
theorem dL_acts_2034 : decode cL_acts 2034 = .ok (.bipush 9, 2) := by decide +kernel
theorem dL_acts_2036 : decode cL_acts 2036 = .ok (.iload 11, 2) := by decide +kernel
theorem dL_acts_2038 : decode cL_acts 2038 = .ok (.imul, 1) := by decide +kernel
theorem dL_acts_2039 : decode cL_acts 2039 = .ok (.iconst 4, 1) := by decide +kernel
theorem dL_acts_2040 : decode cL_acts 2040 = .ok (.iadd, 1) := by decide +kernel
theorem dL_acts_2041 : decode cL_acts 2041 = .ok (.iaload, 1) := by decide +kernel
theorem dL_acts_2042 : decode cL_acts 2042 = .ok (.iload 17, 2) := by decide +kernel
theorem dL_acts_2044 : decode cL_acts 2044 = .ok (.invokestatic 67, 3) := by decide +kernel
theorem dL_acts_2047 : decode cL_acts 2047 = .ok (.invokestatic 63, 3) := by decide +kernel
theorem dL_acts_2050 : decode cL_acts 2050 = .ok (.aload_n 0, 1) := by decide +kernel
theorem dL_acts_2051 : decode cL_acts 2051 = .ok (.iload 11, 2) := by decide +kernel
theorem dL_acts_2053 : decode cL_acts 2053 = .ok (.iload 13, 2) := by decide +kernel
theorem dL_acts_2055 : decode cL_acts 2055 = .ok (.iload 14, 2) := by decide +kernel
theorem dL_acts_2057 : decode cL_acts 2057 = .ok (.iload 15, 2) := by decide +kernel
theorem dL_acts_2059 : decode cL_acts 2059 = .ok (.invokevirtual 52, 3) := by decide +kernel
theorem dL_acts_2062 : decode cL_acts 2062 = .ok (.iload 20, 2) := by decide +kernel
theorem dL_acts_2064 : decode cL_acts 2064 = .ok (.if_icmp .ne 7, 3) := by decide +kernel
theorem dL_acts_2067 : decode cL_acts 2067 = .ok (.iconst 1, 1) := by decide +kernel
theorem dL_acts_2068 : decode cL_acts 2068 = .ok (.goto 4, 3) := by decide +kernel
theorem dL_acts_2071 : decode cL_acts 2071 = .ok (.iconst 0, 1) := by decide +kernel
theorem dL_acts_2072 : decode cL_acts 2072 = .ok (.ireturn, 1) := by decide +kernel
theorem dL_isSo_0 : decode cL_isSo 0 = .ok (.aload_n 0, 1) := by decide +kernel
theorem dL_isSo_1 : decode cL_isSo 1 = .ok (.iconst 0, 1) := by decide +kernel
theorem dL_isSo_2 : decode cL_isSo 2 = .ok (.invokevirtual 71, 3) := by decide +kernel
theorem dL_isSo_5 : decode cL_isSo 5 = .ok (.aload_n 1, 1) := by decide +kernel
theorem dL_isSo_6 : decode cL_isSo 6 = .ok (.iconst 0, 1) := by decide +kernel
theorem dL_isSo_7 : decode cL_isSo 7 = .ok (.iaload, 1) := by decide +kernel
theorem dL_isSo_8 : decode cL_isSo 8 = .ok (.if_icmp .ne 56, 3) := by decide +kernel
theorem dL_isSo_11 : decode cL_isSo 11 = .ok (.aload_n 0, 1) := by decide +kernel
theorem dL_isSo_12 : decode cL_isSo 12 = .ok (.iconst 1, 1) := by decide +kernel
theorem dL_isSo_13 : decode cL_isSo 13 = .ok (.invokevirtual 71, 3) := by decide +kernel
theorem dL_isSo_16 : decode cL_isSo 16 = .ok (.aload_n 1, 1) := by decide +kernel
theorem dL_isSo_17 : decode cL_isSo 17 = .ok (.iconst 1, 1) := by decide +kernel
theorem dL_isSo_18 : decode cL_isSo 18 = .ok (.iaload, 1) := by decide +kernel
theorem dL_isSo_19 : decode cL_isSo 19 = .ok (.if_icmp .ne 45, 3) := by decide +kernel
theorem dL_isSo_22 : decode cL_isSo 22 = .ok (.aload_n 0, 1) := by decide +kernel
theorem dL_isSo_23 : decode cL_isSo 23 = .ok (.iconst 2, 1) := by decide +kernel
theorem dL_isSo_24 : decode cL_isSo 24 = .ok (.invokevirtual 71, 3) := by decide +kernel
theorem dL_isSo_27 : decode cL_isSo 27 = .ok (.aload_n 1, 1) := by decide +kernel
theorem dL_isSo_28 : decode cL_isSo 28 = .ok (.iconst 2, 1) := by decide +kernel
theorem dL_isSo_29 : decode cL_isSo 29 = .ok (.iaload, 1) := by decide +kernel
theorem dL_isSo_30 : decode cL_isSo 30 = .ok (.if_icmp .ne 34, 3) := by decide +kernel
theorem dL_isSo_33 : decode cL_isSo 33 = .ok (.aload_n 0, 1) := by decide +kernel
theorem dL_isSo_34 : decode cL_isSo 34 = .ok (.iconst 3, 1) := by decide +kernel
theorem dL_isSo_35 : decode cL_isSo 35 = .ok (.invokevirtual 71, 3) := by decide +kernel
theorem dL_isSo_38 : decode cL_isSo 38 = .ok (.ifCond .ne 26, 3) := by decide +kernel
theorem dL_isSo_41 : decode cL_isSo 41 = .ok (.aload_n 0, 1) := by decide +kernel
theorem dL_isSo_42 : decode cL_isSo 42 = .ok (.iconst 5, 1) := by decide +kernel
theorem dL_isSo_43 : decode cL_isSo 43 = .ok (.invokevirtual 71, 3) := by decide +kernel
theorem dL_isSo_46 : decode cL_isSo 46 = .ok (.ifCond .ne 18, 3) := by decide +kernel
theorem dL_isSo_49 : decode cL_isSo 49 = .ok (.aload_n 0, 1) := by decide +kernel
theorem dL_isSo_50 : decode cL_isSo 50 = .ok (.iconst 0, 1) := by decide +kernel
theorem dL_isSo_51 : decode cL_isSo 51 = .ok (.invokevirtual 74, 3) := by decide +kernel
theorem dL_isSo_54 : decode cL_isSo 54 = .ok (.aload_n 1, 1) := by decide +kernel
theorem dL_isSo_55 : decode cL_isSo 55 = .ok (.iconst 3, 1) := by decide +kernel
theorem dL_isSo_56 : decode cL_isSo 56 = .ok (.iaload, 1) := by decide +kernel
theorem dL_isSo_57 : decode cL_isSo 57 = .ok (.if_icmp .ne 7, 3) := by decide +kernel
theorem dL_isSo_60 : decode cL_isSo 60 = .ok (.iconst 1, 1) := by decide +kernel
theorem dL_isSo_61 : decode cL_isSo 61 = .ok (.goto 4, 3) := by decide +kernel
theorem dL_isSo_64 : decode cL_isSo 64 = .ok (.iconst 0, 1) := by decide +kernel
theorem dL_isSo_65 : decode cL_isSo 65 = .ok (.istore 7, 2) := by decide +kernel
theorem dL_isSo_67 : decode cL_isSo 67 = .ok (.iconst 4, 1) := by decide +kernel
theorem dL_isSo_68 : decode cL_isSo 68 = .ok (.newarray .int, 2) := by decide +kernel
theorem dL_isSo_70 : decode cL_isSo 70 = .ok (.astore 8, 2) := by decide +kernel
theorem dL_isSo_72 : decode cL_isSo 72 = .ok (.bipush 7, 2) := by decide +kernel
theorem dL_isSo_74 : decode cL_isSo 74 = .ok (.newarray .int, 2) := by decide +kernel
theorem dL_isSo_76 : decode cL_isSo 76 = .ok (.astore 9, 2) := by decide +kernel
theorem dL_isSo_78 : decode cL_isSo 78 = .ok (.iconst 0, 1) := by decide +kernel
theorem dL_isSo_79 : decode cL_isSo 79 = .ok (.istore 10, 2) := by decide +kernel
theorem dL_isSo_81 : decode cL_isSo 81 = .ok (.iload 10, 2) := by decide +kernel
theorem dL_isSo_83 : decode cL_isSo 83 = .ok (.aload_n 1, 1) := by decide +kernel
theorem dL_isSo_84 : decode cL_isSo 84 = .ok (.iconst 0, 1) := by decide +kernel
theorem dL_isSo_85 : decode cL_isSo 85 = .ok (.iaload, 1) := by decide +kernel
theorem dL_isSo_86 : decode cL_isSo 86 = .ok (.if_icmp .ge 121, 3) := by decide +kernel
theorem dL_isSo_89 : decode cL_isSo 89 = .ok (.iload 7, 2) := by decide +kernel
theorem dL_isSo_91 : decode cL_isSo 91 = .ok (.ifCond .eq 116, 3) := by decide +kernel
theorem dL_isSo_94 : decode cL_isSo 94 = .ok (.iconst 0, 1) := by decide +kernel
theorem dL_isSo_95 : decode cL_isSo 95 = .ok (.istore 11, 2) := by decide +kernel
theorem dL_isSo_97 : decode cL_isSo 97 = .ok (.iload 11, 2) := by decide +kernel
theorem dL_isSo_99 : decode cL_isSo 99 = .ok (.bipush 11, 2) := by decide +kernel
theorem dL_isSo_101 : decode cL_isSo 101 = .ok (.if_icmp .ge 42, 3) := by decide +kernel
theorem dL_isSo_104 : decode cL_isSo 104 = .ok (.iload 7, 2) := by decide +kernel
theorem dL_isSo_106 : decode cL_isSo 106 = .ok (.ifCond .eq 28, 3) := by decide +kernel
theorem dL_isSo_109 : decode cL_isSo 109 = .ok (.aload_n 0, 1) := by decide +kernel
theorem dL_isSo_110 : decode cL_isSo 110 = .ok (.iload 10, 2) := by decide +kernel
theorem dL_isSo_112 : decode cL_isSo 112 = .ok (.iload 11, 2) := by decide +kernel
theorem dL_isSo_114 : decode cL_isSo 114 = .ok (.invokevirtual 77, 3) := by decide +kernel
theorem dL_isSo_117 : decode cL_isSo 117 = .ok (.aload_n 3, 1) := by decide +kernel
theorem dL_isSo_118 : decode cL_isSo 118 = .ok (.bipush 11, 2) := by decide +kernel
theorem dL_isSo_120 : decode cL_isSo 120 = .ok (.iload 10, 2) := by decide +kernel
theorem dL_isSo_122 : decode cL_isSo 122 = .ok (.imul, 1) := by decide +kernel
theorem dL_isSo_123 : decode cL_isSo 123 = .ok (.iload 11, 2) := by decide +kernel
theorem dL_isSo_125 : decode cL_isSo 125 = .ok (.iadd, 1) := by decide +kernel
theorem dL_isSo_126 : decode cL_isSo 126 = .ok (.iaload, 1) := by decide +kernel
theorem dL_isSo_127 : decode cL_isSo 127 = .ok (.if_icmp .ne 7, 3) := by decide +kernel
theorem dL_isSo_130 : decode cL_isSo 130 = .ok (.iconst 1, 1) := by decide +kernel
theorem dL_isSo_131 : decode cL_isSo 131 = .ok (.goto 4, 3) := by decide +kernel
theorem dL_isSo_134 : decode cL_isSo 134 = .ok (.iconst 0, 1) := by decide +kernel
theorem dL_isSo_135 : decode cL_isSo 135 = .ok (.istore 7, 2) := by decide +kernel
theorem dL_isSo_137 : decode cL_isSo 137 = .ok (.iinc 11 1, 3) := by decide +kernel
theorem dL_isSo_140 : decode cL_isSo 140 = .ok (.goto (-43), 3) := by decide +kernel
theorem dL_isSo_143 : decode cL_isSo 143 = .ok (.aload_n 1, 1) := by decide +kernel
theorem dL_isSo_144 : decode cL_isSo 144 = .ok (.aload 4, 2) := by decide +kernel
theorem dL_isSo_146 : decode cL_isSo 146 = .ok (.iload 10, 2) := by decide +kernel
theorem dL_isSo_148 : decode cL_isSo 148 = .ok (.iconst 0, 1) := by decide +kernel
theorem dL_isSo_149 : decode cL_isSo 149 = .ok (.invokestatic 9, 3) := by decide +kernel
theorem dL_isSo_152 : decode cL_isSo 152 = .ok (.istore 11, 2) := by decide +kernel
theorem dL_isSo_154 : decode cL_isSo 154 = .ok (.iload 7, 2) := by decide +kernel
theorem dL_isSo_156 : decode cL_isSo 156 = .ok (.ifCond .eq 42, 3) := by decide +kernel
theorem dL_isSo_159 : decode cL_isSo 159 = .ok (.aload_n 0, 1) := by decide +kernel
theorem dL_isSo_160 : decode cL_isSo 160 = .ok (.iload 10, 2) := by decide +kernel
theorem dL_isSo_162 : decode cL_isSo 162 = .ok (.bipush 11, 2) := by decide +kernel
theorem dL_isSo_164 : decode cL_isSo 164 = .ok (.invokevirtual 77, 3) := by decide +kernel
theorem dL_isSo_167 : decode cL_isSo 167 = .ok (.iload 11, 2) := by decide +kernel
theorem dL_isSo_169 : decode cL_isSo 169 = .ok (.ifCond .ge 8, 3) := by decide +kernel
theorem dL_isSo_172 : decode cL_isSo 172 = .ok (.bipush (-9), 2) := by decide +kernel
theorem dL_isSo_174 : decode cL_isSo 174 = .ok (.goto 5, 3) := by decide +kernel
theorem dL_isSo_177 : decode cL_isSo 177 = .ok (.iload 11, 2) := by decide +kernel
theorem dL_isSo_179 : decode cL_isSo 179 = .ok (.if_icmp .ne 19, 3) := by decide +kernel
theorem dL_isSo_182 : decode cL_isSo 182 = .ok (.aload_n 0, 1) := by decide +kernel
theorem dL_isSo_183 : decode cL_isSo 183 = .ok (.iload 10, 2) := by decide +kernel
theorem dL_isSo_185 : decode cL_isSo 185 = .ok (.bipush 12, 2) := by decide +kernel
theorem dL_isSo_187 : decode cL_isSo 187 = .ok (.invokevirtual 77, 3) := by decide +kernel
theorem dL_isSo_190 : decode cL_isSo 190 = .ok (.iconst (-1), 1) := by decide +kernel
theorem dL_isSo_191 : decode cL_isSo 191 = .ok (.if_icmp .ne 7, 3) := by decide +kernel
theorem dL_isSo_194 : decode cL_isSo 194 = .ok (.iconst 1, 1) := by decide +kernel
theorem dL_isSo_195 : decode cL_isSo 195 = .ok (.goto 4, 3) := by decide +kernel
theorem dL_isSo_198 : decode cL_isSo 198 = .ok (.iconst 0, 1) := by decide +kernel
theorem dL_isSo_199 : decode cL_isSo 199 = .ok (.istore 7, 2) := by decide +kernel
theorem dL_isSo_201 : decode cL_isSo 201 = .ok (.iinc 10 1, 3) := by decide +kernel
theorem dL_isSo_204 : decode cL_isSo 204 = .ok (.goto (-123), 3) := by decide +kernel
theorem dL_isSo_207 : decode cL_isSo 207 = .ok (.iconst 0, 1) := by decide +kernel
theorem dL_isSo_208 : decode cL_isSo 208 = .ok (.istore 10, 2) := by decide +kernel
theorem dL_isSo_210 : decode cL_isSo 210 = .ok (.iload 10, 2) := by decide +kernel
theorem dL_isSo_212 : decode cL_isSo 212 = .ok (.aload_n 1, 1) := by decide +kernel
theorem dL_isSo_213 : decode cL_isSo 213 = .ok (.iconst 1, 1) := by decide +kernel
theorem dL_isSo_214 : decode cL_isSo 214 = .ok (.iaload, 1) := by decide +kernel
theorem dL_isSo_215 : decode cL_isSo 215 = .ok (.if_icmp .ge 336, 3) := by decide +kernel
theorem dL_isSo_218 : decode cL_isSo 218 = .ok (.iload 7, 2) := by decide +kernel
theorem dL_isSo_220 : decode cL_isSo 220 = .ok (.ifCond .eq 331, 3) := by decide +kernel
theorem dL_isSo_223 : decode cL_isSo 223 = .ok (.iconst 0, 1) := by decide +kernel
theorem dL_isSo_224 : decode cL_isSo 224 = .ok (.istore 11, 2) := by decide +kernel
theorem dL_isSo_226 : decode cL_isSo 226 = .ok (.aload_n 1, 1) := by decide +kernel
theorem dL_isSo_227 : decode cL_isSo 227 = .ok (.aload 4, 2) := by decide +kernel
theorem dL_isSo_229 : decode cL_isSo 229 = .ok (.aload 5, 2) := by decide +kernel
theorem dL_isSo_231 : decode cL_isSo 231 = .ok (.iload 10, 2) := by decide +kernel
theorem dL_isSo_233 : decode cL_isSo 233 = .ok (.invokestatic 55, 3) := by decide +kernel
theorem dL_isSo_236 : decode cL_isSo 236 = .ok (.istore 12, 2) := by decide +kernel
theorem dL_isSo_238 : decode cL_isSo 238 = .ok (.iconst 0, 1) := by decide +kernel
theorem dL_isSo_239 : decode cL_isSo 239 = .ok (.istore 13, 2) := by decide +kernel
theorem dL_isSo_241 : decode cL_isSo 241 = .ok (.iload 13, 2) := by decide +kernel
theorem dL_isSo_243 : decode cL_isSo 243 = .ok (.aload_n 1, 1) := by decide +kernel
theorem dL_isSo_244 : decode cL_isSo 244 = .ok (.iconst 1, 1) := by decide +kernel
theorem dL_isSo_245 : decode cL_isSo 245 = .ok (.iaload, 1) := by decide +kernel
theorem dL_isSo_246 : decode cL_isSo 246 = .ok (.if_icmp .ge 45, 3) := by decide +kernel
theorem dL_isSo_249 : decode cL_isSo 249 = .ok (.iload 11, 2) := by decide +kernel
theorem dL_isSo_251 : decode cL_isSo 251 = .ok (.aload 5, 2) := by decide +kernel
theorem dL_isSo_253 : decode cL_isSo 253 = .ok (.iconst 4, 1) := by decide +kernel
theorem dL_isSo_254 : decode cL_isSo 254 = .ok (.iload 13, 2) := by decide +kernel
theorem dL_isSo_256 : decode cL_isSo 256 = .ok (.imul, 1) := by decide +kernel
theorem dL_isSo_257 : decode cL_isSo 257 = .ok (.iconst 2, 1) := by decide +kernel
theorem dL_isSo_258 : decode cL_isSo 258 = .ok (.iadd, 1) := by decide +kernel
theorem dL_isSo_259 : decode cL_isSo 259 = .ok (.iaload, 1) := by decide +kernel
theorem dL_isSo_260 : decode cL_isSo 260 = .ok (.iload 10, 2) := by decide +kernel
theorem dL_isSo_262 : decode cL_isSo 262 = .ok (.if_icmp .ne 19, 3) := by decide +kernel
theorem dL_isSo_265 : decode cL_isSo 265 = .ok (.aload 5, 2) := by decide +kernel
theorem dL_isSo_267 : decode cL_isSo 267 = .ok (.iconst 4, 1) := by decide +kernel
theorem dL_isSo_268 : decode cL_isSo 268 = .ok (.iload 13, 2) := by decide +kernel
theorem dL_isSo_270 : decode cL_isSo 270 = .ok (.imul, 1) := by decide +kernel
theorem dL_isSo_271 : decode cL_isSo 271 = .ok (.iconst 1, 1) := by decide +kernel
theorem dL_isSo_272 : decode cL_isSo 272 = .ok (.iadd, 1) := by decide +kernel
theorem dL_isSo_273 : decode cL_isSo 273 = .ok (.iaload, 1) := by decide +kernel
theorem dL_isSo_274 : decode cL_isSo 274 = .ok (.ifCond .le 7, 3) := by decide +kernel
theorem dL_isSo_277 : decode cL_isSo 277 = .ok (.iconst 1, 1) := by decide +kernel
theorem dL_isSo_278 : decode cL_isSo 278 = .ok (.goto 4, 3) := by decide +kernel
theorem dL_isSo_281 : decode cL_isSo 281 = .ok (.iconst 0, 1) := by decide +kernel
theorem dL_isSo_282 : decode cL_isSo 282 = .ok (.iadd, 1) := by decide +kernel
theorem dL_isSo_283 : decode cL_isSo 283 = .ok (.istore 11, 2) := by decide +kernel
theorem dL_isSo_285 : decode cL_isSo 285 = .ok (.iinc 13 1, 3) := by decide +kernel
theorem dL_isSo_288 : decode cL_isSo 288 = .ok (.goto (-47), 3) := by decide +kernel
theorem dL_isSo_291 : decode cL_isSo 291 = .ok (.iconst 0, 1) := by decide +kernel
theorem dL_isSo_292 : decode cL_isSo 292 = .ok (.istore 13, 2) := by decide +kernel
theorem dL_isSo_294 : decode cL_isSo 294 = .ok (.iload 13, 2) := by decide +kernel
theorem dL_isSo_296 : decode cL_isSo 296 = .ok (.bipush 6, 2) := by decide +kernel
theorem dL_isSo_298 : decode cL_isSo 298 = .ok (.if_icmp .ge 43, 3) := by decide +kernel
theorem dL_isSo_301 : decode cL_isSo 301 = .ok (.iload 7, 2) := by decide +kernel
theorem dL_isSo_303 : decode cL_isSo 303 = .ok (.ifCond .eq 29, 3) := by decide +kernel
theorem dL_isSo_306 : decode cL_isSo 306 = .ok (.aload_n 0, 1) := by decide +kernel
theorem dL_isSo_307 : decode cL_isSo 307 = .ok (.iload 10, 2) := by decide +kernel
theorem dL_isSo_309 : decode cL_isSo 309 = .ok (.iload 13, 2) := by decide +kernel
theorem dL_isSo_311 : decode cL_isSo 311 = .ok (.invokevirtual 80, 3) := by decide +kernel
theorem dL_isSo_314 : decode cL_isSo 314 = .ok (.aload 4, 2) := by decide +kernel
theorem dL_isSo_316 : decode cL_isSo 316 = .ok (.bipush 9, 2) := by decide +kernel
theorem dL_isSo_318 : decode cL_isSo 318 = .ok (.iload 10, 2) := by decide +kernel
theorem dL_isSo_320 : decode cL_isSo 320 = .ok (.imul, 1) := by decide +kernel
theorem dL_isSo_321 : decode cL_isSo 321 = .ok (.iload 13, 2) := by decide +kernel
theorem dL_isSo_323 : decode cL_isSo 323 = .ok (.iadd, 1) := by decide +kernel
theorem dL_isSo_324 : decode cL_isSo 324 = .ok (.iaload, 1) := by decide +kernel
theorem dL_isSo_325 : decode cL_isSo 325 = .ok (.if_icmp .ne 7, 3) := by decide +kernel
theorem dL_isSo_328 : decode cL_isSo 328 = .ok (.iconst 1, 1) := by decide +kernel
theorem dL_isSo_329 : decode cL_isSo 329 = .ok (.goto 4, 3) := by decide +kernel
theorem dL_isSo_332 : decode cL_isSo 332 = .ok (.iconst 0, 1) := by decide +kernel
theorem dL_isSo_333 : decode cL_isSo 333 = .ok (.istore 7, 2) := by decide +kernel
theorem dL_isSo_335 : decode cL_isSo 335 = .ok (.iinc 13 1, 3) := by decide +kernel
theorem dL_isSo_338 : decode cL_isSo 338 = .ok (.goto (-44), 3) := by decide +kernel
theorem dL_isSo_341 : decode cL_isSo 341 = .ok (.iload 7, 2) := by decide +kernel
theorem dL_isSo_343 : decode cL_isSo 343 = .ok (.ifCond .eq 110, 3) := by decide +kernel
theorem dL_isSo_346 : decode cL_isSo 346 = .ok (.aload_n 0, 1) := by decide +kernel
theorem dL_isSo_347 : decode cL_isSo 347 = .ok (.iload 10, 2) := by decide +kernel
theorem dL_isSo_349 : decode cL_isSo 349 = .ok (.bipush 6, 2) := by decide +kernel
theorem dL_isSo_351 : decode cL_isSo 351 = .ok (.invokevirtual 80, 3) := by decide +kernel
theorem dL_isSo_354 : decode cL_isSo 354 = .ok (.iload 12, 2) := by decide +kernel
theorem dL_isSo_356 : decode cL_isSo 356 = .ok (.aload 4, 2) := by decide +kernel
theorem dL_isSo_358 : decode cL_isSo 358 = .ok (.bipush 9, 2) := by decide +kernel
theorem dL_isSo_360 : decode cL_isSo 360 = .ok (.iload 10, 2) := by decide +kernel
theorem dL_isSo_362 : decode cL_isSo 362 = .ok (.imul, 1) := by decide +kernel
theorem dL_isSo_363 : decode cL_isSo 363 = .ok (.iconst 5, 1) := by decide +kernel
theorem dL_isSo_364 : decode cL_isSo 364 = .ok (.iadd, 1) := by decide +kernel
theorem dL_isSo_365 : decode cL_isSo 365 = .ok (.iaload, 1) := by decide +kernel
theorem dL_isSo_366 : decode cL_isSo 366 = .ok (.isub, 1) := by decide +kernel
theorem dL_isSo_367 : decode cL_isSo 367 = .ok (.if_icmp .ne 86, 3) := by decide +kernel
theorem dL_isSo_370 : decode cL_isSo 370 = .ok (.aload_n 0, 1) := by decide +kernel
theorem dL_isSo_371 : decode cL_isSo 371 = .ok (.iload 10, 2) := by decide +kernel
theorem dL_isSo_373 : decode cL_isSo 373 = .ok (.bipush 7, 2) := by decide +kernel
theorem dL_isSo_375 : decode cL_isSo 375 = .ok (.invokevirtual 80, 3) := by decide +kernel
theorem dL_isSo_378 : decode cL_isSo 378 = .ok (.aload 4, 2) := by decide +kernel
theorem dL_isSo_380 : decode cL_isSo 380 = .ok (.bipush 9, 2) := by decide +kernel
theorem dL_isSo_382 : decode cL_isSo 382 = .ok (.iload 10, 2) := by decide +kernel
theorem dL_isSo_384 : decode cL_isSo 384 = .ok (.imul, 1) := by decide +kernel
theorem dL_isSo_385 : decode cL_isSo 385 = .ok (.bipush 6, 2) := by decide +kernel
theorem dL_isSo_387 : decode cL_isSo 387 = .ok (.iadd, 1) := by decide +kernel
theorem dL_isSo_388 : decode cL_isSo 388 = .ok (.iaload, 1) := by decide +kernel
theorem dL_isSo_389 : decode cL_isSo 389 = .ok (.if_icmp .ne 64, 3) := by decide +kernel
theorem dL_isSo_392 : decode cL_isSo 392 = .ok (.aload_n 0, 1) := by decide +kernel
theorem dL_isSo_393 : decode cL_isSo 393 = .ok (.iload 10, 2) := by decide +kernel
theorem dL_isSo_395 : decode cL_isSo 395 = .ok (.bipush 8, 2) := by decide +kernel
theorem dL_isSo_397 : decode cL_isSo 397 = .ok (.invokevirtual 80, 3) := by decide +kernel
theorem dL_isSo_400 : decode cL_isSo 400 = .ok (.aload 4, 2) := by decide +kernel
theorem dL_isSo_402 : decode cL_isSo 402 = .ok (.bipush 9, 2) := by decide +kernel
theorem dL_isSo_404 : decode cL_isSo 404 = .ok (.iload 10, 2) := by decide +kernel
theorem dL_isSo_406 : decode cL_isSo 406 = .ok (.imul, 1) := by decide +kernel
theorem dL_isSo_407 : decode cL_isSo 407 = .ok (.bipush 7, 2) := by decide +kernel
theorem dL_isSo_409 : decode cL_isSo 409 = .ok (.iadd, 1) := by decide +kernel
theorem dL_isSo_410 : decode cL_isSo 410 = .ok (.iaload, 1) := by decide +kernel
theorem dL_isSo_411 : decode cL_isSo 411 = .ok (.if_icmp .ne 42, 3) := by decide +kernel
theorem dL_isSo_414 : decode cL_isSo 414 = .ok (.aload_n 0, 1) := by decide +kernel
theorem dL_isSo_415 : decode cL_isSo 415 = .ok (.iload 10, 2) := by decide +kernel
theorem dL_isSo_417 : decode cL_isSo 417 = .ok (.bipush 9, 2) := by decide +kernel
theorem dL_isSo_419 : decode cL_isSo 419 = .ok (.invokevirtual 80, 3) := by decide +kernel
theorem dL_isSo_422 : decode cL_isSo 422 = .ok (.aload 4, 2) := by decide +kernel
theorem dL_isSo_424 : decode cL_isSo 424 = .ok (.bipush 9, 2) := by decide +kernel
theorem dL_isSo_426 : decode cL_isSo 426 = .ok (.iload 10, 2) := by decide +kernel
theorem dL_isSo_428 : decode cL_isSo 428 = .ok (.imul, 1) := by decide +kernel
theorem dL_isSo_429 : decode cL_isSo 429 = .ok (.bipush 8, 2) := by decide +kernel
theorem dL_isSo_431 : decode cL_isSo 431 = .ok (.iadd, 1) := by decide +kernel
theorem dL_isSo_432 : decode cL_isSo 432 = .ok (.iaload, 1) := by decide +kernel
theorem dL_isSo_433 : decode cL_isSo 433 = .ok (.if_icmp .ne 20, 3) := by decide +kernel
theorem dL_isSo_436 : decode cL_isSo 436 = .ok (.aload_n 0, 1) := by decide +kernel
theorem dL_isSo_437 : decode cL_isSo 437 = .ok (.iload 10, 2) := by decide +kernel
theorem dL_isSo_439 : decode cL_isSo 439 = .ok (.bipush 10, 2) := by decide +kernel
theorem dL_isSo_441 : decode cL_isSo 441 = .ok (.invokevirtual 80, 3) := by decide +kernel
theorem dL_isSo_444 : decode cL_isSo 444 = .ok (.iload 11, 2) := by decide +kernel
theorem dL_isSo_446 : decode cL_isSo 446 = .ok (.if_icmp .ne 7, 3) := by decide +kernel
theorem dL_isSo_449 : decode cL_isSo 449 = .ok (.iconst 1, 1) := by decide +kernel
theorem dL_isSo_450 : decode cL_isSo 450 = .ok (.goto 4, 3) := by decide +kernel
theorem dL_isSo_453 : decode cL_isSo 453 = .ok (.iconst 0, 1) := by decide +kernel
theorem dL_isSo_454 : decode cL_isSo 454 = .ok (.istore 7, 2) := by decide +kernel
theorem dL_isSo_456 : decode cL_isSo 456 = .ok (.aload 8, 2) := by decide +kernel
theorem dL_isSo_458 : decode cL_isSo 458 = .ok (.aload 4, 2) := by decide +kernel
theorem dL_isSo_460 : decode cL_isSo 460 = .ok (.bipush 9, 2) := by decide +kernel
theorem dL_isSo_462 : decode cL_isSo 462 = .ok (.iload 10, 2) := by decide +kernel
theorem dL_isSo_464 : decode cL_isSo 464 = .ok (.imul, 1) := by decide +kernel
theorem dL_isSo_465 : decode cL_isSo 465 = .ok (.iconst 3, 1) := by decide +kernel
theorem dL_isSo_466 : decode cL_isSo 466 = .ok (.iadd, 1) := by decide +kernel
theorem dL_isSo_467 : decode cL_isSo 467 = .ok (.iaload, 1) := by decide +kernel
theorem dL_isSo_468 : decode cL_isSo 468 = .ok (.dup2, 1) := by decide +kernel
theorem dL_isSo_469 : decode cL_isSo 469 = .ok (.iaload, 1) := by decide +kernel
theorem dL_isSo_470 : decode cL_isSo 470 = .ok (.iconst 1, 1) := by decide +kernel
theorem dL_isSo_471 : decode cL_isSo 471 = .ok (.iadd, 1) := by decide +kernel
theorem dL_isSo_472 : decode cL_isSo 472 = .ok (.iastore, 1) := by decide +kernel
theorem dL_isSo_473 : decode cL_isSo 473 = .ok (.aload 9, 2) := by decide +kernel
theorem dL_isSo_475 : decode cL_isSo 475 = .ok (.iconst 2, 1) := by decide +kernel
theorem dL_isSo_476 : decode cL_isSo 476 = .ok (.dup2, 1) := by decide +kernel
theorem dL_isSo_477 : decode cL_isSo 477 = .ok (.iaload, 1) := by decide +kernel
theorem dL_isSo_478 : decode cL_isSo 478 = .ok (.aload 4, 2) := by decide +kernel
theorem dL_isSo_480 : decode cL_isSo 480 = .ok (.bipush 9, 2) := by decide +kernel
theorem dL_isSo_482 : decode cL_isSo 482 = .ok (.iload 10, 2) := by decide +kernel
theorem dL_isSo_484 : decode cL_isSo 484 = .ok (.imul, 1) := by decide +kernel
theorem dL_isSo_485 : decode cL_isSo 485 = .ok (.iconst 4, 1) := by decide +kernel
theorem dL_isSo_486 : decode cL_isSo 486 = .ok (.iadd, 1) := by decide +kernel
theorem dL_isSo_487 : decode cL_isSo 487 = .ok (.iaload, 1) := by decide +kernel
theorem dL_isSo_488 : decode cL_isSo 488 = .ok (.iadd, 1) := by decide +kernel
theorem dL_isSo_489 : decode cL_isSo 489 = .ok (.iastore, 1) := by decide +kernel
theorem dL_isSo_490 : decode cL_isSo 490 = .ok (.aload 9, 2) := by decide +kernel
theorem dL_isSo_492 : decode cL_isSo 492 = .ok (.iconst 3, 1) := by decide +kernel
theorem dL_isSo_493 : decode cL_isSo 493 = .ok (.dup2, 1) := by decide +kernel
theorem dL_isSo_494 : decode cL_isSo 494 = .ok (.iaload, 1) := by decide +kernel
theorem dL_isSo_495 : decode cL_isSo 495 = .ok (.aload 4, 2) := by decide +kernel
theorem dL_isSo_497 : decode cL_isSo 497 = .ok (.bipush 9, 2) := by decide +kernel
theorem dL_isSo_499 : decode cL_isSo 499 = .ok (.iload 10, 2) := by decide +kernel
theorem dL_isSo_501 : decode cL_isSo 501 = .ok (.imul, 1) := by decide +kernel
theorem dL_isSo_502 : decode cL_isSo 502 = .ok (.bipush 6, 2) := by decide +kernel
theorem dL_isSo_504 : decode cL_isSo 504 = .ok (.iadd, 1) := by decide +kernel
theorem dL_isSo_505 : decode cL_isSo 505 = .ok (.iaload, 1) := by decide +kernel
theorem dL_isSo_506 : decode cL_isSo 506 = .ok (.iadd, 1) := by decide +kernel
theorem dL_isSo_507 : decode cL_isSo 507 = .ok (.iastore, 1) := by decide +kernel
theorem dL_isSo_508 : decode cL_isSo 508 = .ok (.aload 9, 2) := by decide +kernel
theorem dL_isSo_510 : decode cL_isSo 510 = .ok (.iconst 4, 1) := by decide +kernel
theorem dL_isSo_511 : decode cL_isSo 511 = .ok (.dup2, 1) := by decide +kernel
theorem dL_isSo_512 : decode cL_isSo 512 = .ok (.iaload, 1) := by decide +kernel
theorem dL_isSo_513 : decode cL_isSo 513 = .ok (.aload 4, 2) := by decide +kernel
theorem dL_isSo_515 : decode cL_isSo 515 = .ok (.bipush 9, 2) := by decide +kernel
theorem dL_isSo_517 : decode cL_isSo 517 = .ok (.iload 10, 2) := by decide +kernel
theorem dL_isSo_519 : decode cL_isSo 519 = .ok (.imul, 1) := by decide +kernel
theorem dL_isSo_520 : decode cL_isSo 520 = .ok (.iconst 5, 1) := by decide +kernel
theorem dL_isSo_521 : decode cL_isSo 521 = .ok (.iadd, 1) := by decide +kernel
theorem dL_isSo_522 : decode cL_isSo 522 = .ok (.iaload, 1) := by decide +kernel
theorem dL_isSo_523 : decode cL_isSo 523 = .ok (.iadd, 1) := by decide +kernel
theorem dL_isSo_524 : decode cL_isSo 524 = .ok (.iastore, 1) := by decide +kernel
theorem dL_isSo_525 : decode cL_isSo 525 = .ok (.aload 9, 2) := by decide +kernel
theorem dL_isSo_527 : decode cL_isSo 527 = .ok (.iconst 5, 1) := by decide +kernel
theorem dL_isSo_528 : decode cL_isSo 528 = .ok (.dup2, 1) := by decide +kernel
theorem dL_isSo_529 : decode cL_isSo 529 = .ok (.iaload, 1) := by decide +kernel
theorem dL_isSo_530 : decode cL_isSo 530 = .ok (.iload 12, 2) := by decide +kernel
theorem dL_isSo_532 : decode cL_isSo 532 = .ok (.aload 4, 2) := by decide +kernel
theorem dL_isSo_534 : decode cL_isSo 534 = .ok (.bipush 9, 2) := by decide +kernel
theorem dL_isSo_536 : decode cL_isSo 536 = .ok (.iload 10, 2) := by decide +kernel
theorem dL_isSo_538 : decode cL_isSo 538 = .ok (.imul, 1) := by decide +kernel
theorem dL_isSo_539 : decode cL_isSo 539 = .ok (.iconst 5, 1) := by decide +kernel
theorem dL_isSo_540 : decode cL_isSo 540 = .ok (.iadd, 1) := by decide +kernel
theorem dL_isSo_541 : decode cL_isSo 541 = .ok (.iaload, 1) := by decide +kernel
theorem dL_isSo_542 : decode cL_isSo 542 = .ok (.isub, 1) := by decide +kernel
theorem dL_isSo_543 : decode cL_isSo 543 = .ok (.iadd, 1) := by decide +kernel
theorem dL_isSo_544 : decode cL_isSo 544 = .ok (.iastore, 1) := by decide +kernel
theorem dL_isSo_545 : decode cL_isSo 545 = .ok (.iinc 10 1, 3) := by decide +kernel
theorem dL_isSo_548 : decode cL_isSo 548 = .ok (.goto (-338), 3) := by decide +kernel
theorem dL_isSo_551 : decode cL_isSo 551 = .ok (.iconst 0, 1) := by decide +kernel
theorem dL_isSo_552 : decode cL_isSo 552 = .ok (.istore 10, 2) := by decide +kernel
theorem dL_isSo_554 : decode cL_isSo 554 = .ok (.iload 10, 2) := by decide +kernel
theorem dL_isSo_556 : decode cL_isSo 556 = .ok (.aload_n 1, 1) := by decide +kernel
theorem dL_isSo_557 : decode cL_isSo 557 = .ok (.iconst 2, 1) := by decide +kernel
theorem dL_isSo_558 : decode cL_isSo 558 = .ok (.iaload, 1) := by decide +kernel
theorem dL_isSo_559 : decode cL_isSo 559 = .ok (.if_icmp .ge 205, 3) := by decide +kernel
theorem dL_isSo_562 : decode cL_isSo 562 = .ok (.iload 7, 2) := by decide +kernel
theorem dL_isSo_564 : decode cL_isSo 564 = .ok (.ifCond .eq 200, 3) := by decide +kernel
theorem dL_isSo_567 : decode cL_isSo 567 = .ok (.iconst 0, 1) := by decide +kernel
theorem dL_isSo_568 : decode cL_isSo 568 = .ok (.istore 11, 2) := by decide +kernel
theorem dL_isSo_570 : decode cL_isSo 570 = .ok (.iconst 0, 1) := by decide +kernel
theorem dL_isSo_571 : decode cL_isSo 571 = .ok (.istore 12, 2) := by decide +kernel
theorem dL_isSo_573 : decode cL_isSo 573 = .ok (.iload 12, 2) := by decide +kernel
theorem dL_isSo_575 : decode cL_isSo 575 = .ok (.aload_n 1, 1) := by decide +kernel
theorem dL_isSo_576 : decode cL_isSo 576 = .ok (.iconst 1, 1) := by decide +kernel
theorem dL_isSo_577 : decode cL_isSo 577 = .ok (.iaload, 1) := by decide +kernel
theorem dL_isSo_578 : decode cL_isSo 578 = .ok (.if_icmp .ge 94, 3) := by decide +kernel
theorem dL_isSo_581 : decode cL_isSo 581 = .ok (.iconst 0, 1) := by decide +kernel
theorem dL_isSo_582 : decode cL_isSo 582 = .ok (.istore 13, 2) := by decide +kernel
theorem dL_isSo_584 : decode cL_isSo 584 = .ok (.iconst 0, 1) := by decide +kernel
theorem dL_isSo_585 : decode cL_isSo 585 = .ok (.istore 14, 2) := by decide +kernel
theorem dL_isSo_587 : decode cL_isSo 587 = .ok (.iload 14, 2) := by decide +kernel
theorem dL_isSo_589 : decode cL_isSo 589 = .ok (.aload_n 1, 1) := by decide +kernel
theorem dL_isSo_590 : decode cL_isSo 590 = .ok (.iconst 1, 1) := by decide +kernel
theorem dL_isSo_591 : decode cL_isSo 591 = .ok (.iaload, 1) := by decide +kernel
theorem dL_isSo_592 : decode cL_isSo 592 = .ok (.if_icmp .ge 59, 3) := by decide +kernel
theorem dL_isSo_595 : decode cL_isSo 595 = .ok (.iload 13, 2) := by decide +kernel
theorem dL_isSo_597 : decode cL_isSo 597 = .ok (.ifCond .ne 41, 3) := by decide +kernel
theorem dL_isSo_600 : decode cL_isSo 600 = .ok (.aload 5, 2) := by decide +kernel
theorem dL_isSo_602 : decode cL_isSo 602 = .ok (.iconst 4, 1) := by decide +kernel
theorem dL_isSo_603 : decode cL_isSo 603 = .ok (.iload 14, 2) := by decide +kernel
theorem dL_isSo_605 : decode cL_isSo 605 = .ok (.imul, 1) := by decide +kernel
theorem dL_isSo_606 : decode cL_isSo 606 = .ok (.iconst 2, 1) := by decide +kernel
theorem dL_isSo_607 : decode cL_isSo 607 = .ok (.iadd, 1) := by decide +kernel
theorem dL_isSo_608 : decode cL_isSo 608 = .ok (.iaload, 1) := by decide +kernel
theorem dL_isSo_609 : decode cL_isSo 609 = .ok (.iload 12, 2) := by decide +kernel
theorem dL_isSo_611 : decode cL_isSo 611 = .ok (.if_icmp .ne 31, 3) := by decide +kernel
theorem dL_isSo_614 : decode cL_isSo 614 = .ok (.aload 5, 2) := by decide +kernel
theorem dL_isSo_616 : decode cL_isSo 616 = .ok (.iconst 4, 1) := by decide +kernel
theorem dL_isSo_617 : decode cL_isSo 617 = .ok (.iload 14, 2) := by decide +kernel
theorem dL_isSo_619 : decode cL_isSo 619 = .ok (.imul, 1) := by decide +kernel
theorem dL_isSo_620 : decode cL_isSo 620 = .ok (.iaload, 1) := by decide +kernel
theorem dL_isSo_621 : decode cL_isSo 621 = .ok (.iload 10, 2) := by decide +kernel
theorem dL_isSo_623 : decode cL_isSo 623 = .ok (.if_icmp .ne 19, 3) := by decide +kernel
theorem dL_isSo_626 : decode cL_isSo 626 = .ok (.aload 5, 2) := by decide +kernel
theorem dL_isSo_628 : decode cL_isSo 628 = .ok (.iconst 4, 1) := by decide +kernel
theorem dL_isSo_629 : decode cL_isSo 629 = .ok (.iload 14, 2) := by decide +kernel
theorem dL_isSo_631 : decode cL_isSo 631 = .ok (.imul, 1) := by decide +kernel
theorem dL_isSo_632 : decode cL_isSo 632 = .ok (.iconst 1, 1) := by decide +kernel
theorem dL_isSo_633 : decode cL_isSo 633 = .ok (.iadd, 1) := by decide +kernel
theorem dL_isSo_634 : decode cL_isSo 634 = .ok (.iaload, 1) := by decide +kernel
theorem dL_isSo_635 : decode cL_isSo 635 = .ok (.ifCond .le 7, 3) := by decide +kernel
theorem dL_isSo_638 : decode cL_isSo 638 = .ok (.iconst 1, 1) := by decide +kernel
theorem dL_isSo_639 : decode cL_isSo 639 = .ok (.goto 4, 3) := by decide +kernel
theorem dL_isSo_642 : decode cL_isSo 642 = .ok (.iconst 0, 1) := by decide +kernel
theorem dL_isSo_643 : decode cL_isSo 643 = .ok (.istore 13, 2) := by decide +kernel
theorem dL_isSo_645 : decode cL_isSo 645 = .ok (.iinc 14 1, 3) := by decide +kernel
theorem dL_isSo_648 : decode cL_isSo 648 = .ok (.goto (-61), 3) := by decide +kernel
theorem dL_isSo_651 : decode cL_isSo 651 = .ok (.iload 11, 2) := by decide +kernel
theorem dL_isSo_653 : decode cL_isSo 653 = .ok (.iload 13, 2) := by decide +kernel
theorem dL_isSo_655 : decode cL_isSo 655 = .ok (.ifCond .eq 7, 3) := by decide +kernel
theorem dL_isSo_658 : decode cL_isSo 658 = .ok (.iconst 1, 1) := by decide +kernel
theorem dL_isSo_659 : decode cL_isSo 659 = .ok (.goto 4, 3) := by decide +kernel
theorem dL_isSo_662 : decode cL_isSo 662 = .ok (.iconst 0, 1) := by decide +kernel
theorem dL_isSo_663 : decode cL_isSo 663 = .ok (.iadd, 1) := by decide +kernel
theorem dL_isSo_664 : decode cL_isSo 664 = .ok (.istore 11, 2) := by decide +kernel
theorem dL_isSo_666 : decode cL_isSo 666 = .ok (.iinc 12 1, 3) := by decide +kernel
theorem dL_isSo_669 : decode cL_isSo 669 = .ok (.goto (-96), 3) := by decide +kernel
theorem dL_isSo_672 : decode cL_isSo 672 = .ok (.aload 9, 2) := by decide +kernel
theorem dL_isSo_674 : decode cL_isSo 674 = .ok (.iconst 1, 1) := by decide +kernel
theorem dL_isSo_675 : decode cL_isSo 675 = .ok (.dup2, 1) := by decide +kernel
theorem dL_isSo_676 : decode cL_isSo 676 = .ok (.iaload, 1) := by decide +kernel
theorem dL_isSo_677 : decode cL_isSo 677 = .ok (.aload 6, 2) := by decide +kernel
theorem dL_isSo_679 : decode cL_isSo 679 = .ok (.iconst 2, 1) := by decide +kernel
theorem dL_isSo_680 : decode cL_isSo 680 = .ok (.iload 10, 2) := by decide +kernel
theorem dL_isSo_682 : decode cL_isSo 682 = .ok (.imul, 1) := by decide +kernel
theorem dL_isSo_683 : decode cL_isSo 683 = .ok (.iconst 1, 1) := by decide +kernel
theorem dL_isSo_684 : decode cL_isSo 684 = .ok (.iadd, 1) := by decide +kernel
theorem dL_isSo_685 : decode cL_isSo 685 = .ok (.iaload, 1) := by decide +kernel
theorem dL_isSo_686 : decode cL_isSo 686 = .ok (.iadd, 1) := by decide +kernel
theorem dL_isSo_687 : decode cL_isSo 687 = .ok (.iastore, 1) := by decide +kernel
theorem dL_isSo_688 : decode cL_isSo 688 = .ok (.aload 9, 2) := by decide +kernel
theorem dL_isSo_690 : decode cL_isSo 690 = .ok (.bipush 6, 2) := by decide +kernel
theorem dL_isSo_692 : decode cL_isSo 692 = .ok (.dup2, 1) := by decide +kernel
theorem dL_isSo_693 : decode cL_isSo 693 = .ok (.iaload, 1) := by decide +kernel
theorem dL_isSo_694 : decode cL_isSo 694 = .ok (.aload 6, 2) := by decide +kernel
theorem dL_isSo_696 : decode cL_isSo 696 = .ok (.iconst 2, 1) := by decide +kernel
theorem dL_isSo_697 : decode cL_isSo 697 = .ok (.iload 10, 2) := by decide +kernel
theorem dL_isSo_699 : decode cL_isSo 699 = .ok (.imul, 1) := by decide +kernel
theorem dL_isSo_700 : decode cL_isSo 700 = .ok (.iaload, 1) := by decide +kernel
theorem dL_isSo_701 : decode cL_isSo 701 = .ok (.iadd, 1) := by decide +kernel
theorem dL_isSo_702 : decode cL_isSo 702 = .ok (.iastore, 1) := by decide +kernel
theorem dL_isSo_703 : decode cL_isSo 703 = .ok (.aload_n 0, 1) := by decide +kernel
theorem dL_isSo_704 : decode cL_isSo 704 = .ok (.iload 10, 2) := by decide +kernel
theorem dL_isSo_706 : decode cL_isSo 706 = .ok (.iconst 0, 1) := by decide +kernel
theorem dL_isSo_707 : decode cL_isSo 707 = .ok (.invokevirtual 83, 3) := by decide +kernel
theorem dL_isSo_710 : decode cL_isSo 710 = .ok (.aload 6, 2) := by decide +kernel
theorem dL_isSo_712 : decode cL_isSo 712 = .ok (.iconst 2, 1) := by decide +kernel
theorem dL_isSo_713 : decode cL_isSo 713 = .ok (.iload 10, 2) := by decide +kernel
theorem dL_isSo_715 : decode cL_isSo 715 = .ok (.imul, 1) := by decide +kernel
theorem dL_isSo_716 : decode cL_isSo 716 = .ok (.iaload, 1) := by decide +kernel
theorem dL_isSo_717 : decode cL_isSo 717 = .ok (.if_icmp .ne 38, 3) := by decide +kernel
theorem dL_isSo_720 : decode cL_isSo 720 = .ok (.aload_n 0, 1) := by decide +kernel
theorem dL_isSo_721 : decode cL_isSo 721 = .ok (.iload 10, 2) := by decide +kernel
theorem dL_isSo_723 : decode cL_isSo 723 = .ok (.iconst 1, 1) := by decide +kernel
theorem dL_isSo_724 : decode cL_isSo 724 = .ok (.invokevirtual 83, 3) := by decide +kernel
theorem dL_isSo_727 : decode cL_isSo 727 = .ok (.aload 6, 2) := by decide +kernel
theorem dL_isSo_729 : decode cL_isSo 729 = .ok (.iconst 2, 1) := by decide +kernel
theorem dL_isSo_730 : decode cL_isSo 730 = .ok (.iload 10, 2) := by decide +kernel
theorem dL_isSo_732 : decode cL_isSo 732 = .ok (.imul, 1) := by decide +kernel
theorem dL_isSo_733 : decode cL_isSo 733 = .ok (.iconst 1, 1) := by decide +kernel
theorem dL_isSo_734 : decode cL_isSo 734 = .ok (.iadd, 1) := by decide +kernel
theorem dL_isSo_735 : decode cL_isSo 735 = .ok (.iaload, 1) := by decide +kernel
theorem dL_isSo_736 : decode cL_isSo 736 = .ok (.if_icmp .ne 19, 3) := by decide +kernel
theorem dL_isSo_739 : decode cL_isSo 739 = .ok (.aload_n 0, 1) := by decide +kernel
theorem dL_isSo_740 : decode cL_isSo 740 = .ok (.iload 10, 2) := by decide +kernel
theorem dL_isSo_742 : decode cL_isSo 742 = .ok (.iconst 2, 1) := by decide +kernel
theorem dL_isSo_743 : decode cL_isSo 743 = .ok (.invokevirtual 83, 3) := by decide +kernel
theorem dL_isSo_746 : decode cL_isSo 746 = .ok (.iload 11, 2) := by decide +kernel
theorem dL_isSo_748 : decode cL_isSo 748 = .ok (.if_icmp .ne 7, 3) := by decide +kernel
theorem dL_isSo_751 : decode cL_isSo 751 = .ok (.iconst 1, 1) := by decide +kernel
theorem dL_isSo_752 : decode cL_isSo 752 = .ok (.goto 4, 3) := by decide +kernel
theorem dL_isSo_755 : decode cL_isSo 755 = .ok (.iconst 0, 1) := by decide +kernel
theorem dL_isSo_756 : decode cL_isSo 756 = .ok (.istore 7, 2) := by decide +kernel
theorem dL_isSo_758 : decode cL_isSo 758 = .ok (.iinc 10 1, 3) := by decide +kernel
theorem dL_isSo_761 : decode cL_isSo 761 = .ok (.goto (-207), 3) := by decide +kernel
theorem dL_isSo_764 : decode cL_isSo 764 = .ok (.iconst 0, 1) := by decide +kernel
theorem dL_isSo_765 : decode cL_isSo 765 = .ok (.istore 10, 2) := by decide +kernel
theorem dL_isSo_767 : decode cL_isSo 767 = .ok (.iload 10, 2) := by decide +kernel
theorem dL_isSo_769 : decode cL_isSo 769 = .ok (.iconst 5, 1) := by decide +kernel
theorem dL_isSo_770 : decode cL_isSo 770 = .ok (.if_icmp .ge 60, 3) := by decide +kernel
theorem dL_isSo_773 : decode cL_isSo 773 = .ok (.iload 7, 2) := by decide +kernel
theorem dL_isSo_775 : decode cL_isSo 775 = .ok (.ifCond .eq 46, 3) := by decide +kernel
theorem dL_isSo_778 : decode cL_isSo 778 = .ok (.aload_n 0, 1) := by decide +kernel
theorem dL_isSo_779 : decode cL_isSo 779 = .ok (.bipush 6, 2) := by decide +kernel
theorem dL_isSo_781 : decode cL_isSo 781 = .ok (.iload 10, 2) := by decide +kernel
theorem dL_isSo_783 : decode cL_isSo 783 = .ok (.iadd, 1) := by decide +kernel
theorem dL_isSo_784 : decode cL_isSo 784 = .ok (.invokevirtual 71, 3) := by decide +kernel
theorem dL_isSo_787 : decode cL_isSo 787 = .ok (.aload_n 2, 1) := by decide +kernel
theorem dL_isSo_788 : decode cL_isSo 788 = .ok (.iload 10, 2) := by decide +kernel
theorem dL_isSo_790 : decode cL_isSo 790 = .ok (.iaload, 1) := by decide +kernel
theorem dL_isSo_791 : decode cL_isSo 791 = .ok (.if_icmp .ne 30, 3) := by decide +kernel
theorem dL_isSo_794 : decode cL_isSo 794 = .ok (.iload 10, 2) := by decide +kernel
theorem dL_isSo_796 : decode cL_isSo 796 = .ok (.iconst 4, 1) := by decide +kernel
theorem dL_isSo_797 : decode cL_isSo 797 = .ok (.if_icmp .eq 20, 3) := by decide +kernel
theorem dL_isSo_800 : decode cL_isSo 800 = .ok (.aload_n 0, 1) := by decide +kernel
theorem dL_isSo_801 : decode cL_isSo 801 = .ok (.bipush 11, 2) := by decide +kernel
theorem dL_isSo_803 : decode cL_isSo 803 = .ok (.iload 10, 2) := by decide +kernel
theorem dL_isSo_805 : decode cL_isSo 805 = .ok (.iadd, 1) := by decide +kernel
theorem dL_isSo_806 : decode cL_isSo 806 = .ok (.invokevirtual 71, 3) := by decide +kernel
theorem dL_isSo_809 : decode cL_isSo 809 = .ok (.aload 8, 2) := by decide +kernel
theorem dL_isSo_811 : decode cL_isSo 811 = .ok (.iload 10, 2) := by decide +kernel
theorem dL_isSo_813 : decode cL_isSo 813 = .ok (.iaload, 1) := by decide +kernel
theorem dL_isSo_814 : decode cL_isSo 814 = .ok (.if_icmp .ne 7, 3) := by decide +kernel
theorem dL_isSo_817 : decode cL_isSo 817 = .ok (.iconst 1, 1) := by decide +kernel
theorem dL_isSo_818 : decode cL_isSo 818 = .ok (.goto 4, 3) := by decide +kernel
theorem dL_isSo_821 : decode cL_isSo 821 = .ok (.iconst 0, 1) := by decide +kernel
theorem dL_isSo_822 : decode cL_isSo 822 = .ok (.istore 7, 2) := by decide +kernel
theorem dL_isSo_824 : decode cL_isSo 824 = .ok (.iinc 10 1, 3) := by decide +kernel
theorem dL_isSo_827 : decode cL_isSo 827 = .ok (.goto (-60), 3) := by decide +kernel
theorem dL_isSo_830 : decode cL_isSo 830 = .ok (.iconst 1, 1) := by decide +kernel
theorem dL_isSo_831 : decode cL_isSo 831 = .ok (.istore 10, 2) := by decide +kernel
theorem dL_isSo_833 : decode cL_isSo 833 = .ok (.iload 10, 2) := by decide +kernel
theorem dL_isSo_835 : decode cL_isSo 835 = .ok (.bipush 7, 2) := by decide +kernel
theorem dL_isSo_837 : decode cL_isSo 837 = .ok (.if_icmp .ge 35, 3) := by decide +kernel
theorem dL_isSo_840 : decode cL_isSo 840 = .ok (.iload 7, 2) := by decide +kernel
theorem dL_isSo_842 : decode cL_isSo 842 = .ok (.ifCond .eq 21, 3) := by decide +kernel
theorem dL_isSo_845 : decode cL_isSo 845 = .ok (.aload_n 0, 1) := by decide +kernel
theorem dL_isSo_846 : decode cL_isSo 846 = .ok (.iload 10, 2) := by decide +kernel
theorem dL_isSo_848 : decode cL_isSo 848 = .ok (.invokevirtual 74, 3) := by decide +kernel
theorem dL_isSo_851 : decode cL_isSo 851 = .ok (.aload 9, 2) := by decide +kernel
theorem dL_isSo_853 : decode cL_isSo 853 = .ok (.iload 10, 2) := by decide +kernel
theorem dL_isSo_855 : decode cL_isSo 855 = .ok (.iaload, 1) := by decide +kernel
theorem dL_isSo_856 : decode cL_isSo 856 = .ok (.if_icmp .ne 7, 3) := by decide +kernel
theorem dL_isSo_859 : decode cL_isSo 859 = .ok (.iconst 1, 1) := by decide +kernel
theorem dL_isSo_860 : decode cL_isSo 860 = .ok (.goto 4, 3) := by decide +kernel
theorem dL_isSo_863 : decode cL_isSo 863 = .ok (.iconst 0, 1) := by decide +kernel
theorem dL_isSo_864 : decode cL_isSo 864 = .ok (.istore 7, 2) := by decide +kernel
theorem dL_isSo_866 : decode cL_isSo 866 = .ok (.iinc 10 1, 3) := by decide +kernel
theorem dL_isSo_869 : decode cL_isSo 869 = .ok (.goto (-36), 3) := by decide +kernel
theorem dL_isSo_872 : decode cL_isSo 872 = .ok (.iload 7, 2) := by decide +kernel
theorem dL_isSo_874 : decode cL_isSo 874 = .ok (.ifCond .eq 78, 3) := by decide +kernel
theorem dL_isSo_877 : decode cL_isSo 877 = .ok (.aload_n 0, 1) := by decide +kernel
theorem dL_isSo_878 : decode cL_isSo 878 = .ok (.aload_n 1, 1) := by decide +kernel
theorem dL_isSo_879 : decode cL_isSo 879 = .ok (.iconst 0, 1) := by decide +kernel
theorem dL_isSo_880 : decode cL_isSo 880 = .ok (.iaload, 1) := by decide +kernel
theorem dL_isSo_881 : decode cL_isSo 881 = .ok (.iconst 0, 1) := by decide +kernel
theorem dL_isSo_882 : decode cL_isSo 882 = .ok (.invokevirtual 77, 3) := by decide +kernel
theorem dL_isSo_885 : decode cL_isSo 885 = .ok (.iconst (-1), 1) := by decide +kernel
theorem dL_isSo_886 : decode cL_isSo 886 = .ok (.if_icmp .ne 66, 3) := by decide +kernel
theorem dL_isSo_889 : decode cL_isSo 889 = .ok (.aload_n 0, 1) := by decide +kernel
theorem dL_isSo_890 : decode cL_isSo 890 = .ok (.aload_n 1, 1) := by decide +kernel
theorem dL_isSo_891 : decode cL_isSo 891 = .ok (.iconst 1, 1) := by decide +kernel
theorem dL_isSo_892 : decode cL_isSo 892 = .ok (.iaload, 1) := by decide +kernel
theorem dL_isSo_893 : decode cL_isSo 893 = .ok (.iconst 0, 1) := by decide +kernel
theorem dL_isSo_894 : decode cL_isSo 894 = .ok (.invokevirtual 80, 3) := by decide +kernel
theorem dL_isSo_897 : decode cL_isSo 897 = .ok (.iconst (-1), 1) := by decide +kernel
theorem dL_isSo_898 : decode cL_isSo 898 = .ok (.if_icmp .ne 54, 3) := by decide +kernel
theorem dL_isSo_901 : decode cL_isSo 901 = .ok (.aload_n 0, 1) := by decide +kernel
theorem dL_isSo_902 : decode cL_isSo 902 = .ok (.aload_n 1, 1) := by decide +kernel
theorem dL_isSo_903 : decode cL_isSo 903 = .ok (.iconst 2, 1) := by decide +kernel
theorem dL_isSo_904 : decode cL_isSo 904 = .ok (.iaload, 1) := by decide +kernel
theorem dL_isSo_905 : decode cL_isSo 905 = .ok (.iconst 0, 1) := by decide +kernel
theorem dL_isSo_906 : decode cL_isSo 906 = .ok (.invokevirtual 83, 3) := by decide +kernel
theorem dL_isSo_909 : decode cL_isSo 909 = .ok (.iconst (-1), 1) := by decide +kernel
theorem dL_isSo_910 : decode cL_isSo 910 = .ok (.if_icmp .ne 42, 3) := by decide +kernel
theorem dL_isSo_913 : decode cL_isSo 913 = .ok (.aload_n 0, 1) := by decide +kernel
theorem dL_isSo_914 : decode cL_isSo 914 = .ok (.iconst 0, 1) := by decide +kernel
theorem dL_isSo_915 : decode cL_isSo 915 = .ok (.invokevirtual 74, 3) := by decide +kernel
theorem dL_isSo_918 : decode cL_isSo 918 = .ok (.aload 9, 2) := by decide +kernel
theorem dL_isSo_920 : decode cL_isSo 920 = .ok (.bipush 6, 2) := by decide +kernel
theorem dL_isSo_922 : decode cL_isSo 922 = .ok (.iaload, 1) := by decide +kernel
theorem dL_isSo_923 : decode cL_isSo 923 = .ok (.aload 9, 2) := by decide +kernel
theorem dL_isSo_925 : decode cL_isSo 925 = .ok (.iconst 4, 1) := by decide +kernel
theorem dL_isSo_926 : decode cL_isSo 926 = .ok (.iaload, 1) := by decide +kernel
theorem dL_isSo_927 : decode cL_isSo 927 = .ok (.iadd, 1) := by decide +kernel
theorem dL_isSo_928 : decode cL_isSo 928 = .ok (.if_icmp .ne 24, 3) := by decide +kernel
theorem dL_isSo_931 : decode cL_isSo 931 = .ok (.aload 9, 2) := by decide +kernel
theorem dL_isSo_933 : decode cL_isSo 933 = .ok (.bipush 6, 2) := by decide +kernel
theorem dL_isSo_935 : decode cL_isSo 935 = .ok (.iaload, 1) := by decide +kernel
theorem dL_isSo_936 : decode cL_isSo 936 = .ok (.aload 9, 2) := by decide +kernel
theorem dL_isSo_938 : decode cL_isSo 938 = .ok (.iconst 1, 1) := by decide +kernel
theorem dL_isSo_939 : decode cL_isSo 939 = .ok (.iaload, 1) := by decide +kernel
theorem dL_isSo_940 : decode cL_isSo 940 = .ok (.aload 9, 2) := by decide +kernel
theorem dL_isSo_942 : decode cL_isSo 942 = .ok (.iconst 5, 1) := by decide +kernel
theorem dL_isSo_943 : decode cL_isSo 943 = .ok (.iaload, 1) := by decide +kernel
theorem dL_isSo_944 : decode cL_isSo 944 = .ok (.iadd, 1) := by decide +kernel
theorem dL_isSo_945 : decode cL_isSo 945 = .ok (.if_icmp .ne 7, 3) := by decide +kernel
theorem dL_isSo_948 : decode cL_isSo 948 = .ok (.iconst 1, 1) := by decide +kernel
theorem dL_isSo_949 : decode cL_isSo 949 = .ok (.goto 4, 3) := by decide +kernel
theorem dL_isSo_952 : decode cL_isSo 952 = .ok (.iconst 0, 1) := by decide +kernel
theorem dL_isSo_953 : decode cL_isSo 953 = .ok (.ireturn, 1) := by decide +kernel
theorem dL_law_0 : decode cL_law 0 = .ok (.new 21, 3) := by decide +kernel
theorem dL_law_3 : decode cL_law 3 = .ok (.dup, 1) := by decide +kernel
theorem dL_law_4 : decode cL_law 4 = .ok (.invokespecial 86, 3) := by decide +kernel
theorem dL_law_7 : decode cL_law 7 = .ok (.astore_n 1, 1) := by decide +kernel
theorem dL_law_8 : decode cL_law 8 = .ok (.iconst 5, 1) := by decide +kernel
theorem dL_law_9 : decode cL_law 9 = .ok (.newarray .int, 2) := by decide +kernel
theorem dL_law_11 : decode cL_law 11 = .ok (.astore_n 2, 1) := by decide +kernel
theorem dL_law_12 : decode cL_law 12 = .ok (.iconst 5, 1) := by decide +kernel
theorem dL_law_13 : decode cL_law 13 = .ok (.newarray .int, 2) := by decide +kernel
theorem dL_law_15 : decode cL_law 15 = .ok (.astore_n 3, 1) := by decide +kernel
theorem dL_law_16 : decode cL_law 16 = .ok (.bipush 33, 2) := by decide +kernel
theorem dL_law_18 : decode cL_law 18 = .ok (.newarray .int, 2) := by decide +kernel
theorem dL_law_20 : decode cL_law 20 = .ok (.astore 4, 2) := by decide +kernel
theorem dL_law_22 : decode cL_law 22 = .ok (.bipush 63, 2) := by decide +kernel
theorem dL_law_24 : decode cL_law 24 = .ok (.newarray .int, 2) := by decide +kernel
theorem dL_law_26 : decode cL_law 26 = .ok (.astore 5, 2) := by decide +kernel
theorem dL_law_28 : decode cL_law 28 = .ok (.bipush 28, 2) := by decide +kernel
theorem dL_law_30 : decode cL_law 30 = .ok (.newarray .int, 2) := by decide +kernel
theorem dL_law_32 : decode cL_law 32 = .ok (.astore 6, 2) := by decide +kernel
theorem dL_law_34 : decode cL_law 34 = .ok (.bipush 8, 2) := by decide +kernel
theorem dL_law_36 : decode cL_law 36 = .ok (.newarray .int, 2) := by decide +kernel
theorem dL_law_38 : decode cL_law 38 = .ok (.astore 7, 2) := by decide +kernel
theorem dL_law_40 : decode cL_law 40 = .ok (.aload_n 3, 1) := by decide +kernel
theorem dL_law_41 : decode cL_law 41 = .ok (.iconst 0, 1) := by decide +kernel
theorem dL_law_42 : decode cL_law 42 = .ok (.iconst 2, 1) := by decide +kernel
theorem dL_law_43 : decode cL_law 43 = .ok (.iastore, 1) := by decide +kernel
theorem dL_law_44 : decode cL_law 44 = .ok (.aload_n 3, 1) := by decide +kernel
theorem dL_law_45 : decode cL_law 45 = .ok (.iconst 1, 1) := by decide +kernel
theorem dL_law_46 : decode cL_law 46 = .ok (.bipush 10, 2) := by decide +kernel
theorem dL_law_48 : decode cL_law 48 = .ok (.iastore, 1) := by decide +kernel
theorem dL_law_49 : decode cL_law 49 = .ok (.aload_n 3, 1) := by decide +kernel
theorem dL_law_50 : decode cL_law 50 = .ok (.iconst 2, 1) := by decide +kernel
theorem dL_law_51 : decode cL_law 51 = .ok (.iconst 5, 1) := by decide +kernel
theorem dL_law_52 : decode cL_law 52 = .ok (.iastore, 1) := by decide +kernel
theorem dL_law_53 : decode cL_law 53 = .ok (.aload_n 3, 1) := by decide +kernel
theorem dL_law_54 : decode cL_law 54 = .ok (.iconst 3, 1) := by decide +kernel
theorem dL_law_55 : decode cL_law 55 = .ok (.bipush 15, 2) := by decide +kernel
theorem dL_law_57 : decode cL_law 57 = .ok (.iastore, 1) := by decide +kernel
theorem dL_law_58 : decode cL_law 58 = .ok (.aload_n 3, 1) := by decide +kernel
theorem dL_law_59 : decode cL_law 59 = .ok (.iconst 4, 1) := by decide +kernel
theorem dL_law_60 : decode cL_law 60 = .ok (.bipush 20, 2) := by decide +kernel
theorem dL_law_62 : decode cL_law 62 = .ok (.iastore, 1) := by decide +kernel
theorem dL_law_63 : decode cL_law 63 = .ok (.aload_n 1, 1) := by decide +kernel
theorem dL_law_64 : decode cL_law 64 = .ok (.aload_n 2, 1) := by decide +kernel
theorem dL_law_65 : decode cL_law 65 = .ok (.aload_n 3, 1) := by decide +kernel
theorem dL_law_66 : decode cL_law 66 = .ok (.aload 4, 2) := by decide +kernel
theorem dL_law_68 : decode cL_law 68 = .ok (.aload 5, 2) := by decide +kernel
theorem dL_law_70 : decode cL_law 70 = .ok (.aload 6, 2) := by decide +kernel
theorem dL_law_72 : decode cL_law 72 = .ok (.aload 7, 2) := by decide +kernel
theorem dL_law_74 : decode cL_law 74 = .ok (.invokestatic 87, 3) := by decide +kernel
theorem dL_law_77 : decode cL_law 77 = .ok (.istore 8, 2) := by decide +kernel
theorem dL_law_79 : decode cL_law 79 = .ok (.iconst 0, 1) := by decide +kernel
theorem dL_law_80 : decode cL_law 80 = .ok (.istore 9, 2) := by decide +kernel
theorem dL_law_82 : decode cL_law 82 = .ok (.iload 9, 2) := by decide +kernel
theorem dL_law_84 : decode cL_law 84 = .ok (.bipush 12, 2) := by decide +kernel
theorem dL_law_86 : decode cL_law 86 = .ok (.if_icmp .ge 72, 3) := by decide +kernel
theorem dL_law_89 : decode cL_law 89 = .ok (.iload 8, 2) := by decide +kernel
theorem dL_law_91 : decode cL_law 91 = .ok (.ifCond .eq 67, 3) := by decide +kernel
theorem dL_law_94 : decode cL_law 94 = .ok (.aload_n 1, 1) := by decide +kernel
theorem dL_law_95 : decode cL_law 95 = .ok (.aload_n 2, 1) := by decide +kernel
theorem dL_law_96 : decode cL_law 96 = .ok (.aload_n 3, 1) := by decide +kernel
theorem dL_law_97 : decode cL_law 97 = .ok (.aload 4, 2) := by decide +kernel
theorem dL_law_99 : decode cL_law 99 = .ok (.aload 5, 2) := by decide +kernel
theorem dL_law_101 : decode cL_law 101 = .ok (.aload 6, 2) := by decide +kernel
theorem dL_law_103 : decode cL_law 103 = .ok (.aload 7, 2) := by decide +kernel
theorem dL_law_105 : decode cL_law 105 = .ok (.aload_n 0, 1) := by decide +kernel
theorem dL_law_106 : decode cL_law 106 = .ok (.iconst 1, 1) := by decide +kernel
theorem dL_law_107 : decode cL_law 107 = .ok (.iload 9, 2) := by decide +kernel
theorem dL_law_109 : decode cL_law 109 = .ok (.iadd, 1) := by decide +kernel
theorem dL_law_110 : decode cL_law 110 = .ok (.invokestatic 91, 3) := by decide +kernel
theorem dL_law_113 : decode cL_law 113 = .ok (.ldc 8, 2) := by decide +kernel
theorem dL_law_115 : decode cL_law 115 = .ok (.iand, 1) := by decide +kernel
theorem dL_law_116 : decode cL_law 116 = .ok (.sipush 832, 3) := by decide +kernel
theorem dL_law_119 : decode cL_law 119 = .ok (.idiv, 1) := by decide +kernel
theorem dL_law_120 : decode cL_law 120 = .ok (.sipush 832, 3) := by decide +kernel
theorem dL_law_123 : decode cL_law 123 = .ok (.imul, 1) := by decide +kernel
theorem dL_law_124 : decode cL_law 124 = .ok (.iload 9, 2) := by decide +kernel
theorem dL_law_126 : decode cL_law 126 = .ok (.iconst 2, 1) := by decide +kernel
theorem dL_law_127 : decode cL_law 127 = .ok (.if_icmp .ge 7, 3) := by decide +kernel
theorem dL_law_130 : decode cL_law 130 = .ok (.iconst 0, 1) := by decide +kernel
theorem dL_law_131 : decode cL_law 131 = .ok (.goto 15, 3) := by decide +kernel
theorem dL_law_134 : decode cL_law 134 = .ok (.iload 9, 2) := by decide +kernel
theorem dL_law_136 : decode cL_law 136 = .ok (.iconst 5, 1) := by decide +kernel
theorem dL_law_137 : decode cL_law 137 = .ok (.if_icmp .ge 7, 3) := by decide +kernel
theorem dL_law_140 : decode cL_law 140 = .ok (.iconst 2, 1) := by decide +kernel
theorem dL_law_141 : decode cL_law 141 = .ok (.goto 5, 3) := by decide +kernel
theorem dL_law_144 : decode cL_law 144 = .ok (.bipush 6, 2) := by decide +kernel
theorem dL_law_146 : decode cL_law 146 = .ok (.iadd, 1) := by decide +kernel
theorem dL_law_147 : decode cL_law 147 = .ok (.invokestatic 95, 3) := by decide +kernel
theorem dL_law_150 : decode cL_law 150 = .ok (.istore 8, 2) := by decide +kernel
theorem dL_law_152 : decode cL_law 152 = .ok (.iinc 9 1, 3) := by decide +kernel
theorem dL_law_155 : decode cL_law 155 = .ok (.goto (-73), 3) := by decide +kernel
theorem dL_law_158 : decode cL_law 158 = .ok (.bipush 8, 2) := by decide +kernel
theorem dL_law_160 : decode cL_law 160 = .ok (.aload_n 0, 1) := by decide +kernel
theorem dL_law_161 : decode cL_law 161 = .ok (.iconst 0, 1) := by decide +kernel
theorem dL_law_162 : decode cL_law 162 = .ok (.invokestatic 91, 3) := by decide +kernel
theorem dL_law_165 : decode cL_law 165 = .ok (.bipush 45, 2) := by decide +kernel
theorem dL_law_167 : decode cL_law 167 = .ok (.invokestatic 16, 3) := by decide +kernel
theorem dL_law_170 : decode cL_law 170 = .ok (.iadd, 1) := by decide +kernel
theorem dL_law_171 : decode cL_law 171 = .ok (.istore 9, 2) := by decide +kernel
theorem dL_law_173 : decode cL_law 173 = .ok (.iconst 0, 1) := by decide +kernel
theorem dL_law_174 : decode cL_law 174 = .ok (.istore 10, 2) := by decide +kernel
theorem dL_law_176 : decode cL_law 176 = .ok (.iload 10, 2) := by decide +kernel
theorem dL_law_178 : decode cL_law 178 = .ok (.iload 9, 2) := by decide +kernel
theorem dL_law_180 : decode cL_law 180 = .ok (.if_icmp .ge 71, 3) := by decide +kernel
theorem dL_law_183 : decode cL_law 183 = .ok (.iload 8, 2) := by decide +kernel
theorem dL_law_185 : decode cL_law 185 = .ok (.ifCond .eq 66, 3) := by decide +kernel
theorem dL_law_188 : decode cL_law 188 = .ok (.aload_n 1, 1) := by decide +kernel
theorem dL_law_189 : decode cL_law 189 = .ok (.aload_n 2, 1) := by decide +kernel
theorem dL_law_190 : decode cL_law 190 = .ok (.aload_n 3, 1) := by decide +kernel
theorem dL_law_191 : decode cL_law 191 = .ok (.aload 4, 2) := by decide +kernel
theorem dL_law_193 : decode cL_law 193 = .ok (.aload 5, 2) := by decide +kernel
theorem dL_law_195 : decode cL_law 195 = .ok (.aload 6, 2) := by decide +kernel
theorem dL_law_197 : decode cL_law 197 = .ok (.aload 7, 2) := by decide +kernel
theorem dL_law_199 : decode cL_law 199 = .ok (.aload_n 0, 1) := by decide +kernel
theorem dL_law_200 : decode cL_law 200 = .ok (.bipush 13, 2) := by decide +kernel
theorem dL_law_202 : decode cL_law 202 = .ok (.iload 10, 2) := by decide +kernel
theorem dL_law_204 : decode cL_law 204 = .ok (.iadd, 1) := by decide +kernel
theorem dL_law_205 : decode cL_law 205 = .ok (.invokestatic 91, 3) := by decide +kernel
theorem dL_law_208 : decode cL_law 208 = .ok (.sipush 7919, 3) := by decide +kernel
theorem dL_law_211 : decode cL_law 211 = .ok (.iload 10, 2) := by decide +kernel
theorem dL_law_213 : decode cL_law 213 = .ok (.imul, 1) := by decide +kernel
theorem dL_law_214 : decode cL_law 214 = .ok (.ixor, 1) := by decide +kernel
theorem dL_law_215 : decode cL_law 215 = .ok (.invokestatic 95, 3) := by decide +kernel
theorem dL_law_218 : decode cL_law 218 = .ok (.ifCond .eq 24, 3) := by decide +kernel
theorem dL_law_221 : decode cL_law 221 = .ok (.aload_n 1, 1) := by decide +kernel
theorem dL_law_222 : decode cL_law 222 = .ok (.aload_n 2, 1) := by decide +kernel
theorem dL_law_223 : decode cL_law 223 = .ok (.aload_n 3, 1) := by decide +kernel
theorem dL_law_224 : decode cL_law 224 = .ok (.aload 4, 2) := by decide +kernel
theorem dL_law_226 : decode cL_law 226 = .ok (.aload 5, 2) := by decide +kernel
theorem dL_law_228 : decode cL_law 228 = .ok (.aload 6, 2) := by decide +kernel
theorem dL_law_230 : decode cL_law 230 = .ok (.aload 7, 2) := by decide +kernel
theorem dL_law_232 : decode cL_law 232 = .ok (.invokestatic 87, 3) := by decide +kernel
theorem dL_law_235 : decode cL_law 235 = .ok (.ifCond .eq 7, 3) := by decide +kernel
theorem dL_law_238 : decode cL_law 238 = .ok (.iconst 1, 1) := by decide +kernel
theorem dL_law_239 : decode cL_law 239 = .ok (.goto 4, 3) := by decide +kernel
theorem dL_law_242 : decode cL_law 242 = .ok (.iconst 0, 1) := by decide +kernel
theorem dL_law_243 : decode cL_law 243 = .ok (.istore 8, 2) := by decide +kernel
theorem dL_law_245 : decode cL_law 245 = .ok (.iinc 10 1, 3) := by decide +kernel
theorem dL_law_248 : decode cL_law 248 = .ok (.goto (-72), 3) := by decide +kernel
theorem dL_law_251 : decode cL_law 251 = .ok (.iload 8, 2) := by decide +kernel
theorem dL_law_253 : decode cL_law 253 = .ok (.ifCond .eq 36, 3) := by decide +kernel
theorem dL_law_256 : decode cL_law 256 = .ok (.aload_n 1, 1) := by decide +kernel
theorem dL_law_257 : decode cL_law 257 = .ok (.bipush 15, 2) := by decide +kernel
theorem dL_law_259 : decode cL_law 259 = .ok (.invokevirtual 71, 3) := by decide +kernel
theorem dL_law_262 : decode cL_law 262 = .ok (.iconst (-1), 1) := by decide +kernel
theorem dL_law_263 : decode cL_law 263 = .ok (.if_icmp .ne 26, 3) := by decide +kernel
theorem dL_law_266 : decode cL_law 266 = .ok (.aload_n 1, 1) := by decide +kernel
theorem dL_law_267 : decode cL_law 267 = .ok (.bipush 7, 2) := by decide +kernel
theorem dL_law_269 : decode cL_law 269 = .ok (.invokevirtual 74, 3) := by decide +kernel
theorem dL_law_272 : decode cL_law 272 = .ok (.iconst (-1), 1) := by decide +kernel
theorem dL_law_273 : decode cL_law 273 = .ok (.if_icmp .ne 16, 3) := by decide +kernel
theorem dL_law_276 : decode cL_law 276 = .ok (.aload_n 1, 1) := by decide +kernel
theorem dL_law_277 : decode cL_law 277 = .ok (.iconst (-1), 1) := by decide +kernel
theorem dL_law_278 : decode cL_law 278 = .ok (.invokevirtual 74, 3) := by decide +kernel
theorem dL_law_281 : decode cL_law 281 = .ok (.iconst (-1), 1) := by decide +kernel
theorem dL_law_282 : decode cL_law 282 = .ok (.if_icmp .ne 7, 3) := by decide +kernel
theorem dL_law_285 : decode cL_law 285 = .ok (.iconst 1, 1) := by decide +kernel
theorem dL_law_286 : decode cL_law 286 = .ok (.goto 4, 3) := by decide +kernel
theorem dL_law_289 : decode cL_law 289 = .ok (.iconst 0, 1) := by decide +kernel
theorem dL_law_290 : decode cL_law 290 = .ok (.ireturn, 1) := by decide +kernel
end
section
/-! My own layer over the kit: pure helpers, contracts of methods that make no cells, calls, returns. -/
abbrev Tb : Type := Int32 × (Nat → Int32)
def FU : Nat := 10000
def tI (cI cS : ClassId) : List (ClassId × FieldType) := [(cI, .int), (cS, .object "TeamRooms$State")]
-- pure functions: naming, reading, writing, dividing, booleans
def nm {α β : Type} (x : α) (k : α → β) : β := k x
theorem nm_use {α ρ : Type} {x y : α} {k : α → ρ} {o : ρ} (h : nm x k = o) (e : y = x) : k y = o := by subst e; exact h
theorem it_t {ρ : Type} {c : Prop} {i : Decidable c} {a b o : ρ} (h : (@ite _ c i a b) = o) (hc : c) : a = o := (if_pos hc).symm.trans h
theorem it_f {ρ : Type} {c : Prop} {i : Decidable c} {a b o : ρ} (h : (@ite _ c i a b) = o) (hc : ¬ c) : b = o := (if_neg hc).symm.trans h
theorem bd_use {α ρ : Type} {x : Option α} {k : α → Option ρ} {o : ρ} (h : x.bind k = some o) : ∃ a, x = some a ∧ k a = some o := by
  cases x with
  | none => exact absurd h (by simp)
  | some a => exact ⟨a, rfl, h⟩
theorem bd_use2 {α β ρ : Type} {x : Option (α × β)} {k : α × β → Option ρ} {o : ρ} (h : x.bind k = some o) : ∃ a b, x = some (a, b) ∧ k (a, b) = some o := by
  obtain ⟨⟨a, b⟩, h1, h2⟩ := bd_use h
  exact ⟨a, b, h1, h2⟩
def Rd {ρ : Type} (f : Nat → Int32) (n : Nat) (i : Int32) (k : Int32 → Option ρ) : Option ρ := if i < 0 ∨ n ≤ i.toNatClampNeg then none else k (f i.toNatClampNeg)
theorem rd_use {ρ : Type} {f : Nat → Int32} {n : Nat} {i : Int32} {k : Int32 → Option ρ} {o : ρ} (h : Rd f n i k = some o) : vp_in i n ∧ ∀ y, y = f i.toNatClampNeg → k y = some o := by
  unfold Rd at h
  by_cases c : i < 0 ∨ n ≤ i.toNatClampNeg
  · rw [if_pos c] at h; cases h
  · rw [if_neg c] at h; exact ⟨c, fun y e => by rw [e]; exact h⟩
def Wr {ρ : Type} (f : Nat → Int32) (n : Nat) (i x : Int32) (k : (Nat → Int32) → Option ρ) : Option ρ := if i < 0 ∨ n ≤ i.toNatClampNeg then none else k (upd f i.toNatClampNeg x)
theorem wr_use {ρ : Type} {f : Nat → Int32} {n : Nat} {i x : Int32} {k : (Nat → Int32) → Option ρ} {o : ρ} (h : Wr f n i x k = some o) : vp_in i n ∧ k (upd f i.toNatClampNeg x) = some o := by
  unfold Wr at h
  by_cases c : i < 0 ∨ n ≤ i.toNatClampNeg
  · rw [if_pos c] at h; cases h
  · rw [if_neg c] at h; exact ⟨c, h⟩
def Dv {ρ : Type} (x y : Int32) (k : Int32 → Option ρ) : Option ρ := if y = 0 then none else k (x / y)
theorem dv_use {ρ : Type} {x y : Int32} {k : Int32 → Option ρ} {o : ρ} (h : Dv x y k = some o) : ¬ y = 0 ∧ ∀ z, z = x / y → k z = some o := by
  unfold Dv at h
  by_cases c : y = 0
  · rw [if_pos c] at h; cases h
  · rw [if_neg c] at h; exact ⟨c, fun z e => by rw [e]; exact h⟩
/-- a boolean that is answered -/
def Zb {ρ : Type} (v : Int32) (k : Option ρ) : Option ρ := if v = 0 ∨ v = 1 then k else none
theorem zb_use {ρ : Type} {v : Int32} {k : Option ρ} {o : ρ} (h : Zb v k = some o) : narrow .boolean (.int v) = .int v ∧ k = some o := by
  unfold Zb at h
  by_cases c : v = 0 ∨ v = 1
  · rw [if_pos c] at h
    refine ⟨?_, h⟩
    rcases c with rfl | rfl <;> rfl
  · rw [if_neg c] at h; cases h
theorem nn_use {ρ : Type} {o : ρ} {P : Prop} (h : (none : Option ρ) = some o) : P := by cases h
theorem so_use {ρ : Type} {a o : ρ} (h : some a = some o) : a = o := Option.some.inj h
theorem pr_use {α β : Type} {a c : α} {b d : β} (h : some (a, b) = some (c, d)) : a = c ∧ b = d := by cases h; exact ⟨rfl, rfl⟩
-- worlds
theorem va_D.adr {A : Nat → Prop} {w w' : va_W} (h : va_D A w) (e : w'.map Prod.fst = w.map Prod.fst) : va_D A w' := by
  have key : ∀ (k : Nat) (q : Nat × va_E), w'[k]? = some q → ∃ q0, w[k]? = some q0 ∧ q0.1 = q.1 := by
    intro k q hq
    have h1 : (w'.map Prod.fst)[k]? = some q.1 := by rw [List.getElem?_map, hq]; rfl
    rw [e, List.getElem?_map] at h1
    cases hk : w[k]? with
    | none => rw [hk] at h1; cases h1
    | some q0 => rw [hk] at h1; exact ⟨q0, rfl, Option.some.inj h1⟩
  refine ⟨fun i j p q hi hj hpq => ?_, fun k q hq => ?_⟩
  · obtain ⟨p0, h1, h2⟩ := key i p hi
    obtain ⟨q0, h3, h4⟩ := key j q hj
    exact h.1 i j p0 q0 h1 h3 (by rw [h2, h4, hpq])
  · obtain ⟨q0, h1, h2⟩ := key k q hq
    rw [← h2]; exact h.2 k q0 h1
-- segments: a world is a row of pieces, a callee takes some of them
theorem va_P.mem {D : va_G} {cl : List vw_C} {W : va_W} {H : Heap} : va_P D cl W H ↔ ∀ q ∈ W, va_at D cl q H := by
  refine ⟨fun h q hq => ?_, fun h k q hq => h q (List.mem_of_getElem? hq)⟩
  obtain ⟨k, hk⟩ := List.getElem?_of_mem hq
  exact h k q hk
theorem va_A.mem {W : va_W} {sz q : Nat} : va_A W sz q ↔ (∃ z ∈ W, z.1 = q) ∨ sz ≤ q := by
  refine ⟨fun h => ?_, fun h => ?_⟩
  · rcases h with ⟨k, e, h⟩ | h
    · exact Or.inl ⟨(q, e), List.mem_of_getElem? h, rfl⟩
    · exact Or.inr h
  · rcases h with ⟨z, h, rfl⟩ | h
    · obtain ⟨k, hk⟩ := List.getElem?_of_mem h
      exact Or.inl ⟨k, z.2, hk⟩
    · exact Or.inr h
theorem va_D.pw {A : Nat → Prop} {W : va_W} : va_D A W ↔ W.Pairwise (fun p q => p.1 ≠ q.1) ∧ ∀ q ∈ W, A q.1 := by
  refine ⟨fun h => ⟨?_, fun q hq => ?_⟩, fun h => ⟨fun i j p q hi hj e => ?_, fun k q hq => h.2 q (List.mem_of_getElem? hq)⟩⟩
  · rw [List.pairwise_iff_getElem]
    intro i j hi hj hij e
    have := h.1 i j _ _ (List.getElem?_eq_getElem hi) (List.getElem?_eq_getElem hj) e
    omega
  · obtain ⟨k, hk⟩ := List.getElem?_of_mem hq
    exact h.2 k q hk
  · have hp := List.pairwise_iff_getElem.mp h.1
    obtain ⟨hi1, hi2⟩ := List.getElem?_eq_some_iff.mp hi
    obtain ⟨hj1, hj2⟩ := List.getElem?_eq_some_iff.mp hj
    rcases Nat.lt_trichotomy i j with q1 | q1 | q1
    · exact absurd (by rw [hi2, hj2]; exact e) (hp i j hi1 hj1 q1)
    · exact q1
    · exact absurd (by rw [hi2, hj2]; exact e.symm) (hp j i hj1 hi1 q1)
def Sg (W0 w w' W1 : va_W) : Prop := ∃ (S0 s s' S1 : List va_W) (is rest : List Nat), W0 = S0.flatten ∧ w = s.flatten ∧ w' = s'.flatten ∧ W1 = S1.flatten ∧ va_nd is = true ∧ is.map (fun i => S0[i]?) = s.map some ∧ is.map (fun i => S1[i]?) = s'.map some ∧ rest.map (fun i => S1[i]?) = rest.map (fun i => S0[i]?) ∧ (List.range S1.length).all (fun k => is.contains k || rest.contains k) = true
theorem mp_at {α : Type} {S s : List α} {is : List Nat} (h : is.map (fun i => S[i]?) = s.map some) {j : Nat} {g : α} (hj : s[j]? = some g) : ∃ i, is[j]? = some i ∧ S[i]? = some g := by
  have h1 : (is.map (fun i => S[i]?))[j]? = (s.map some)[j]? := by rw [h]
  rw [List.getElem?_map, List.getElem?_map, hj] at h1
  cases hi : is[j]? with
  | none => rw [hi] at h1; cases h1
  | some i => rw [hi] at h1; exact ⟨i, rfl, Option.some.inj h1⟩
theorem mp_at2 {α : Type} {S s : List α} {is : List Nat} (h : is.map (fun i => S[i]?) = s.map some) {j i : Nat} (hj : is[j]? = some i) {g : α} (hg : S[i]? = some g) : s[j]? = some g := by
  have h1 : (is.map (fun i => S[i]?))[j]? = (s.map some)[j]? := by rw [h]
  rw [List.getElem?_map, List.getElem?_map, hj] at h1
  cases hi : s[j]? with
  | none => rw [hi] at h1; cases h1
  | some x => rw [hi] at h1; have h2 : S[i]? = some x := Option.some.inj h1; rw [hg] at h2; exact h2.symm
theorem Sg.mem {W0 w w' W1 : va_W} (h : Sg W0 w w' W1) {q : Nat × va_E} (hq : q ∈ w) : q ∈ W0 := by
  obtain ⟨S0, s, s', S1, is, rest, rfl, rfl, rfl, rfl, hn, h1, h2, h3, h4⟩ := h
  obtain ⟨g, hg, hq⟩ := List.mem_flatten.mp hq
  obtain ⟨j, hj⟩ := List.getElem?_of_mem hg
  obtain ⟨i, -, hi⟩ := mp_at h1 hj
  exact List.mem_flatten.mpr ⟨g, List.mem_of_getElem? hi, hq⟩
theorem Sg.P {W0 w w' W1 : va_W} (h : Sg W0 w w' W1) {D : va_G} {cl : List vw_C} {H : Heap} (hP : va_P D cl W0 H) : va_P D cl w H := va_P.mem.mpr (fun q hq => va_P.mem.mp hP q (h.mem hq))
theorem Sg.D {W0 w w' W1 : va_W} (h : Sg W0 w w' W1) {A : Nat → Prop} (hD : va_D A W0) : va_D A w := by
  have hm : ∀ q ∈ w, A q.1 := fun q hq => (va_D.pw.mp hD).2 q (h.mem hq)
  have hp := (va_D.pw.mp hD).1
  refine va_D.pw.mpr ⟨?_, hm⟩
  obtain ⟨S0, s, s', S1, is, rest, rfl, rfl, rfl, rfl, hn, h1, h2, h3, h4⟩ := h
  obtain ⟨p1, p2⟩ := List.pairwise_flatten.mp hp
  refine List.pairwise_flatten.mpr ⟨fun g hg => ?_, ?_⟩
  · obtain ⟨j, hj⟩ := List.getElem?_of_mem hg
    obtain ⟨i, -, hi⟩ := mp_at h1 hj
    exact p1 g (List.mem_of_getElem? hi)
  · rw [List.pairwise_iff_getElem]
    intro i j hi hj hij x hx y hy
    obtain ⟨a, a1, a2⟩ := mp_at h1 (List.getElem?_eq_getElem hi)
    obtain ⟨b, b1, b2⟩ := mp_at h1 (List.getElem?_eq_getElem hj)
    have hab : a ≠ b := fun e => by
      subst e
      have := va_nd_inj is hn i j a a1 b1
      omega
    have p3 := List.pairwise_iff_getElem.mp p2
    obtain ⟨al, ae⟩ := List.getElem?_eq_some_iff.mp a2
    obtain ⟨bl, be⟩ := List.getElem?_eq_some_iff.mp b2
    rcases Nat.lt_or_gt_of_ne hab with q1 | q1
    · exact p3 a b al bl q1 x (by rw [ae]; exact hx) y (by rw [be]; exact hy)
    · exact fun e => p3 b a bl al q1 y (by rw [be]; exact hy) x (by rw [ae]; exact hx) e.symm
theorem Sg.F {W0 w w' W1 : va_W} (h : Sg W0 w w' W1) {A0 : Nat → Prop} {H0 H : Heap} {locs : List Loc} (hD : va_D A0 W0) (hS : va_S A0 H0 H locs) (hA : ∀ q, H0.size ≤ q → A0 q) : ∀ q, va_A w H.size q → A0 q := by
  intro q hq
  rcases va_A.mem.mp hq with ⟨z, hz, rfl⟩ | hq
  · exact (va_D.pw.mp (h.D hD)).2 z hz
  · exact hA q (Nat.le_trans hS.1 hq)
/-- behind a call that makes no cell: the callee's pieces are back in their places -/
theorem Sg.put {W0 w w' W1 : va_W} (h : Sg W0 w w' W1) {A : Nat → Prop} {D : va_G} {cl : List vw_C} {H H1 : Heap} (hP : va_P D cl W0 H) (hD : va_D A W0) (hk : ∀ q : Nat, q < H.size → ¬ va_A w H.size q → H1[q]? = H[q]?) (hP1 : va_P D cl w' H1) : va_P D cl W1 H1 := by
  obtain ⟨S0, s, s', S1, is, rest, rfl, rfl, rfl, rfl, hn, h1, h2, h3, h4⟩ := h
  refine va_P.mem.mpr (fun q hq => ?_)
  obtain ⟨g, hg, hq⟩ := List.mem_flatten.mp hq
  obtain ⟨k, hk1⟩ := List.getElem?_of_mem hg
  have hkl : k < S1.length := (List.getElem?_eq_some_iff.mp hk1).1
  by_cases hin : k ∈ is
  · obtain ⟨j, hj⟩ := List.getElem?_of_mem hin
    exact va_P.mem.mp hP1 q (List.mem_flatten.mpr ⟨g, List.mem_of_getElem? (mp_at2 h2 hj hk1), hq⟩)
  · have hr : k ∈ rest := by
      have := List.all_eq_true.mp h4 k (List.mem_range.mpr hkl)
      rw [Bool.or_eq_true] at this
      rcases this with c | c
      · exact absurd (List.contains_iff_mem.mp c) hin
      · exact List.contains_iff_mem.mp c
    obtain ⟨j, hj⟩ := List.getElem?_of_mem hr
    have h5 : (rest.map (fun i => S1[i]?))[j]? = (rest.map (fun i => S0[i]?))[j]? := by rw [h3]
    rw [List.getElem?_map, List.getElem?_map, hj] at h5
    have h6 : S1[k]? = S0[k]? := Option.some.inj h5
    rw [hk1] at h6
    have hq0 : q ∈ S0.flatten := List.mem_flatten.mpr ⟨g, List.mem_of_getElem? h6.symm, hq⟩
    have hat := va_P.mem.mp hP q hq0
    refine hat.kept (hk q.1 hat.lt (fun hva => ?_))
    rcases va_A.mem.mp hva with ⟨z, hz, e⟩ | hva
    · obtain ⟨g2, hg2, hz⟩ := List.mem_flatten.mp hz
      obtain ⟨j2, hj2⟩ := List.getElem?_of_mem hg2
      obtain ⟨i, hi1, hi2⟩ := mp_at h1 hj2
      have hne : i ≠ k := fun e2 => hin (by rw [← e2]; exact List.mem_of_getElem? hi1)
      have p2 := List.pairwise_iff_getElem.mp (List.pairwise_flatten.mp (va_D.pw.mp hD).1).2
      obtain ⟨al, ae⟩ := List.getElem?_eq_some_iff.mp hi2
      obtain ⟨bl, be⟩ := List.getElem?_eq_some_iff.mp h6.symm
      rcases Nat.lt_or_gt_of_ne hne with q1 | q1
      · exact p2 i k al bl q1 z (by rw [ae]; exact hz) q (by rw [be]; exact hq) e
      · exact p2 k i bl al q1 q (by rw [be]; exact hq) z (by rw [ae]; exact hz) e.symm
    · have := hat.lt
      omega
theorem sg_nil {W : va_W} : Sg W [] [] W := ⟨[W], [], [], [W], [], [0], by simp, rfl, rfl, by simp, rfl, rfl, rfl, rfl, rfl⟩
theorem sg_all {W W' : va_W} : Sg W W W' W' := ⟨[W], [W], [W'], [W'], [0], [], by simp, by simp, by simp, by simp, rfl, rfl, rfl, rfl, rfl⟩
-- what the launch's statics, the script and nest links are: they lie outside of what is changed
def fstS : List Int32 := [2, 10, 5, 15, 20]
def mstS : List Int32 := [10, 30, 20, 60, 50]
def tabS (l : List Int32) (j : Nat) : Value := .int (l.getD j 0)
def scX (g : Nat → Nat) (j : Nat) : Int32 := Int32.ofNat (g (10 + j))
def GG (g : Nat → Nat) (A : Nat → Prop) (U : State) (H : Heap) : Prop :=
  (va_Z RX8 "FIRST_SETTINGS" "[I" (.ref (g 0)) A U H ∧ va_T .int (g 0) 5 (tabS fstS) A U H) ∧
  (va_Z RX8 "MOST_SETTINGS" "[I" (.ref (g 1)) A U H ∧ va_T .int (g 1) 5 (tabS mstS) A U H) ∧
  va_T .int (g 2) (g 3) (fun j => .int (scX g j)) A U H ∧
  va_Nw (.methodLinkNest RX0 34 yX8_inRange RX8) U ∧ va_Nw (.fieldLinkNest RX0 60 RX8 "MOST_SETTINGS" "[I" RX8) U ∧ va_Nw (.fieldLinkNest RX7 29 RX8 "FIRST_SETTINGS" "[I" RX8) U
theorem GG.go {g : Nat → Nat} {A B : Nat → Prop} {s U : State} {H0 H : Heap} {locs : List Loc} (h : GG g A s H0) (hS : va_S A H0 H locs) (hAB : ∀ q, B q → A q) (hW : s.WarmedH U.vm) : GG g B U H := by
  obtain ⟨⟨a1, a2⟩, ⟨b1, b2⟩, c2, n1, m1, m3⟩ := h
  have hq : ∀ a : Nat, a < H0.size → ¬ A a → H[a]? = H0[a]? := hS.2.1
  exact ⟨⟨((a1.kept hq).narrow hAB).moved hW.alike, ((a2.kept hq).narrow hAB).moved hW.alike⟩, ⟨((b1.kept hq).narrow hAB).moved hW.alike, ((b2.kept hq).narrow hAB).moved hW.alike⟩, ((c2.kept hq).narrow hAB).moved hW.alike, va_Nw.warmM hW n1, va_Nw.warmF hW m1, va_Nw.warmF hW m3⟩
theorem GG.same {g : Nat → Nat} {A : Nat → Prop} {u U : State} {H : Heap} (h : GG g A u H) (hv : U.vm = u.vm) : GG g A U H := by
  obtain ⟨⟨a1, a2⟩, ⟨b1, b2⟩, c2, n1, m1, m3⟩ := h
  have ha : u.vm.Alike U.vm := by rw [hv]; exact Vm.Alike.refl _
  exact ⟨⟨a1.moved ha, a2.moved ha⟩, ⟨b1.moved ha, b2.moved ha⟩, c2.moved ha, va_Nw.same rfl hv.symm n1, va_Nw.same rfl hv.symm m1, va_Nw.same rfl hv.symm m3⟩
-- contracts of methods that make no cell
def qI (D : va_G) (r : Int32) (w' : va_W) (A : Nat → Prop) : Array Value → State → Outcome → State → Prop := va_Qi (fun (r' : Int32) (_ : Unit) => r' = r) (fun _ t => va_P D vwCl w' t.heap) A
def qV (D : va_G) (w' : va_W) (A : Nat → Prop) : Array Value → State → Outcome → State → Prop := va_Qv (fun (_ : Unit) => True) (fun _ t => va_P D vwCl w' t.heap) A
def qR (D : va_G) (r : Option Nat) (w' : va_W) (A : Nat → Prop) : Array Value → State → Outcome → State → Prop := va_Qq (fun (r' : Option Nat) (_ : Unit) => r' = r) (fun _ t => va_P D vwCl w' t.heap) A
def bP (D : va_G) (cI cS : ClassId) (g : Nat → Nat) (w : va_W) (sz : Nat) (U : State) : Prop := U.heap.size = sz ∧ va_P D vwCl w U.heap ∧ va_K D vwCl (tI cI cS) U ∧ va_D (fun _ => True) w ∧ GG g (va_A w sz) U U.heap
theorem bP_blind {D : va_G} {cI cS : ClassId} {g : Nat → Nat} {w : va_W} {sz : Nat} {av : List Value} : FrameBlind (va_Pc av (bP D cI cS g w sz)) := by
  intro a U gg mk q
  obtain ⟨q0, q1, qP, qK, qD, qG⟩ := q
  exact ⟨q0, q1, qP, va_K.moved (u := U) (U := U.calling gg mk a) (Vm.Alike.refl U.vm) qK, qD, GG.same (u := U) (U := U.calling gg mk a) qG rfl⟩
def mI (l : Launch) (y : MethodName) (ws : List Cond) (rm : Room) (D : va_G) (cI cS : ClassId) (g : Nat → Nat) (av : List Value) (w : va_W) (r : Int32) (w' : va_W) : Prop := ∀ sz : Nat, Met l y ws rm (va_Pc av (bP D cI cS g w sz)) (qI D r w' (va_A w sz)) 0 0 (va_A w sz)
def mV (l : Launch) (y : MethodName) (ws : List Cond) (rm : Room) (D : va_G) (cI cS : ClassId) (g : Nat → Nat) (av : List Value) (w : va_W) (w' : va_W) : Prop := ∀ sz : Nat, Met l y ws rm (va_Pc av (bP D cI cS g w sz)) (qV D w' (va_A w sz)) 0 0 (va_A w sz)
def mR (l : Launch) (y : MethodName) (ws : List Cond) (rm : Room) (D : va_G) (cI cS : ClassId) (g : Nat → Nat) (av : List Value) (w : va_W) (r : Option Nat) (w' : va_W) : Prop := ∀ sz : Nat, Met l y ws rm (va_Pc av (bP D cI cS g w sz)) (qR D r w' (va_A w sz)) 0 0 (va_A w sz)
/-- the walk that a contract asks -/
def wk (l : Launch) (y : MethodName) (ws : List Cond) (rm : Room) (D : va_G) (cI cS : ClassId) (g : Nat → Nat) (av : List Value) (w : va_W) (Qc : (Nat → Prop) → Array Value → State → Outcome → State → Prop) (cc : ByteArray) (maxL : Nat) (ret : Option FieldType) : Prop :=
  ∀ (p : Program) (e : Env) (s : State) (m : MethodId) (args : Array Value) (below : List Frame) (meth : Method) (c : Code) (A : Nat → Prop) (ls : Array Slot), p.tables.exec = Jvm.exec → c.code = cc → meth.sig.returnType = ret → c.maxLocals = maxL → meth.locks = false → s.vm.findClass y.cls = some m.cls → (∀ w ∈ ws, w.before args s = true) → (∀ q : Nat, s.heap.size ≤ q → A q) → va_K D vwCl (tI cI cS) s → va_D A w → GG g A s s.heap → va_P D vwCl w s.heap → va_S A s.heap s.heap [] → lv_has ls maxL (lv_args 0 av) → W p l e rm s m args below meth c s.heap [] 0 0 (MQ below (Qc A) args s 0 0 A) (F0 m 0 ls [])
theorem wk_met {l : Launch} {y : MethodName} {ws ws' : List Cond} {rm : Room} {D : va_G} {cI cS : ClassId} {g : Nat → Nat} {av : List Value} {w : va_W} {Qc : (Nat → Prop) → Array Value → State → Outcome → State → Prop} {cc : ByteArray} {maxL : Nat} {ret : Option FieldType} (hw : ws = Cond.code y cc maxL ret :: ws') (hy : plainName y.cls = true) (hn : (lg_sl av).length ≤ maxL)
    (k : wk l y ws rm D cI cS g av w Qc cc maxL ret) (sz : Nat) : Met l y ws rm (va_Pc av (bP D cI cS g w sz)) (Qc (va_A w sz)) 0 0 (va_A w sz) := by
  refine Met.ofW (cc := cc) (maxL := maxL) (ret := ret) hy hw ?_
  intro p e s m args below meth c s₁ B hml hv
  obtain ⟨rfl, hsz, hP, hK, hD0, hG⟩ := hv
  subst hsz
  rw [lg_entry_eq]
  exact k p e s m _ below meth c (va_A w s.heap.size) _ B.exec B.bytes B.returns hml B.notSynchronized (findClass_of_methodNamed B.named) (atoms_spec (ws := ws) B.pre) (fun q h => Or.inr h) hK hD0.self hG hP va_S.rf (lv_entry av hn)
theorem st_I {l : Launch} {y : MethodName} {ws ws' : List Cond} {rm : Room} {D : va_G} {cI cS : ClassId} {g : Nat → Nat} {av : List Value} {w w' : va_W} {r : Int32} {cc : ByteArray} {maxL : Nat} {ret : Option FieldType} (hw : ws = Cond.code y cc maxL ret :: ws') (hy : plainName y.cls = true) (hn : (lg_sl av).length ≤ maxL) (k : wk l y ws rm D cI cS g av w (qI D r w') cc maxL ret) : mI l y ws rm D cI cS g av w r w' := wk_met hw hy hn k
theorem st_V {l : Launch} {y : MethodName} {ws ws' : List Cond} {rm : Room} {D : va_G} {cI cS : ClassId} {g : Nat → Nat} {av : List Value} {w w' : va_W} {cc : ByteArray} {maxL : Nat} {ret : Option FieldType} (hw : ws = Cond.code y cc maxL ret :: ws') (hy : plainName y.cls = true) (hn : (lg_sl av).length ≤ maxL) (k : wk l y ws rm D cI cS g av w (qV D w') cc maxL ret) : mV l y ws rm D cI cS g av w w' := wk_met hw hy hn k
theorem st_R {l : Launch} {y : MethodName} {ws ws' : List Cond} {rm : Room} {D : va_G} {cI cS : ClassId} {g : Nat → Nat} {av : List Value} {w w' : va_W} {r : Option Nat} {cc : ByteArray} {maxL : Nat} {ret : Option FieldType} (hw : ws = Cond.code y cc maxL ret :: ws') (hy : plainName y.cls = true) (hn : (lg_sl av).length ≤ maxL) (k : wk l y ws rm D cI cS g av w (qR D r w') cc maxL ret) : mR l y ws rm D cI cS g av w r w' := wk_met hw hy hn k
section RT
variable {p : Program} {l : Launch} {e : Env} {R : Room} {s : State} {m : MethodId} {args : Array Value} {below : List Frame} {meth : Method} {c : Code} {H : Heap} {locs : List Loc} {cc : ByteArray} {pc : Nat} {ls : Array Slot} {A : Nat → Prop} {D : va_G} {w' : va_W}
theorem rt_I {v r : Int32} (hx : p.tables.exec = Jvm.exec) (hb : c.code = cc) (hr : meth.sig.returnType = some .int) (hlocks : meth.locks = false) (hS : va_S A s.heap H locs) (hP : va_P D vwCl w' H) (er : v = r) (hdg : decode cc pc = .ok (.ireturn, 1)) : W p l e R s m args below meth c H locs 0 0 (MQ below (qI D r w' A) args s 0 0 A) (F0 m pc ls [.int v]) :=
  W.iret (v := v) hx hb hr (fun t ht hW => ⟨⟨v, (), rfl, er, (congrArg (va_P D vwCl w') ht).mpr hP⟩, hS.F ht⟩) hS.2.2 hdg hlocks
theorem rt_Z {v r : Int32} (hx : p.tables.exec = Jvm.exec) (hb : c.code = cc) (hr : meth.sig.returnType = some .boolean) (hlocks : meth.locks = false) (hS : va_S A s.heap H locs) (hP : va_P D vwCl w' H) (hn : narrow .boolean (.int v) = .int v) (er : v = r) (hdg : decode cc pc = .ok (.ireturn, 1)) : W p l e R s m args below meth c H locs 0 0 (MQ below (qI D r w' A) args s 0 0 A) (F0 m pc ls [.int v]) :=
  W.zret (v := v) hx hb hr hn (fun t ht hW => ⟨⟨v, (), rfl, er, (congrArg (va_P D vwCl w') ht).mpr hP⟩, hS.F ht⟩) hS.2.2 hdg hlocks
theorem rt_T {v r : Int32} {ty : FieldType} (hx : p.tables.exec = Jvm.exec) (hb : c.code = cc) (hr : meth.sig.returnType = some ty) (hlocks : meth.locks = false) (hS : va_S A s.heap H locs) (hP : va_P D vwCl w' H) (hn : narrow ty (.int v) = .int v) (er : v = r) (hdg : decode cc pc = .ok (.ireturn, 1)) : W p l e R s m args below meth c H locs 0 0 (MQ below (qI D r w' A) args s 0 0 A) (F0 m pc ls [.int v]) :=
  W.zret (v := v) hx hb hr hn (fun t ht hW => ⟨⟨v, (), rfl, er, (congrArg (va_P D vwCl w') ht).mpr hP⟩, hS.F ht⟩) hS.2.2 hdg hlocks
theorem rt_R {o r : Option Nat} {rt : FieldType} (hx : p.tables.exec = Jvm.exec) (hb : c.code = cc) (hr : meth.sig.returnType = some rt) (hrt : (∃ n, rt = .object n) ∨ ∃ t, rt = .array t) (hlocks : meth.locks = false) (hS : va_S A s.heap H locs) (hP : va_P D vwCl w' H) (er : o = r) (hdg : decode cc pc = .ok (.areturn, 1)) : W p l e R s m args below meth c H locs 0 0 (MQ below (qR D r w' A) args s 0 0 A) (F0 m pc ls [va_rf o]) :=
  W.aret (v := va_rf o) hx hb hr hrt (va_rf_or o) (fun t ht hW => ⟨⟨o, (), rfl, er, (congrArg (va_P D vwCl w') ht).mpr hP⟩, hS.F ht⟩) hS.2.2 hdg hlocks
theorem rt_V (hx : p.tables.exec = Jvm.exec) (hb : c.code = cc) (hr : meth.sig.returnType = none) (hlocks : meth.locks = false) (hS : va_S A s.heap H locs) (hP : va_P D vwCl w' H) (hdg : decode cc pc = .ok (.return_, 1)) : W p l e R s m args below meth c H locs 0 0 (MQ below (qV D w' A) args s 0 0 A) (F0 m pc ls []) :=
  W.vret hx hb hr (fun t ht hW => ⟨⟨(), rfl, trivial, (congrArg (va_P D vwCl w') ht).mpr hP⟩, hS.F ht⟩) hS.2.2 hdg hlocks
end RT
section CLS
variable {p : Program} {l : Launch} {e : Env} {R : Room} {s : State} {m : MethodId} {args : Array Value} {below : List Frame} {meth : Method} {c : Code} {H : Heap} {locs : List Loc} {cc : ByteArray} {pc : Nat} {ls : Array Slot} {A : Nat → Prop} {D : va_G} {Q : State → Prop}
variable {y : MethodName} {ws Ts : List Cond} {rm : Room} {cI cS : ClassId} {g : Nat → Nat} {b : Nat} {As : List Value} {W0 w w' W1 : va_W} {r : Int32} {own C : String} {index maxL nL n : Nat} {bytes : ByteArray} {ret : Option FieldType} {st rest : List Value}
theorem cl_pre (hK : va_K D vwCl (tI cI cS) s) (hD : va_D A W0) (hG : GG g A s s.heap) (hA : ∀ q : Nat, s.heap.size ≤ q → A q) (hP : va_P D vwCl W0 H) (hS : va_S A s.heap H locs) (hsg : Sg W0 w w' W1) :
    (∀ q, va_A w H.size q → A q) ∧ va_P D vwCl w H ∧ ∀ U : State, U.heap = H → s.WarmedH U.vm → bP D cI cS g w H.size U := by
  have hF := hsg.F hD hS hA
  have hPc : va_P D vwCl w H := hsg.P hP
  refine ⟨hF, hPc, fun U hU hW => ⟨by rw [hU], by rw [hU]; exact hPc, va_K.moved hW.alike hK, (hsg.D hD).weaken (fun _ _ _ _ => trivial), by rw [hU]; exact hG.go hS hF hW⟩⟩
theorem cl_VI (S : CallFix p m c cc nL s args Ts own) (hM : mI l y ws rm D cI cS g (.ref b :: As) w r w') (cw : CallW R s args own C index y bytes maxL ret ws rm 0 0 n)
    (hK : va_K D vwCl (tI cI cS) s) (hD : va_D A W0) (hG : GG g A s s.heap) (hA : ∀ q : Nat, s.heap.size ≤ q → A q) (hP : va_P D vwCl W0 H) (hS : va_S A s.heap H locs) (hsg : Sg W0 w w' W1)
    (hsz : ls.size = nL) (hn : As.length = n) (q0 : Nat) {ci : Nat} {fs : List Value} {T : u_T} {N : Nat} (hrc : w[q0]? = some (b, .inr (ci, fs))) (hcl : vwCl[ci]? = some (C, T, N))
    (hst : st = As.reverse ++ .ref b :: rest) (hW : (rest.map fun v => v.category).sum ≤ 8) (hdg : decode cc pc = .ok (.invokevirtual index, 3))
    (kk : ∀ (H1 : Heap) (locs1 : List Loc), va_P D vwCl W1 H1 → va_S A s.heap H1 locs1 → W p l e R s m args below meth c H1 locs1 0 0 Q (F0 m (pc + 3) ls (.int r :: rest))) : W p l e R s m args below meth c H locs 0 0 Q (F0 m pc ls st) := by
  obtain ⟨hF, hPc, hB⟩ := cl_pre (w := w) hK hD hG hA hP hS hsg
  subst hst
  refine va_calli (va_runV (As := As) (rest := rest) S (hM H.size) cw ⟨bP_blind, va_recv hK hPc (ci := ci) (q0 := q0) hcl hrc, fun U hU hW => ⟨rfl, hB U hU hW⟩⟩ rfl hn hsz rfl (lv_room hW) hdg ⟨Nat.zero_le _, Nat.zero_le _⟩) hS (fun q _ h => hF q h) hF (fun r1 u t H1 locs1 ht hvm hw hb1 hz1 hk1 hS1 => ?_)
  subst hw
  rw [ht] at hb1
  exact kk H1 locs1 (hsg.put hP hD hk1 hb1) hS1
theorem cl_VV (S : CallFix p m c cc nL s args Ts own) (hM : mV l y ws rm D cI cS g (.ref b :: As) w w') (cw : CallW R s args own C index y bytes maxL ret ws rm 0 0 n)
    (hK : va_K D vwCl (tI cI cS) s) (hD : va_D A W0) (hG : GG g A s s.heap) (hA : ∀ q : Nat, s.heap.size ≤ q → A q) (hP : va_P D vwCl W0 H) (hS : va_S A s.heap H locs) (hsg : Sg W0 w w' W1)
    (hsz : ls.size = nL) (hn : As.length = n) (q0 : Nat) {ci : Nat} {fs : List Value} {T : u_T} {N : Nat} (hrc : w[q0]? = some (b, .inr (ci, fs))) (hcl : vwCl[ci]? = some (C, T, N))
    (hst : st = As.reverse ++ .ref b :: rest) (hW : (rest.map fun v => v.category).sum ≤ 8) (hdg : decode cc pc = .ok (.invokevirtual index, 3))
    (kk : ∀ (H1 : Heap) (locs1 : List Loc), va_P D vwCl W1 H1 → va_S A s.heap H1 locs1 → W p l e R s m args below meth c H1 locs1 0 0 Q (F0 m (pc + 3) ls (rest))) : W p l e R s m args below meth c H locs 0 0 Q (F0 m pc ls st) := by
  obtain ⟨hF, hPc, hB⟩ := cl_pre (w := w) hK hD hG hA hP hS hsg
  subst hst
  refine va_callv (va_runV (As := As) (rest := rest) S (hM H.size) cw ⟨bP_blind, va_recv hK hPc (ci := ci) (q0 := q0) hcl hrc, fun U hU hW => ⟨rfl, hB U hU hW⟩⟩ rfl hn hsz rfl (lv_room hW) hdg ⟨Nat.zero_le _, Nat.zero_le _⟩) hS (fun q _ h => hF q h) hF (fun u t H1 locs1 ht hvm hw hb1 hz1 hk1 hS1 => ?_)
  rw [ht] at hb1
  exact kk H1 locs1 (hsg.put hP hD hk1 hb1) hS1
theorem cl_VR {o : Option Nat} (S : CallFix p m c cc nL s args Ts own) (hM : mR l y ws rm D cI cS g (.ref b :: As) w o w') (cw : CallW R s args own C index y bytes maxL ret ws rm 0 0 n)
    (hK : va_K D vwCl (tI cI cS) s) (hD : va_D A W0) (hG : GG g A s s.heap) (hA : ∀ q : Nat, s.heap.size ≤ q → A q) (hP : va_P D vwCl W0 H) (hS : va_S A s.heap H locs) (hsg : Sg W0 w w' W1)
    (hsz : ls.size = nL) (hn : As.length = n) (q0 : Nat) {ci : Nat} {fs : List Value} {T : u_T} {N : Nat} (hrc : w[q0]? = some (b, .inr (ci, fs))) (hcl : vwCl[ci]? = some (C, T, N))
    (hst : st = As.reverse ++ .ref b :: rest) (hW : (rest.map fun v => v.category).sum ≤ 8) (hdg : decode cc pc = .ok (.invokevirtual index, 3))
    (kk : ∀ (H1 : Heap) (locs1 : List Loc), va_P D vwCl W1 H1 → va_S A s.heap H1 locs1 → W p l e R s m args below meth c H1 locs1 0 0 Q (F0 m (pc + 3) ls (va_rf o :: rest))) : W p l e R s m args below meth c H locs 0 0 Q (F0 m pc ls st) := by
  obtain ⟨hF, hPc, hB⟩ := cl_pre (w := w) hK hD hG hA hP hS hsg
  subst hst
  refine va_callq (va_runV (As := As) (rest := rest) S (hM H.size) cw ⟨bP_blind, va_recv hK hPc (ci := ci) (q0 := q0) hcl hrc, fun U hU hW => ⟨rfl, hB U hU hW⟩⟩ rfl hn hsz rfl (lv_room hW) hdg ⟨Nat.zero_le _, Nat.zero_le _⟩) hS (fun q _ h => hF q h) hF (fun r1 u t H1 locs1 ht hvm hw hb1 hz1 hk1 hS1 => ?_)
  subst hw
  rw [ht] at hb1
  exact kk H1 locs1 (hsg.put hP hD hk1 hb1) hS1
theorem cl_SI (S : CallFix p m c cc nL s args Ts own) (hM : mI l y ws rm D cI cS g As w r w') (cw : CallB R s args own index y bytes maxL ret ws rm 0 0 n ∧ (Cond.static y).before args s = true)
    (hK : va_K D vwCl (tI cI cS) s) (hD : va_D A W0) (hG : GG g A s s.heap) (hA : ∀ q : Nat, s.heap.size ≤ q → A q) (hP : va_P D vwCl W0 H) (hS : va_S A s.heap H locs) (hsg : Sg W0 w w' W1)
    (hsz : ls.size = nL) (hn : As.length = n) 
    (hst : st = As.reverse ++ rest) (hW : (rest.map fun v => v.category).sum ≤ 8) (hdg : decode cc pc = .ok (.invokestatic index, 3))
    (kk : ∀ (H1 : Heap) (locs1 : List Loc), va_P D vwCl W1 H1 → va_S A s.heap H1 locs1 → W p l e R s m args below meth c H1 locs1 0 0 Q (F0 m (pc + 3) ls (.int r :: rest))) : W p l e R s m args below meth c H locs 0 0 Q (F0 m pc ls st) := by
  obtain ⟨hF, hPc, hB⟩ := cl_pre (w := w) hK hD hG hA hP hS hsg
  subst hst
  refine va_calli (va_runS (As := As) (rest := rest) S (hM H.size) cw ⟨bP_blind, fun U hU hW => ⟨rfl, hB U hU hW⟩⟩ rfl hn hsz rfl (lv_room hW) hdg ⟨Nat.zero_le _, Nat.zero_le _⟩) hS (fun q _ h => hF q h) hF (fun r1 u t H1 locs1 ht hvm hw hb1 hz1 hk1 hS1 => ?_)
  subst hw
  rw [ht] at hb1
  exact kk H1 locs1 (hsg.put hP hD hk1 hb1) hS1
theorem cl_SNI {host : String} (S : CallFix p m c cc nL s args Ts own) (hM : mI l y ws rm D cI cS g As w r w') (cw : va_CN R s args own index y host bytes maxL ret ws rm 0 0 n ∧ (Cond.static y).before args s = true ∧ True)
    (hK : va_K D vwCl (tI cI cS) s) (hD : va_D A W0) (hG : GG g A s s.heap) (hA : ∀ q : Nat, s.heap.size ≤ q → A q) (hP : va_P D vwCl W0 H) (hS : va_S A s.heap H locs) (hsg : Sg W0 w w' W1)
    (hsz : ls.size = nL) (hn : As.length = n) 
    (hst : st = As.reverse ++ rest) (hW : (rest.map fun v => v.category).sum ≤ 8) (hdg : decode cc pc = .ok (.invokestatic index, 3))
    (kk : ∀ (H1 : Heap) (locs1 : List Loc), va_P D vwCl W1 H1 → va_S A s.heap H1 locs1 → W p l e R s m args below meth c H1 locs1 0 0 Q (F0 m (pc + 3) ls (.int r :: rest))) : W p l e R s m args below meth c H locs 0 0 Q (F0 m pc ls st) := by
  obtain ⟨hF, hPc, hB⟩ := cl_pre (w := w) hK hD hG hA hP hS hsg
  subst hst
  refine va_calli (va_runSN (As := As) (rest := rest) S (hM H.size) cw ⟨bP_blind, fun U hU hW => ⟨rfl, hB U hU hW⟩⟩ rfl hn hsz rfl (lv_room hW) hdg ⟨Nat.zero_le _, Nat.zero_le _⟩) hS (fun q _ h => hF q h) hF (fun r1 u t H1 locs1 ht hvm hw hb1 hz1 hk1 hS1 => ?_)
  subst hw
  rw [ht] at hb1
  exact kk H1 locs1 (hsg.put hP hD hk1 hb1) hS1
/-- a virtual call upon a receiver that is no cell of the world -/
theorem cl_KI (S : CallFix p m c cc nL s args Ts own) (hM : mI l y ws rm D cI cS g (.ref b :: As) [] r []) (cw : CallW R s args own C index y bytes maxL ret ws rm 0 0 n)
    (hK : va_K D vwCl (tI cI cS) s) (hD : va_D A W0) (hG : GG g A s s.heap) (hA : ∀ q : Nat, s.heap.size ≤ q → A q) (hP : va_P D vwCl W0 H) (hS : va_S A s.heap H locs)
    (hsz : ls.size = nL) (hn : As.length = n) (hrc : ∃ cell : Cell, H[b]? = some cell ∧ cell.vm.isStatics = false ∧ s.vm.findClass C = some cell.cls)
    (hst : st = As.reverse ++ .ref b :: rest) (hW : (rest.map fun v => v.category).sum ≤ 8) (hdg : decode cc pc = .ok (.invokevirtual index, 3))
    (kk : ∀ (H1 : Heap) (locs1 : List Loc), va_P D vwCl W0 H1 → va_S A s.heap H1 locs1 → W p l e R s m args below meth c H1 locs1 0 0 Q (F0 m (pc + 3) ls (.int r :: rest))) : W p l e R s m args below meth c H locs 0 0 Q (F0 m pc ls st) := by
  obtain ⟨hF, hPc, hB⟩ := cl_pre (w := []) hK hD hG hA hP hS sg_nil
  subst hst
  refine va_calli (va_runV (As := As) (rest := rest) S (hM H.size) cw ⟨bP_blind, hrc, fun U hU hW => ⟨rfl, hB U hU hW⟩⟩ rfl hn hsz rfl (lv_room hW) hdg ⟨Nat.zero_le _, Nat.zero_le _⟩) hS (fun q _ h => hF q h) hF (fun r1 u t H1 locs1 ht hvm hw hb1 hz1 hk1 hS1 => ?_)
  subst hw
  rw [ht] at hb1
  exact kk H1 locs1 (sg_nil.put hP hD hk1 hb1) hS1
theorem cl_SV (S : CallFix p m c cc nL s args Ts own) (hM : mV l y ws rm D cI cS g As [] []) (cw : CallB R s args own index y bytes maxL ret ws rm 0 0 n ∧ (Cond.static y).before args s = true)
    (hK : va_K D vwCl (tI cI cS) s) (hD : va_D A W0) (hG : GG g A s s.heap) (hA : ∀ q : Nat, s.heap.size ≤ q → A q) (hP : va_P D vwCl W0 H) (hS : va_S A s.heap H locs)
    (hsz : ls.size = nL) (hn : As.length = n) (hst : st = As.reverse ++ rest) (hW : (rest.map fun v => v.category).sum ≤ 8) (hdg : decode cc pc = .ok (.invokestatic index, 3))
    (kk : ∀ (H1 : Heap) (locs1 : List Loc), va_P D vwCl W0 H1 → va_S A s.heap H1 locs1 → W p l e R s m args below meth c H1 locs1 0 0 Q (F0 m (pc + 3) ls rest)) : W p l e R s m args below meth c H locs 0 0 Q (F0 m pc ls st) := by
  obtain ⟨hF, hPc, hB⟩ := cl_pre (w := []) hK hD hG hA hP hS sg_nil
  subst hst
  refine va_callv (va_runS (As := As) (rest := rest) S (hM H.size) cw ⟨bP_blind, fun U hU hW => ⟨rfl, hB U hU hW⟩⟩ rfl hn hsz rfl (lv_room hW) hdg ⟨Nat.zero_le _, Nat.zero_le _⟩) hS (fun q _ h => hF q h) hF (fun u t H1 locs1 ht hvm hw hb1 hz1 hk1 hS1 => ?_)
  rw [ht] at hb1
  exact kk H1 locs1 (sg_nil.put hP hD hk1 hb1) hS1
end CLS
abbrev jmax (x y : Int32) : Int32 := if x < y then y else x
abbrev jmin (x y : Int32) : Int32 := if y < x then y else x
abbrev jabs (x : Int32) : Int32 := if 0 ≤ x then x else 0 - x
def b2 {α β ρ : Type} (x : Option (α × β)) (k : α → β → Option ρ) : Option ρ := x.bind (fun q => k q.1 q.2)
theorem b2_use {α β ρ : Type} {x : Option (α × β)} {k : α → β → Option ρ} {o : ρ} (h : b2 x k = some o) : ∃ a b, x = some (a, b) ∧ k a b = some o := by
  obtain ⟨⟨a, b⟩, h1, h2⟩ := bd_use h
  exact ⟨a, b, h1, h2⟩
theorem sw_ne {x : Int32} {k : Int32} (h : ¬ x = k) : x.toInt ≠ k.toInt := fun e => h (Int32.toInt_inj.mp e)
theorem sw_out6 {x : Int32} (h0 : ¬ x = 0) (h1 : ¬ x = 1) (h2 : ¬ x = 2) (h3 : ¬ x = 3) (h4 : ¬ x = 4) (h5 : ¬ x = 5) : x.toInt < 0 ∨ 5 < x.toInt := by
  have a0 : x.toInt ≠ 0 := sw_ne h0
  have a1 : x.toInt ≠ 1 := sw_ne h1
  have a2 : x.toInt ≠ 2 := sw_ne h2
  have a3 : x.toInt ≠ 3 := sw_ne h3
  have a4 : x.toInt ≠ 4 := sw_ne h4
  have a5 : x.toInt ≠ 5 := sw_ne h5
  omega
theorem sw_out7 {x : Int32} (h0 : ¬ x = 0) (h1 : ¬ x = 1) (h2 : ¬ x = 2) (h3 : ¬ x = 3) (h4 : ¬ x = 4) (h5 : ¬ x = 5) (h6 : ¬ x = 6) : x.toInt < 0 ∨ 6 < x.toInt := by
  have := sw_out6 h0 h1 h2 h3 h4 h5
  have a6 : x.toInt ≠ 6 := sw_ne h6
  omega
theorem zb_use3 {ρ : Type} {v : Int32} {k : Option ρ} {o : ρ} (h : Zb v k = some o) : narrow .boolean (.int v) = .int v ∧ fits .boolean (.int v) = true ∧ k = some o := by
  unfold Zb at h
  by_cases c : v = 0 ∨ v = 1
  · rw [if_pos c] at h
    refine ⟨?_, ?_, h⟩
    · rcases c with rfl | rfl <;> rfl
    · rcases c with rfl | rfl <;> rfl
  · rw [if_neg c] at h; cases h
def Cp {ρ : Type} (f g : Nat → Int32) (n0 n1 : Nat) (n : Int32) (k : (Nat → Int32) → Option ρ) : Option ρ := if ¬ n < 0 ∧ n.toNatClampNeg ≤ n0 ∧ n.toNatClampNeg ≤ n1 then k (va_cpy f g (0 : Int32).toNatClampNeg (0 : Int32).toNatClampNeg n.toNatClampNeg) else none
theorem cp_use {ρ : Type} {f g : Nat → Int32} {n0 n1 : Nat} {n : Int32} {k : (Nat → Int32) → Option ρ} {o : ρ} (h : Cp f g n0 n1 n k = some o) : (¬ n < 0 ∧ (0 : Int32).toNatClampNeg + n.toNatClampNeg ≤ n0 ∧ (0 : Int32).toNatClampNeg + n.toNatClampNeg ≤ n1) ∧ k (va_cpy f g (0 : Int32).toNatClampNeg (0 : Int32).toNatClampNeg n.toNatClampNeg) = some o := by
  unfold Cp at h
  by_cases c : ¬ n < 0 ∧ n.toNatClampNeg ≤ n0 ∧ n.toNatClampNeg ≤ n1
  · rw [if_pos c] at h
    have e : (0 : Int32).toNatClampNeg = 0 := sb_cl0
    exact ⟨⟨c.1, by rw [e]; omega, by rw [e]; omega⟩, h⟩
  · rw [if_neg c] at h; cases h
-- words of BIG
theorem gdAll {ws : List Cond} (h : ∀ w ∈ ws, w ∈ BIG) : GoodIn BIG ws := fun w hw => ⟨h w hw, good_of_word (big_good w (h w hw))⟩
theorem gdV {own : String} {idx : Nat} {C : String} {y : MethodName} {c : ByteArray} {n : Nat} {ret : Option FieldType} (h1 : Cond.methodLink own idx y ∈ BIG) (h2 : Cond.instanceMethod y ∈ BIG) (h3 : Cond.selects C y y ∈ BIG) (h4 : Cond.initialized C ∈ BIG) (h5 : Cond.code y c n ret ∈ BIG) : GoodIn BIG (wsV own idx C y (Cond.code y c n ret :: BIG)) := by
  refine gdAll (fun w hw => ?_)
  unfold wsV at hw
  simp only [List.cons_append, List.nil_append, List.mem_cons] at hw
  rcases hw with rfl | rfl | rfl | rfl | rfl | h
  · exact h1
  · exact h2
  · exact h3
  · exact h4
  · exact h5
  · exact h
theorem gdS {own : String} {idx : Nat} {y : MethodName} {c : ByteArray} {n : Nat} {ret : Option FieldType} (h1 : Cond.methodLink own idx y ∈ BIG) (h2 : Cond.static y ∈ BIG) (h4 : Cond.initialized y.cls ∈ BIG) (h5 : Cond.code y c n ret ∈ BIG) : GoodIn BIG (va_wsS own idx y (Cond.code y c n ret :: BIG)) := by
  refine gdAll (fun w hw => ?_)
  unfold va_wsS at hw
  simp only [List.cons_append, List.nil_append, List.mem_cons] at hw
  rcases hw with rfl | rfl | rfl | rfl | h
  · exact h1
  · exact h2
  · exact h4
  · exact h5
  · exact h
theorem gdN {y : MethodName} {c : ByteArray} {n : Nat} {ret : Option FieldType} (h5 : Cond.code y c n ret ∈ BIG) : GoodIn BIG (Cond.code y c n ret :: BIG) := by
  refine gdAll (fun w hw => ?_)
  rcases List.mem_cons.mp hw with rfl | h
  · exact h5
  · exact h
theorem kin_of {C : String} {T : u_T} {N : Nat} (h : ∀ k, k < N → u_lay C T k ∈ BIG) : ∀ w ∈ u_ws C T N, w ∈ BIG := by
  intro w hw
  obtain ⟨k, hk, rfl⟩ := List.mem_map.mp hw
  exact h k (List.mem_range.mp hk)
theorem sw_lk2 {a o b q d : Int} {x A B : Int32} (ha : A.toInt = a) (hb : B.toInt = b) (h1 : ¬ x = A) (h2 : ¬ x = B) : Op.lookupswitch.offset [(a, o), (b, q)] d x.toInt = d := by
  have e1 : ¬ a = x.toInt := fun e => h1 (Int32.toInt_inj.mp (by rw [ha, e]))
  have e2 : ¬ b = x.toInt := fun e => h2 (Int32.toInt_inj.mp (by rw [hb, e]))
  rw [Op.lookupswitch.offset_cons, if_neg e1, Op.lookupswitch.offset_cons, if_neg e2, Op.lookupswitch.offset_nil]
theorem kin0 : ∀ w ∈ u_ws RX0 TX0 5, w ∈ BIG := kin_of (fun k hk => match k, hk with | 0, _ => bw1_140 | 1, _ => bw1_142 | 2, _ => bw1_144 | 3, _ => bw1_146 | 4, _ => bw1_148 | k + 5, h => absurd h (by omega))
theorem kin1 : ∀ w ∈ u_ws RX1 TX1 2, w ∈ BIG := kin_of (fun k hk => match k, hk with | 0, _ => bw1_178 | 1, _ => bw1_180 | k + 2, h => absurd h (by omega))
theorem kin2 : ∀ w ∈ u_ws RX2 TX2 3, w ∈ BIG := kin_of (fun k hk => match k, hk with | 0, _ => bw1_160 | 1, _ => bw1_162 | 2, _ => bw1_164 | k + 3, h => absurd h (by omega))
theorem kin3 : ∀ w ∈ u_ws RX3 TX3 6, w ∈ BIG := kin_of (fun k hk => match k, hk with | 0, _ => bw1_192 | 1, _ => bw1_194 | 2, _ => bw1_196 | 3, _ => bw1_198 | 4, _ => bw1_200 | 5, _ => bw1_202 | k + 6, h => absurd h (by omega))
theorem kin4 : ∀ w ∈ u_ws RX4 TX4 2, w ∈ BIG := kin_of (fun k hk => match k, hk with | 0, _ => bw1_113 | 1, _ => bw1_115 | k + 2, h => absurd h (by omega))
theorem kin5 : ∀ w ∈ u_ws RX5 TX5 3, w ∈ BIG := kin_of (fun k hk => match k, hk with | 0, _ => bw1_122 | 1, _ => bw1_124 | 2, _ => bw1_126 | k + 3, h => absurd h (by omega))
theorem kin6 : ∀ w ∈ u_ws RX6 TX6 4, w ∈ BIG := kin_of (fun k hk => match k, hk with | 0, _ => bw1_45 | 1, _ => bw1_47 | 2, _ => bw1_49 | 3, _ => bw1_51 | k + 4, h => absurd h (by omega))
theorem kin7 : ∀ w ∈ u_ws RX7 TX7 6, w ∈ BIG := kin_of (fun k hk => match k, hk with | 0, _ => bw1_89 | 1, _ => bw1_91 | 2, _ => bw1_93 | 3, _ => bw1_95 | 4, _ => bw1_97 | 5, _ => bw1_99 | k + 6, h => absurd h (by omega))
theorem kin8 : ∀ w ∈ u_ws RX8 TX8 6, w ∈ BIG := kin_of (fun k hk => match k, hk with | 0, _ => bw1_211 | 1, _ => bw1_213 | 2, _ => bw1_215 | 3, _ => bw1_217 | 4, _ => bw1_219 | 5, _ => bw1_221 | k + 6, h => absurd h (by omega))
end
