section
-- ===== PART A: goes FIRST, ahead of the names: the tables' words, and 'selects' of the private methods out of them =====
/-- a private method of a class that the tables say can be made, by its rows of tables_1 -/
def lw_okq (q : MethodName × Nat) : Prop := (q.1.cls ≠ "java/lang/invoke/MethodHandle" ∧ q.1.cls ≠ "java/lang/invoke/VarHandle") ∧ Cond.instantiable q.1.cls q.2 ∈ tables_1 ∧ Cond.privateMethod q.1 ∈ tables_1 ∧ Cond.instanceMethod q.1 ∈ tables_1
theorem lw_p0 : lw_okq (⟨"TeamRooms$History", "stateAt", "(I)LTeamRooms$State;"⟩, 2) := ⟨⟨by decide +kernel, by decide +kernel⟩, List.mem_of_getElem? (i := 175) (by decide +kernel), List.mem_of_getElem? (i := 243) (by decide +kernel), List.mem_of_getElem? (i := 244) (by decide +kernel)⟩
theorem lw_p1 : lw_okq (⟨"TeamRooms$History", "record", "()V"⟩, 2) := ⟨⟨by decide +kernel, by decide +kernel⟩, List.mem_of_getElem? (i := 175) (by decide +kernel), List.mem_of_getElem? (i := 284) (by decide +kernel), List.mem_of_getElem? (i := 285) (by decide +kernel)⟩
theorem lw_p2 : lw_okq (⟨"TeamRooms$Desk", "payCharge", "(III)V"⟩, 5) := ⟨⟨by decide +kernel, by decide +kernel⟩, List.mem_of_getElem? (i := 137) (by decide +kernel), List.mem_of_getElem? (i := 359) (by decide +kernel), List.mem_of_getElem? (i := 360) (by decide +kernel)⟩
theorem lw_p3 : lw_okq (⟨"TeamRooms$Desk", "refund", "(II)V"⟩, 5) := ⟨⟨by decide +kernel, by decide +kernel⟩, List.mem_of_getElem? (i := 137) (by decide +kernel), List.mem_of_getElem? (i := 402) (by decide +kernel), List.mem_of_getElem? (i := 403) (by decide +kernel)⟩
theorem lw_p4 : lw_okq (⟨"TeamRooms$Desk", "refundPayment", "(II)I"⟩, 5) := ⟨⟨by decide +kernel, by decide +kernel⟩, List.mem_of_getElem? (i := 137) (by decide +kernel), List.mem_of_getElem? (i := 410) (by decide +kernel), List.mem_of_getElem? (i := 411) (by decide +kernel)⟩
theorem lw_p5 : lw_okq (⟨"TeamRooms$Desk", "handOver", "(III)V"⟩, 5) := ⟨⟨by decide +kernel, by decide +kernel⟩, List.mem_of_getElem? (i := 137) (by decide +kernel), List.mem_of_getElem? (i := 422) (by decide +kernel), List.mem_of_getElem? (i := 423) (by decide +kernel)⟩
theorem lw_p6 : lw_okq (⟨"TeamRooms$Desk", "handOverPayments", "(II)V"⟩, 5) := ⟨⟨by decide +kernel, by decide +kernel⟩, List.mem_of_getElem? (i := 137) (by decide +kernel), List.mem_of_getElem? (i := 426) (by decide +kernel), List.mem_of_getElem? (i := 427) (by decide +kernel)⟩
theorem lw_p7 : lw_okq (⟨"TeamRooms$Desk", "occupy", "(III)I"⟩, 5) := ⟨⟨by decide +kernel, by decide +kernel⟩, List.mem_of_getElem? (i := 137) (by decide +kernel), List.mem_of_getElem? (i := 444) (by decide +kernel), List.mem_of_getElem? (i := 445) (by decide +kernel)⟩
theorem lw_p8 : lw_okq (⟨"TeamRooms$Program", "readToken", "()V"⟩, 6) := ⟨⟨by decide +kernel, by decide +kernel⟩, List.mem_of_getElem? (i := 191) (by decide +kernel), List.mem_of_getElem? (i := 510) (by decide +kernel), List.mem_of_getElem? (i := 511) (by decide +kernel)⟩
theorem lw_p9 : lw_okq (⟨"TeamRooms$Program", "signAt", "(I)I"⟩, 6) := ⟨⟨by decide +kernel, by decide +kernel⟩, List.mem_of_getElem? (i := 191) (by decide +kernel), List.mem_of_getElem? (i := 514) (by decide +kernel), List.mem_of_getElem? (i := 515) (by decide +kernel)⟩
theorem lw_p10 : lw_okq (⟨"TeamRooms$Program", "kindOf", "(I)I"⟩, 6) := ⟨⟨by decide +kernel, by decide +kernel⟩, List.mem_of_getElem? (i := 191) (by decide +kernel), List.mem_of_getElem? (i := 518) (by decide +kernel), List.mem_of_getElem? (i := 519) (by decide +kernel)⟩
theorem lw_p11 : lw_okq (⟨"TeamRooms$Program", "commandWord", "()I"⟩, 6) := ⟨⟨by decide +kernel, by decide +kernel⟩, List.mem_of_getElem? (i := 191) (by decide +kernel), List.mem_of_getElem? (i := 522) (by decide +kernel), List.mem_of_getElem? (i := 523) (by decide +kernel)⟩
theorem lw_p12 : lw_okq (⟨"TeamRooms$Program", "isWord", "(Ljava/lang/String;)Z"⟩, 6) := ⟨⟨by decide +kernel, by decide +kernel⟩, List.mem_of_getElem? (i := 191) (by decide +kernel), List.mem_of_getElem? (i := 527) (by decide +kernel), List.mem_of_getElem? (i := 528) (by decide +kernel)⟩
theorem lw_p13 : lw_okq (⟨"TeamRooms$Program", "readNumbers", "(I)Z"⟩, 6) := ⟨⟨by decide +kernel, by decide +kernel⟩, List.mem_of_getElem? (i := 191) (by decide +kernel), List.mem_of_getElem? (i := 585) (by decide +kernel), List.mem_of_getElem? (i := 586) (by decide +kernel)⟩
theorem lw_p14 : lw_okq (⟨"TeamRooms$Program", "isNumber", "()Z"⟩, 6) := ⟨⟨by decide +kernel, by decide +kernel⟩, List.mem_of_getElem? (i := 191) (by decide +kernel), List.mem_of_getElem? (i := 591) (by decide +kernel), List.mem_of_getElem? (i := 592) (by decide +kernel)⟩
theorem lw_p15 : lw_okq (⟨"TeamRooms$Program", "numberValue", "()I"⟩, 6) := ⟨⟨by decide +kernel, by decide +kernel⟩, List.mem_of_getElem? (i := 191) (by decide +kernel), List.mem_of_getElem? (i := 595) (by decide +kernel), List.mem_of_getElem? (i := 596) (by decide +kernel)⟩
def lw_privs_1 : List (MethodName × Nat) := [(⟨"TeamRooms$History", "stateAt", "(I)LTeamRooms$State;"⟩, 2), (⟨"TeamRooms$History", "record", "()V"⟩, 2), (⟨"TeamRooms$Desk", "payCharge", "(III)V"⟩, 5), (⟨"TeamRooms$Desk", "refund", "(II)V"⟩, 5), (⟨"TeamRooms$Desk", "refundPayment", "(II)I"⟩, 5), (⟨"TeamRooms$Desk", "handOver", "(III)V"⟩, 5), (⟨"TeamRooms$Desk", "handOverPayments", "(II)V"⟩, 5), (⟨"TeamRooms$Desk", "occupy", "(III)I"⟩, 5), (⟨"TeamRooms$Program", "readToken", "()V"⟩, 6), (⟨"TeamRooms$Program", "signAt", "(I)I"⟩, 6), (⟨"TeamRooms$Program", "kindOf", "(I)I"⟩, 6), (⟨"TeamRooms$Program", "commandWord", "()I"⟩, 6), (⟨"TeamRooms$Program", "isWord", "(Ljava/lang/String;)Z"⟩, 6), (⟨"TeamRooms$Program", "readNumbers", "(I)Z"⟩, 6), (⟨"TeamRooms$Program", "isNumber", "()Z"⟩, 6), (⟨"TeamRooms$Program", "numberValue", "()I"⟩, 6)]
theorem lw_r1 : ∀ q ∈ lw_privs_1, lw_okq q := List.forall_mem_cons.mpr ⟨lw_p0, List.forall_mem_cons.mpr ⟨lw_p1, List.forall_mem_cons.mpr ⟨lw_p2, List.forall_mem_cons.mpr ⟨lw_p3, List.forall_mem_cons.mpr ⟨lw_p4, List.forall_mem_cons.mpr ⟨lw_p5, List.forall_mem_cons.mpr ⟨lw_p6, List.forall_mem_cons.mpr ⟨lw_p7, List.forall_mem_cons.mpr ⟨lw_p8, List.forall_mem_cons.mpr ⟨lw_p9, List.forall_mem_cons.mpr ⟨lw_p10, List.forall_mem_cons.mpr ⟨lw_p11, List.forall_mem_cons.mpr ⟨lw_p12, List.forall_mem_cons.mpr ⟨lw_p13, List.forall_mem_cons.mpr ⟨lw_p14, List.forall_mem_cons.mpr ⟨lw_p15, fun _ h => absurd h List.not_mem_nil⟩⟩⟩⟩⟩⟩⟩⟩⟩⟩⟩⟩⟩⟩⟩⟩
theorem lw_p16 : lw_okq (⟨"TeamRooms$Program", "isSemicolon", "()Z"⟩, 6) := ⟨⟨by decide +kernel, by decide +kernel⟩, List.mem_of_getElem? (i := 191) (by decide +kernel), List.mem_of_getElem? (i := 599) (by decide +kernel), List.mem_of_getElem? (i := 600) (by decide +kernel)⟩
theorem lw_p17 : lw_okq (⟨"TeamRooms$Program", "obey", "(LTeamRooms$Desk;I)I"⟩, 6) := ⟨⟨by decide +kernel, by decide +kernel⟩, List.mem_of_getElem? (i := 191) (by decide +kernel), List.mem_of_getElem? (i := 603) (by decide +kernel), List.mem_of_getElem? (i := 604) (by decide +kernel)⟩
theorem lw_p18 : lw_okq (⟨"TeamRooms$Venue", "isPaidWith", "(II)Z"⟩, 6) := ⟨⟨by decide +kernel, by decide +kernel⟩, List.mem_of_getElem? (i := 32) (by decide +kernel), List.mem_of_getElem? (i := 658) (by decide +kernel), List.mem_of_getElem? (i := 659) (by decide +kernel)⟩
theorem lw_p19 : lw_okq (⟨"TeamRooms$Outlook", "playersTogether", "(III)I"⟩, 3) := ⟨⟨by decide +kernel, by decide +kernel⟩, List.mem_of_getElem? (i := 159) (by decide +kernel), List.mem_of_getElem? (i := 705) (by decide +kernel), List.mem_of_getElem? (i := 706) (by decide +kernel)⟩
theorem lw_p20 : lw_okq (⟨"TeamRooms$Outlook", "roomsAheadOf", "(I)I"⟩, 3) := ⟨⟨by decide +kernel, by decide +kernel⟩, List.mem_of_getElem? (i := 159) (by decide +kernel), List.mem_of_getElem? (i := 736) (by decide +kernel), List.mem_of_getElem? (i := 737) (by decide +kernel)⟩
theorem lw_p21 : lw_okq (⟨"TeamRoomsModel", "hold", "()V"⟩, 10) := ⟨⟨by decide +kernel, by decide +kernel⟩, List.mem_of_getElem? (i := 740) (by decide +kernel), List.mem_of_getElem? (i := 781) (by decide +kernel), List.mem_of_getElem? (i := 782) (by decide +kernel)⟩
theorem lw_p22 : lw_okq (⟨"TeamRoomsModel", "doRoom", "(IIII)I"⟩, 10) := ⟨⟨by decide +kernel, by decide +kernel⟩, List.mem_of_getElem? (i := 740) (by decide +kernel), List.mem_of_getElem? (i := 785) (by decide +kernel), List.mem_of_getElem? (i := 786) (by decide +kernel)⟩
theorem lw_p23 : lw_okq (⟨"TeamRoomsModel", "ends", "(I)I"⟩, 10) := ⟨⟨by decide +kernel, by decide +kernel⟩, List.mem_of_getElem? (i := 740) (by decide +kernel), List.mem_of_getElem? (i := 792) (by decide +kernel), List.mem_of_getElem? (i := 793) (by decide +kernel)⟩
theorem lw_p24 : lw_okq (⟨"TeamRoomsModel", "isRoom", "(I)Z"⟩, 10) := ⟨⟨by decide +kernel, by decide +kernel⟩, List.mem_of_getElem? (i := 740) (by decide +kernel), List.mem_of_getElem? (i := 800) (by decide +kernel), List.mem_of_getElem? (i := 801) (by decide +kernel)⟩
theorem lw_p25 : lw_okq (⟨"TeamRoomsModel", "of", "(II)I"⟩, 10) := ⟨⟨by decide +kernel, by decide +kernel⟩, List.mem_of_getElem? (i := 740) (by decide +kernel), List.mem_of_getElem? (i := 804) (by decide +kernel), List.mem_of_getElem? (i := 805) (by decide +kernel)⟩
theorem lw_p26 : lw_okq (⟨"TeamRoomsModel", "doGift", "(I)I"⟩, 10) := ⟨⟨by decide +kernel, by decide +kernel⟩, List.mem_of_getElem? (i := 740) (by decide +kernel), List.mem_of_getElem? (i := 819) (by decide +kernel), List.mem_of_getElem? (i := 820) (by decide +kernel)⟩
theorem lw_p27 : lw_okq (⟨"TeamRoomsModel", "doBook", "(IIII)I"⟩, 10) := ⟨⟨by decide +kernel, by decide +kernel⟩, List.mem_of_getElem? (i := 740) (by decide +kernel), List.mem_of_getElem? (i := 827) (by decide +kernel), List.mem_of_getElem? (i := 828) (by decide +kernel)⟩
theorem lw_p28 : lw_okq (⟨"TeamRoomsModel", "isVoucher", "(I)Z"⟩, 10) := ⟨⟨by decide +kernel, by decide +kernel⟩, List.mem_of_getElem? (i := 740) (by decide +kernel), List.mem_of_getElem? (i := 831) (by decide +kernel), List.mem_of_getElem? (i := 832) (by decide +kernel)⟩
theorem lw_p29 : lw_okq (⟨"TeamRoomsModel", "isPossible", "(III)Z"⟩, 10) := ⟨⟨by decide +kernel, by decide +kernel⟩, List.mem_of_getElem? (i := 740) (by decide +kernel), List.mem_of_getElem? (i := 835) (by decide +kernel), List.mem_of_getElem? (i := 836) (by decide +kernel)⟩
theorem lw_p30 : lw_okq (⟨"TeamRoomsModel", "its", "(II)I"⟩, 10) := ⟨⟨by decide +kernel, by decide +kernel⟩, List.mem_of_getElem? (i := 740) (by decide +kernel), List.mem_of_getElem? (i := 839) (by decide +kernel), List.mem_of_getElem? (i := 840) (by decide +kernel)⟩
theorem lw_p31 : lw_okq (⟨"TeamRoomsModel", "lays", "(III)V"⟩, 10) := ⟨⟨by decide +kernel, by decide +kernel⟩, List.mem_of_getElem? (i := 740) (by decide +kernel), List.mem_of_getElem? (i := 846) (by decide +kernel), List.mem_of_getElem? (i := 847) (by decide +kernel)⟩
def lw_privs_2 : List (MethodName × Nat) := [(⟨"TeamRooms$Program", "isSemicolon", "()Z"⟩, 6), (⟨"TeamRooms$Program", "obey", "(LTeamRooms$Desk;I)I"⟩, 6), (⟨"TeamRooms$Venue", "isPaidWith", "(II)Z"⟩, 6), (⟨"TeamRooms$Outlook", "playersTogether", "(III)I"⟩, 3), (⟨"TeamRooms$Outlook", "roomsAheadOf", "(I)I"⟩, 3), (⟨"TeamRoomsModel", "hold", "()V"⟩, 10), (⟨"TeamRoomsModel", "doRoom", "(IIII)I"⟩, 10), (⟨"TeamRoomsModel", "ends", "(I)I"⟩, 10), (⟨"TeamRoomsModel", "isRoom", "(I)Z"⟩, 10), (⟨"TeamRoomsModel", "of", "(II)I"⟩, 10), (⟨"TeamRoomsModel", "doGift", "(I)I"⟩, 10), (⟨"TeamRoomsModel", "doBook", "(IIII)I"⟩, 10), (⟨"TeamRoomsModel", "isVoucher", "(I)Z"⟩, 10), (⟨"TeamRoomsModel", "isPossible", "(III)Z"⟩, 10), (⟨"TeamRoomsModel", "its", "(II)I"⟩, 10), (⟨"TeamRoomsModel", "lays", "(III)V"⟩, 10)]
theorem lw_r2 : ∀ q ∈ lw_privs_2, lw_okq q := List.forall_mem_cons.mpr ⟨lw_p16, List.forall_mem_cons.mpr ⟨lw_p17, List.forall_mem_cons.mpr ⟨lw_p18, List.forall_mem_cons.mpr ⟨lw_p19, List.forall_mem_cons.mpr ⟨lw_p20, List.forall_mem_cons.mpr ⟨lw_p21, List.forall_mem_cons.mpr ⟨lw_p22, List.forall_mem_cons.mpr ⟨lw_p23, List.forall_mem_cons.mpr ⟨lw_p24, List.forall_mem_cons.mpr ⟨lw_p25, List.forall_mem_cons.mpr ⟨lw_p26, List.forall_mem_cons.mpr ⟨lw_p27, List.forall_mem_cons.mpr ⟨lw_p28, List.forall_mem_cons.mpr ⟨lw_p29, List.forall_mem_cons.mpr ⟨lw_p30, List.forall_mem_cons.mpr ⟨lw_p31, fun _ h => absurd h List.not_mem_nil⟩⟩⟩⟩⟩⟩⟩⟩⟩⟩⟩⟩⟩⟩⟩⟩
theorem lw_p32 : lw_okq (⟨"TeamRoomsModel", "isBooking", "(I)Z"⟩, 10) := ⟨⟨by decide +kernel, by decide +kernel⟩, List.mem_of_getElem? (i := 740) (by decide +kernel), List.mem_of_getElem? (i := 854) (by decide +kernel), List.mem_of_getElem? (i := 855) (by decide +kernel)⟩
theorem lw_p33 : lw_okq (⟨"TeamRoomsModel", "doDrop", "(I)I"⟩, 10) := ⟨⟨by decide +kernel, by decide +kernel⟩, List.mem_of_getElem? (i := 740) (by decide +kernel), List.mem_of_getElem? (i := 862) (by decide +kernel), List.mem_of_getElem? (i := 863) (by decide +kernel)⟩
theorem lw_p34 : lw_okq (⟨"TeamRoomsModel", "byVouchers", "(I)I"⟩, 10) := ⟨⟨by decide +kernel, by decide +kernel⟩, List.mem_of_getElem? (i := 740) (by decide +kernel), List.mem_of_getElem? (i := 866) (by decide +kernel), List.mem_of_getElem? (i := 867) (by decide +kernel)⟩
theorem lw_p35 : lw_okq (⟨"TeamRoomsModel", "startOf", "(II)I"⟩, 10) := ⟨⟨by decide +kernel, by decide +kernel⟩, List.mem_of_getElem? (i := 740) (by decide +kernel), List.mem_of_getElem? (i := 870) (by decide +kernel), List.mem_of_getElem? (i := 871) (by decide +kernel)⟩
theorem lw_p36 : lw_okq (⟨"TeamRoomsModel", "nextOf", "(II)I"⟩, 10) := ⟨⟨by decide +kernel, by decide +kernel⟩, List.mem_of_getElem? (i := 740) (by decide +kernel), List.mem_of_getElem? (i := 874) (by decide +kernel), List.mem_of_getElem? (i := 875) (by decide +kernel)⟩
theorem lw_p37 : lw_okq (⟨"TeamRoomsModel", "refunds", "(II)V"⟩, 10) := ⟨⟨by decide +kernel, by decide +kernel⟩, List.mem_of_getElem? (i := 740) (by decide +kernel), List.mem_of_getElem? (i := 881) (by decide +kernel), List.mem_of_getElem? (i := 882) (by decide +kernel)⟩
theorem lw_p38 : lw_okq (⟨"TeamRoomsModel", "adds", "(III)V"⟩, 10) := ⟨⟨by decide +kernel, by decide +kernel⟩, List.mem_of_getElem? (i := 740) (by decide +kernel), List.mem_of_getElem? (i := 885) (by decide +kernel), List.mem_of_getElem? (i := 886) (by decide +kernel)⟩
theorem lw_p39 : lw_okq (⟨"TeamRoomsModel", "doJoin", "(II)I"⟩, 10) := ⟨⟨by decide +kernel, by decide +kernel⟩, List.mem_of_getElem? (i := 740) (by decide +kernel), List.mem_of_getElem? (i := 893) (by decide +kernel), List.mem_of_getElem? (i := 894) (by decide +kernel)⟩
theorem lw_p40 : lw_okq (⟨"TeamRoomsModel", "doPlay", "(IIII)I"⟩, 10) := ⟨⟨by decide +kernel, by decide +kernel⟩, List.mem_of_getElem? (i := 740) (by decide +kernel), List.mem_of_getElem? (i := 901) (by decide +kernel), List.mem_of_getElem? (i := 902) (by decide +kernel)⟩
theorem lw_p41 : lw_okq (⟨"TeamRoomsModel", "counts", "(III)V"⟩, 10) := ⟨⟨by decide +kernel, by decide +kernel⟩, List.mem_of_getElem? (i := 740) (by decide +kernel), List.mem_of_getElem? (i := 905) (by decide +kernel), List.mem_of_getElem? (i := 906) (by decide +kernel)⟩
theorem lw_p42 : lw_okq (⟨"TeamRoomsModel", "shareOf", "(II)I"⟩, 10) := ⟨⟨by decide +kernel, by decide +kernel⟩, List.mem_of_getElem? (i := 740) (by decide +kernel), List.mem_of_getElem? (i := 909) (by decide +kernel), List.mem_of_getElem? (i := 910) (by decide +kernel)⟩
theorem lw_p43 : lw_okq (⟨"TeamRoomsModel", "skips", "()V"⟩, 10) := ⟨⟨by decide +kernel, by decide +kernel⟩, List.mem_of_getElem? (i := 740) (by decide +kernel), List.mem_of_getElem? (i := 937) (by decide +kernel), List.mem_of_getElem? (i := 938) (by decide +kernel)⟩
theorem lw_p44 : lw_okq (⟨"TeamRoomsModel", "isAt", "(II)Z"⟩, 10) := ⟨⟨by decide +kernel, by decide +kernel⟩, List.mem_of_getElem? (i := 740) (by decide +kernel), List.mem_of_getElem? (i := 941) (by decide +kernel), List.mem_of_getElem? (i := 942) (by decide +kernel)⟩
theorem lw_p45 : lw_okq (⟨"TeamRoomsModel", "isDone", "()Z"⟩, 10) := ⟨⟨by decide +kernel, by decide +kernel⟩, List.mem_of_getElem? (i := 740) (by decide +kernel), List.mem_of_getElem? (i := 945) (by decide +kernel), List.mem_of_getElem? (i := 946) (by decide +kernel)⟩
theorem lw_p46 : lw_okq (⟨"TeamRoomsModel", "isWord", "()Z"⟩, 10) := ⟨⟨by decide +kernel, by decide +kernel⟩, List.mem_of_getElem? (i := 740) (by decide +kernel), List.mem_of_getElem? (i := 949) (by decide +kernel), List.mem_of_getElem? (i := 950) (by decide +kernel)⟩
theorem lw_p47 : lw_okq (⟨"TeamRoomsModel", "isNumber", "(I)Z"⟩, 10) := ⟨⟨by decide +kernel, by decide +kernel⟩, List.mem_of_getElem? (i := 740) (by decide +kernel), List.mem_of_getElem? (i := 963) (by decide +kernel), List.mem_of_getElem? (i := 964) (by decide +kernel)⟩
def lw_privs_3 : List (MethodName × Nat) := [(⟨"TeamRoomsModel", "isBooking", "(I)Z"⟩, 10), (⟨"TeamRoomsModel", "doDrop", "(I)I"⟩, 10), (⟨"TeamRoomsModel", "byVouchers", "(I)I"⟩, 10), (⟨"TeamRoomsModel", "startOf", "(II)I"⟩, 10), (⟨"TeamRoomsModel", "nextOf", "(II)I"⟩, 10), (⟨"TeamRoomsModel", "refunds", "(II)V"⟩, 10), (⟨"TeamRoomsModel", "adds", "(III)V"⟩, 10), (⟨"TeamRoomsModel", "doJoin", "(II)I"⟩, 10), (⟨"TeamRoomsModel", "doPlay", "(IIII)I"⟩, 10), (⟨"TeamRoomsModel", "counts", "(III)V"⟩, 10), (⟨"TeamRoomsModel", "shareOf", "(II)I"⟩, 10), (⟨"TeamRoomsModel", "skips", "()V"⟩, 10), (⟨"TeamRoomsModel", "isAt", "(II)Z"⟩, 10), (⟨"TeamRoomsModel", "isDone", "()Z"⟩, 10), (⟨"TeamRoomsModel", "isWord", "()Z"⟩, 10), (⟨"TeamRoomsModel", "isNumber", "(I)Z"⟩, 10)]
theorem lw_r3 : ∀ q ∈ lw_privs_3, lw_okq q := List.forall_mem_cons.mpr ⟨lw_p32, List.forall_mem_cons.mpr ⟨lw_p33, List.forall_mem_cons.mpr ⟨lw_p34, List.forall_mem_cons.mpr ⟨lw_p35, List.forall_mem_cons.mpr ⟨lw_p36, List.forall_mem_cons.mpr ⟨lw_p37, List.forall_mem_cons.mpr ⟨lw_p38, List.forall_mem_cons.mpr ⟨lw_p39, List.forall_mem_cons.mpr ⟨lw_p40, List.forall_mem_cons.mpr ⟨lw_p41, List.forall_mem_cons.mpr ⟨lw_p42, List.forall_mem_cons.mpr ⟨lw_p43, List.forall_mem_cons.mpr ⟨lw_p44, List.forall_mem_cons.mpr ⟨lw_p45, List.forall_mem_cons.mpr ⟨lw_p46, List.forall_mem_cons.mpr ⟨lw_p47, fun _ h => absurd h List.not_mem_nil⟩⟩⟩⟩⟩⟩⟩⟩⟩⟩⟩⟩⟩⟩⟩⟩
theorem lw_p48 : lw_okq (⟨"TeamRoomsModel", "isStop", "()Z"⟩, 10) := ⟨⟨by decide +kernel, by decide +kernel⟩, List.mem_of_getElem? (i := 740) (by decide +kernel), List.mem_of_getElem? (i := 967) (by decide +kernel), List.mem_of_getElem? (i := 968) (by decide +kernel)⟩
theorem lw_p49 : lw_okq (⟨"TeamRoomsModel", "does", "()I"⟩, 10) := ⟨⟨by decide +kernel, by decide +kernel⟩, List.mem_of_getElem? (i := 740) (by decide +kernel), List.mem_of_getElem? (i := 971) (by decide +kernel), List.mem_of_getElem? (i := 972) (by decide +kernel)⟩
theorem lw_p50 : lw_okq (⟨"TeamRoomsModel", "lets", "()V"⟩, 10) := ⟨⟨by decide +kernel, by decide +kernel⟩, List.mem_of_getElem? (i := 740) (by decide +kernel), List.mem_of_getElem? (i := 975) (by decide +kernel), List.mem_of_getElem? (i := 976) (by decide +kernel)⟩
theorem lw_p51 : lw_okq (⟨"TeamRoomsModel", "inState", "(I)I"⟩, 10) := ⟨⟨by decide +kernel, by decide +kernel⟩, List.mem_of_getElem? (i := 740) (by decide +kernel), List.mem_of_getElem? (i := 983) (by decide +kernel), List.mem_of_getElem? (i := 984) (by decide +kernel)⟩
theorem lw_p52 : lw_okq (⟨"TeamRoomsModel", "paymentsOf", "(I)I"⟩, 10) := ⟨⟨by decide +kernel, by decide +kernel⟩, List.mem_of_getElem? (i := 740) (by decide +kernel), List.mem_of_getElem? (i := 995) (by decide +kernel), List.mem_of_getElem? (i := 996) (by decide +kernel)⟩
theorem lw_p53 : lw_okq (⟨"TeamRoomsModel", "hasFrom", "(II)Z"⟩, 10) := ⟨⟨by decide +kernel, by decide +kernel⟩, List.mem_of_getElem? (i := 740) (by decide +kernel), List.mem_of_getElem? (i := 1003) (by decide +kernel), List.mem_of_getElem? (i := 1004) (by decide +kernel)⟩
theorem lw_p54 : lw_okq (⟨"TeamRoomsModel", "sumOf", "(I)I"⟩, 10) := ⟨⟨by decide +kernel, by decide +kernel⟩, List.mem_of_getElem? (i := 740) (by decide +kernel), List.mem_of_getElem? (i := 1011) (by decide +kernel), List.mem_of_getElem? (i := 1012) (by decide +kernel)⟩
theorem lw_p55 : lw_okq (⟨"TeamRoomsModel", "areMergeable", "(III)Z"⟩, 10) := ⟨⟨by decide +kernel, by decide +kernel⟩, List.mem_of_getElem? (i := 740) (by decide +kernel), List.mem_of_getElem? (i := 1027) (by decide +kernel), List.mem_of_getElem? (i := 1028) (by decide +kernel)⟩
theorem lw_p56 : lw_okq (⟨"TeamRoomsModel", "isLate", "(II)Z"⟩, 10) := ⟨⟨by decide +kernel, by decide +kernel⟩, List.mem_of_getElem? (i := 740) (by decide +kernel), List.mem_of_getElem? (i := 1035) (by decide +kernel), List.mem_of_getElem? (i := 1036) (by decide +kernel)⟩
def lw_privs_4 : List (MethodName × Nat) := [(⟨"TeamRoomsModel", "isStop", "()Z"⟩, 10), (⟨"TeamRoomsModel", "does", "()I"⟩, 10), (⟨"TeamRoomsModel", "lets", "()V"⟩, 10), (⟨"TeamRoomsModel", "inState", "(I)I"⟩, 10), (⟨"TeamRoomsModel", "paymentsOf", "(I)I"⟩, 10), (⟨"TeamRoomsModel", "hasFrom", "(II)Z"⟩, 10), (⟨"TeamRoomsModel", "sumOf", "(I)I"⟩, 10), (⟨"TeamRoomsModel", "areMergeable", "(III)Z"⟩, 10), (⟨"TeamRoomsModel", "isLate", "(II)Z"⟩, 10)]
theorem lw_r4 : ∀ q ∈ lw_privs_4, lw_okq q := List.forall_mem_cons.mpr ⟨lw_p48, List.forall_mem_cons.mpr ⟨lw_p49, List.forall_mem_cons.mpr ⟨lw_p50, List.forall_mem_cons.mpr ⟨lw_p51, List.forall_mem_cons.mpr ⟨lw_p52, List.forall_mem_cons.mpr ⟨lw_p53, List.forall_mem_cons.mpr ⟨lw_p54, List.forall_mem_cons.mpr ⟨lw_p55, List.forall_mem_cons.mpr ⟨lw_p56, fun _ h => absurd h List.not_mem_nil⟩⟩⟩⟩⟩⟩⟩⟩⟩
def lw_privs : List (MethodName × Nat) := lw_privs_1 ++ (lw_privs_2 ++ (lw_privs_3 ++ (lw_privs_4)))
def lw_tbl : List Cond := k2_sels lw_privs ++ tables_1
theorem lw_privs_ok : ∀ q ∈ lw_privs, lw_okq q := by
  show ∀ q ∈ lw_privs_1 ++ (lw_privs_2 ++ (lw_privs_3 ++ (lw_privs_4))), lw_okq q
  exact List.forall_mem_append.mpr ⟨lw_r1, List.forall_mem_append.mpr ⟨lw_r2, List.forall_mem_append.mpr ⟨lw_r3, lw_r4⟩⟩⟩
-- ===== end of PART A; then your names; then what follows =====
end
section
def RX0 : String := "TeamRooms$Desk"
def TX0 : u_T := fun k => match k with
  | 0 => ("TeamRooms$Desk", "venue", "LTeamRooms$Venue;", true)
  | 1 => ("TeamRooms$Desk", "rooms", "LTeamRooms$Table;", true)
  | 2 => ("TeamRooms$Desk", "bookings", "LTeamRooms$Table;", true)
  | 3 => ("TeamRooms$Desk", "vouchers", "LTeamRooms$Table;", true)
  | _ => ("TeamRooms$Desk", "payments", "LTeamRooms$Table;", true)
def tyX0 : Nat → FieldType := fun k => match k with
  | 0 => .object "TeamRooms$Venue"
  | 1 => .object "TeamRooms$Table"
  | 2 => .object "TeamRooms$Table"
  | 3 => .object "TeamRooms$Table"
  | _ => .object "TeamRooms$Table"
theorem nmX0 : ∀ a, a < 5 → ∀ b, b < 5 → a ≠ b → (TX0 a).2.1 ≠ (TX0 b).2.1 := by decide +kernel
theorem tyX0_ok : ∀ k, k < 5 → parseFieldDescriptor (TX0 k).2.2.1 = some (tyX0 k) := by decide +kernel
abbrev cX0_init : ByteArray := prog_2_method_1_code
def yX0_init : MethodName := ⟨RX0, "<init>", "(LTeamRooms$Venue;)V"⟩
abbrev cX0_newRoom : ByteArray := prog_2_method_2_code
def yX0_newRoom : MethodName := ⟨RX0, "newRoom", "(IIII)I"⟩
abbrev cX0_changePrice : ByteArray := prog_2_method_3_code
def yX0_changePrice : MethodName := ⟨RX0, "changePrice", "(II)I"⟩
abbrev cX0_changeSetting : ByteArray := prog_2_method_4_code
def yX0_changeSetting : MethodName := ⟨RX0, "changeSetting", "(II)I"⟩
abbrev cX0_newVoucher : ByteArray := prog_2_method_5_code
def yX0_newVoucher : MethodName := ⟨RX0, "newVoucher", "(I)I"⟩
abbrev cX0_newBooking : ByteArray := prog_2_method_6_code
def yX0_newBooking : MethodName := ⟨RX0, "newBooking", "(IIII)I"⟩
abbrev cX0_payCharge : ByteArray := prog_2_method_7_code
def yX0_payCharge : MethodName := ⟨RX0, "payCharge", "(III)V"⟩
abbrev cX0_changeTime : ByteArray := prog_2_method_8_code
def yX0_changeTime : MethodName := ⟨RX0, "changeTime", "(II)I"⟩
abbrev cX0_callOff : ByteArray := prog_2_method_9_code
def yX0_callOff : MethodName := ⟨RX0, "callOff", "(I)I"⟩
abbrev cX0_refund : ByteArray := prog_2_method_10_code
def yX0_refund : MethodName := ⟨RX0, "refund", "(II)V"⟩
abbrev cX0_refundPayment : ByteArray := prog_2_method_11_code
def yX0_refundPayment : MethodName := ⟨RX0, "refundPayment", "(II)I"⟩
abbrev cX0_joinTeams : ByteArray := prog_2_method_12_code
def yX0_joinTeams : MethodName := ⟨RX0, "joinTeams", "(II)I"⟩
abbrev cX0_handOver : ByteArray := prog_2_method_13_code
def yX0_handOver : MethodName := ⟨RX0, "handOver", "(III)V"⟩
abbrev cX0_handOverPayments : ByteArray := prog_2_method_14_code
def yX0_handOverPayments : MethodName := ⟨RX0, "handOverPayments", "(II)V"⟩
abbrev cX0_letPlay : ByteArray := prog_2_method_15_code
def yX0_letPlay : MethodName := ⟨RX0, "letPlay", "(IIII)I"⟩
abbrev cX0_occupy : ByteArray := prog_2_method_16_code
def yX0_occupy : MethodName := ⟨RX0, "occupy", "(III)I"⟩
def RX1 : String := "TeamRooms$History"
def TX1 : u_T := fun k => match k with
  | 0 => ("TeamRooms$History", "states", "[LTeamRooms$State;", true)
  | _ => ("TeamRooms$History", "recorded", "I", false)
def tyX1 : Nat → FieldType := fun k => match k with
  | 0 => .array (.object "TeamRooms$State")
  | _ => .int
theorem nmX1 : ∀ a, a < 2 → ∀ b, b < 2 → a ≠ b → (TX1 a).2.1 ≠ (TX1 b).2.1 := by decide +kernel
theorem tyX1_ok : ∀ k, k < 2 → parseFieldDescriptor (TX1 k).2.2.1 = some (tyX1 k) := by decide +kernel
abbrev cX1_init : ByteArray := prog_3_method_1_code
def yX1_init : MethodName := ⟨RX1, "<init>", "()V"⟩
abbrev cX1_size : ByteArray := prog_3_method_2_code
def yX1_size : MethodName := ⟨RX1, "size", "()I"⟩
abbrev cX1_prepare : ByteArray := prog_3_method_3_code
def yX1_prepare : MethodName := ⟨RX1, "prepare", "(LTeamRooms$State;)V"⟩
abbrev cX1_giveBack : ByteArray := prog_3_method_4_code
def yX1_giveBack : MethodName := ⟨RX1, "giveBack", "(LTeamRooms$State;)V"⟩
abbrev cX1_settle : ByteArray := prog_3_method_5_code
def yX1_settle : MethodName := ⟨RX1, "settle", "(I)I"⟩
abbrev cX1_stepBack : ByteArray := prog_3_method_6_code
def yX1_stepBack : MethodName := ⟨RX1, "stepBack", "(LTeamRooms$State;)I"⟩
abbrev cX1_record : ByteArray := prog_3_method_7_code
def yX1_record : MethodName := ⟨RX1, "record", "()V"⟩
abbrev cX1_stateAt : ByteArray := prog_3_method_8_code
def yX1_stateAt : MethodName := ⟨RX1, "stateAt", "(I)LTeamRooms$State;"⟩
def RX2 : String := "TeamRooms$Outlook"
def TX2 : u_T := fun k => match k with
  | 0 => ("TeamRooms$Outlook", "venue", "LTeamRooms$Venue;", true)
  | 1 => ("TeamRooms$Outlook", "rooms", "LTeamRooms$Table;", true)
  | _ => ("TeamRooms$Outlook", "bookings", "LTeamRooms$Table;", true)
def tyX2 : Nat → FieldType := fun k => match k with
  | 0 => .object "TeamRooms$Venue"
  | 1 => .object "TeamRooms$Table"
  | _ => .object "TeamRooms$Table"
theorem nmX2 : ∀ a, a < 3 → ∀ b, b < 3 → a ≠ b → (TX2 a).2.1 ≠ (TX2 b).2.1 := by decide +kernel
theorem tyX2_ok : ∀ k, k < 3 → parseFieldDescriptor (TX2 k).2.2.1 = some (tyX2 k) := by decide +kernel
abbrev cX2_init : ByteArray := prog_4_method_1_code
def yX2_init : MethodName := ⟨RX2, "<init>", "(LTeamRooms$Venue;)V"⟩
abbrev cX2_partOfForecast : ByteArray := prog_4_method_2_code
def yX2_partOfForecast : MethodName := ⟨RX2, "partOfForecast", "(II)I"⟩
abbrev cX2_earliestTime : ByteArray := prog_4_method_3_code
def yX2_earliestTime : MethodName := ⟨RX2, "earliestTime", "(II)I"⟩
abbrev cX2_largestPair : ByteArray := prog_4_method_4_code
def yX2_largestPair : MethodName := ⟨RX2, "largestPair", "(II)I"⟩
abbrev cX2_playersTogether : ByteArray := prog_4_method_5_code
def yX2_playersTogether : MethodName := ⟨RX2, "playersTogether", "(III)I"⟩
abbrev cX2_delayLeft : ByteArray := prog_4_method_6_code
def yX2_delayLeft : MethodName := ⟨RX2, "delayLeft", "(I)I"⟩
abbrev cX2_hintsLeft : ByteArray := prog_4_method_7_code
def yX2_hintsLeft : MethodName := ⟨RX2, "hintsLeft", "(II)I"⟩
abbrev cX2_roomByUse : ByteArray := prog_4_method_8_code
def yX2_roomByUse : MethodName := ⟨RX2, "roomByUse", "(I)I"⟩
abbrev cX2_roomsAheadOf : ByteArray := prog_4_method_9_code
def yX2_roomsAheadOf : MethodName := ⟨RX2, "roomsAheadOf", "(I)I"⟩
def RX3 : String := "TeamRooms$Program"
def TX3 : u_T := fun k => match k with
  | 0 => ("TeamRooms$Program", "text", "[I", true)
  | 1 => ("TeamRooms$Program", "numbers", "[I", true)
  | 2 => ("TeamRooms$Program", "length", "I", false)
  | 3 => ("TeamRooms$Program", "kind", "I", false)
  | 4 => ("TeamRooms$Program", "start", "I", false)
  | _ => ("TeamRooms$Program", "end", "I", false)
def tyX3 : Nat → FieldType := fun k => match k with
  | 0 => .array .int
  | 1 => .array .int
  | 2 => .int
  | 3 => .int
  | 4 => .int
  | _ => .int
theorem nmX3 : ∀ a, a < 6 → ∀ b, b < 6 → a ≠ b → (TX3 a).2.1 ≠ (TX3 b).2.1 := by decide +kernel
theorem tyX3_ok : ∀ k, k < 6 → parseFieldDescriptor (TX3 k).2.2.1 = some (tyX3 k) := by decide +kernel
abbrev cX3_init : ByteArray := prog_5_method_1_code
def yX3_init : MethodName := ⟨RX3, "<init>", "()V"⟩
abbrev cX3_size : ByteArray := prog_5_method_2_code
def yX3_size : MethodName := ⟨RX3, "size", "()I"⟩
abbrev cX3_add : ByteArray := prog_5_method_3_code
def yX3_add : MethodName := ⟨RX3, "add", "(I)I"⟩
abbrev cX3_empty : ByteArray := prog_5_method_4_code
def yX3_empty : MethodName := ⟨RX3, "empty", "()I"⟩
abbrev cX3_perform : ByteArray := prog_5_method_5_code
def yX3_perform : MethodName := ⟨RX3, "perform", "(LTeamRooms$Desk;)I"⟩
abbrev cX3_obey : ByteArray := prog_5_method_6_code
def yX3_obey : MethodName := ⟨RX3, "obey", "(LTeamRooms$Desk;I)I"⟩
abbrev cX3_readNumbers : ByteArray := prog_5_method_7_code
def yX3_readNumbers : MethodName := ⟨RX3, "readNumbers", "(I)Z"⟩
abbrev cX3_readToken : ByteArray := prog_5_method_8_code
def yX3_readToken : MethodName := ⟨RX3, "readToken", "()V"⟩
abbrev cX3_signAt : ByteArray := prog_5_method_9_code
def yX3_signAt : MethodName := ⟨RX3, "signAt", "(I)I"⟩
abbrev cX3_kindOf : ByteArray := prog_5_method_10_code
def yX3_kindOf : MethodName := ⟨RX3, "kindOf", "(I)I"⟩
abbrev cX3_isSemicolon : ByteArray := prog_5_method_11_code
def yX3_isSemicolon : MethodName := ⟨RX3, "isSemicolon", "()Z"⟩
abbrev cX3_isNumber : ByteArray := prog_5_method_12_code
def yX3_isNumber : MethodName := ⟨RX3, "isNumber", "()Z"⟩
abbrev cX3_numberValue : ByteArray := prog_5_method_13_code
def yX3_numberValue : MethodName := ⟨RX3, "numberValue", "()I"⟩
abbrev cX3_commandWord : ByteArray := prog_5_method_14_code
def yX3_commandWord : MethodName := ⟨RX3, "commandWord", "()I"⟩
abbrev cX3_isWord : ByteArray := prog_5_method_15_code
def yX3_isWord : MethodName := ⟨RX3, "isWord", "(Ljava/lang/String;)Z"⟩
def RX4 : String := "TeamRooms$Slot"
def TX4 : u_T := fun k => match k with
  | 0 => ("TeamRooms$Slot", "kept", "LTeamRooms$Venue;", true)
  | _ => ("TeamRooms$Slot", "taken", "Z", false)
def tyX4 : Nat → FieldType := fun k => match k with
  | 0 => .object "TeamRooms$Venue"
  | _ => .boolean
theorem nmX4 : ∀ a, a < 2 → ∀ b, b < 2 → a ≠ b → (TX4 a).2.1 ≠ (TX4 b).2.1 := by decide +kernel
theorem tyX4_ok : ∀ k, k < 2 → parseFieldDescriptor (TX4 k).2.2.1 = some (tyX4 k) := by decide +kernel
abbrev cX4_init : ByteArray := prog_6_method_1_code
def yX4_init : MethodName := ⟨RX4, "<init>", "()V"⟩
abbrev cX4_keep : ByteArray := prog_6_method_2_code
def yX4_keep : MethodName := ⟨RX4, "keep", "(LTeamRooms$Venue;)V"⟩
abbrev cX4_copyFrom : ByteArray := prog_6_method_3_code
def yX4_copyFrom : MethodName := ⟨RX4, "copyFrom", "(LTeamRooms$Slot;)V"⟩
def RX5 : String := "TeamRooms$State"
def TX5 : u_T := fun k => match k with
  | 0 => ("TeamRooms$State", "venue", "LTeamRooms$Venue;", true)
  | 1 => ("TeamRooms$State", "first", "LTeamRooms$Slot;", true)
  | _ => ("TeamRooms$State", "second", "LTeamRooms$Slot;", true)
def tyX5 : Nat → FieldType := fun k => match k with
  | 0 => .object "TeamRooms$Venue"
  | 1 => .object "TeamRooms$Slot"
  | _ => .object "TeamRooms$Slot"
theorem nmX5 : ∀ a, a < 3 → ∀ b, b < 3 → a ≠ b → (TX5 a).2.1 ≠ (TX5 b).2.1 := by decide +kernel
theorem tyX5_ok : ∀ k, k < 3 → parseFieldDescriptor (TX5 k).2.2.1 = some (tyX5 k) := by decide +kernel
abbrev cX5_init : ByteArray := prog_7_method_1_code
def yX5_init : MethodName := ⟨RX5, "<init>", "()V"⟩
abbrev cX5_slotOf : ByteArray := prog_7_method_2_code
def yX5_slotOf : MethodName := ⟨RX5, "slotOf", "(I)LTeamRooms$Slot;"⟩
abbrev cX5_snapshots : ByteArray := prog_7_method_3_code
def yX5_snapshots : MethodName := ⟨RX5, "snapshots", "()I"⟩
abbrev cX5_copyFrom : ByteArray := prog_7_method_4_code
def yX5_copyFrom : MethodName := ⟨RX5, "copyFrom", "(LTeamRooms$State;)V"⟩
def RX6 : String := "TeamRooms$Table"
def TX6 : u_T := fun k => match k with
  | 0 => ("TeamRooms$Table", "cells", "[I", true)
  | 1 => ("TeamRooms$Table", "capacity", "I", true)
  | 2 => ("TeamRooms$Table", "width", "I", true)
  | _ => ("TeamRooms$Table", "used", "I", false)
def tyX6 : Nat → FieldType := fun k => match k with
  | 0 => .array .int
  | 1 => .int
  | 2 => .int
  | _ => .int
theorem nmX6 : ∀ a, a < 4 → ∀ b, b < 4 → a ≠ b → (TX6 a).2.1 ≠ (TX6 b).2.1 := by decide +kernel
theorem tyX6_ok : ∀ k, k < 4 → parseFieldDescriptor (TX6 k).2.2.1 = some (tyX6 k) := by decide +kernel
abbrev cX6_init : ByteArray := prog_8_method_1_code
def yX6_init : MethodName := ⟨RX6, "<init>", "(II)V"⟩
abbrev cX6_size : ByteArray := prog_8_method_2_code
def yX6_size : MethodName := ⟨RX6, "size", "()I"⟩
abbrev cX6_has : ByteArray := prog_8_method_3_code
def yX6_has : MethodName := ⟨RX6, "has", "(I)Z"⟩
abbrev cX6_isFull : ByteArray := prog_8_method_4_code
def yX6_isFull : MethodName := ⟨RX6, "isFull", "()Z"⟩
abbrev cX6_addRow : ByteArray := prog_8_method_5_code
def yX6_addRow : MethodName := ⟨RX6, "addRow", "()I"⟩
abbrev cX6_cell : ByteArray := prog_8_method_6_code
def yX6_cell : MethodName := ⟨RX6, "cell", "(II)I"⟩
abbrev cX6_put : ByteArray := prog_8_method_7_code
def yX6_put : MethodName := ⟨RX6, "put", "(III)V"⟩
abbrev cX6_raise : ByteArray := prog_8_method_8_code
def yX6_raise : MethodName := ⟨RX6, "raise", "(III)V"⟩
abbrev cX6_total : ByteArray := prog_8_method_9_code
def yX6_total : MethodName := ⟨RX6, "total", "(I)I"⟩
abbrev cX6_copyFrom : ByteArray := prog_8_method_10_code
def yX6_copyFrom : MethodName := ⟨RX6, "copyFrom", "(LTeamRooms$Table;)V"⟩
def RX7 : String := "TeamRooms$Venue"
def TX7 : u_T := fun k => match k with
  | 0 => ("TeamRooms$Venue", "rooms", "LTeamRooms$Table;", true)
  | 1 => ("TeamRooms$Venue", "bookings", "LTeamRooms$Table;", true)
  | 2 => ("TeamRooms$Venue", "vouchers", "LTeamRooms$Table;", true)
  | 3 => ("TeamRooms$Venue", "payments", "LTeamRooms$Table;", true)
  | 4 => ("TeamRooms$Venue", "settings", "LTeamRooms$Table;", true)
  | _ => ("TeamRooms$Venue", "till", "I", false)
def tyX7 : Nat → FieldType := fun k => match k with
  | 0 => .object "TeamRooms$Table"
  | 1 => .object "TeamRooms$Table"
  | 2 => .object "TeamRooms$Table"
  | 3 => .object "TeamRooms$Table"
  | 4 => .object "TeamRooms$Table"
  | _ => .int
theorem nmX7 : ∀ a, a < 6 → ∀ b, b < 6 → a ≠ b → (TX7 a).2.1 ≠ (TX7 b).2.1 := by decide +kernel
theorem tyX7_ok : ∀ k, k < 6 → parseFieldDescriptor (TX7 k).2.2.1 = some (tyX7 k) := by decide +kernel
abbrev cX7_init : ByteArray := prog_9_method_1_code
def yX7_init : MethodName := ⟨RX7, "<init>", "()V"⟩
abbrev cX7_copyFrom : ByteArray := prog_9_method_2_code
def yX7_copyFrom : MethodName := ⟨RX7, "copyFrom", "(LTeamRooms$Venue;)V"⟩
abbrev cX7_setting : ByteArray := prog_9_method_3_code
def yX7_setting : MethodName := ⟨RX7, "setting", "(I)I"⟩
abbrev cX7_isBooked : ByteArray := prog_9_method_4_code
def yX7_isBooked : MethodName := ⟨RX7, "isBooked", "(I)Z"⟩
abbrev cX7_bookingsInState : ByteArray := prog_9_method_5_code
def yX7_bookingsInState : MethodName := ⟨RX7, "bookingsInState", "(I)I"⟩
abbrev cX7_period : ByteArray := prog_9_method_6_code
def yX7_period : MethodName := ⟨RX7, "period", "(I)I"⟩
abbrev cX7_timeBehindPlays : ByteArray := prog_9_method_7_code
def yX7_timeBehindPlays : MethodName := ⟨RX7, "timeBehindPlays", "(I)I"⟩
abbrev cX7_collision : ByteArray := prog_9_method_8_code
def yX7_collision : MethodName := ⟨RX7, "collision", "(III)I"⟩
abbrev cX7_isPossible : ByteArray := prog_9_method_9_code
def yX7_isPossible : MethodName := ⟨RX7, "isPossible", "(III)Z"⟩
abbrev cX7_nextBooked : ByteArray := prog_9_method_10_code
def yX7_nextBooked : MethodName := ⟨RX7, "nextBooked", "(II)I"⟩
abbrev cX7_forecastStart : ByteArray := prog_9_method_11_code
def yX7_forecastStart : MethodName := ⟨RX7, "forecastStart", "(I)I"⟩
abbrev cX7_refundForDelay : ByteArray := prog_9_method_12_code
def yX7_refundForDelay : MethodName := ⟨RX7, "refundForDelay", "(II)I"⟩
abbrev cX7_paidByVouchers : ByteArray := prog_9_method_13_code
def yX7_paidByVouchers : MethodName := ⟨RX7, "paidByVouchers", "(I)I"⟩
abbrev cX7_paymentsLeft : ByteArray := prog_9_method_14_code
def yX7_paymentsLeft : MethodName := ⟨RX7, "paymentsLeft", "(I)I"⟩
abbrev cX7_bookingsPaidWith : ByteArray := prog_9_method_15_code
def yX7_bookingsPaidWith : MethodName := ⟨RX7, "bookingsPaidWith", "(I)I"⟩
abbrev cX7_isPaidWith : ByteArray := prog_9_method_16_code
def yX7_isPaidWith : MethodName := ⟨RX7, "isPaidWith", "(II)Z"⟩
abbrev cX7_paymentAt : ByteArray := prog_9_method_17_code
def yX7_paymentAt : MethodName := ⟨RX7, "paymentAt", "(II)I"⟩
def RX8 : String := "TeamRooms"
def TX8 : u_T := fun k => match k with
  | 0 => ("TeamRooms", "now", "LTeamRooms$State;", true)
  | 1 => ("TeamRooms", "venue", "LTeamRooms$Venue;", true)
  | 2 => ("TeamRooms", "desk", "LTeamRooms$Desk;", true)
  | 3 => ("TeamRooms", "outlook", "LTeamRooms$Outlook;", true)
  | 4 => ("TeamRooms", "history", "LTeamRooms$History;", true)
  | _ => ("TeamRooms", "program", "LTeamRooms$Program;", true)
def tyX8 : Nat → FieldType := fun k => match k with
  | 0 => .object "TeamRooms$State"
  | 1 => .object "TeamRooms$Venue"
  | 2 => .object "TeamRooms$Desk"
  | 3 => .object "TeamRooms$Outlook"
  | 4 => .object "TeamRooms$History"
  | _ => .object "TeamRooms$Program"
theorem nmX8 : ∀ a, a < 6 → ∀ b, b < 6 → a ≠ b → (TX8 a).2.1 ≠ (TX8 b).2.1 := by decide +kernel
theorem tyX8_ok : ∀ k, k < 6 → parseFieldDescriptor (TX8 k).2.2.1 = some (tyX8 k) := by decide +kernel
abbrev cX8_init : ByteArray := prog_1_method_1_code
def yX8_init : MethodName := ⟨RX8, "<init>", "()V"⟩
abbrev cX8_addRoom : ByteArray := prog_1_method_2_code
def yX8_addRoom : MethodName := ⟨RX8, "addRoom", "(IIII)I"⟩
abbrev cX8_setPrice : ByteArray := prog_1_method_3_code
def yX8_setPrice : MethodName := ⟨RX8, "setPrice", "(II)I"⟩
abbrev cX8_set : ByteArray := prog_1_method_4_code
def yX8_set : MethodName := ⟨RX8, "set", "(II)I"⟩
abbrev cX8_sellVoucher : ByteArray := prog_1_method_5_code
def yX8_sellVoucher : MethodName := ⟨RX8, "sellVoucher", "(I)I"⟩
abbrev cX8_book : ByteArray := prog_1_method_6_code
def yX8_book : MethodName := ⟨RX8, "book", "(IIII)I"⟩
abbrev cX8_move : ByteArray := prog_1_method_7_code
def yX8_move : MethodName := ⟨RX8, "move", "(II)I"⟩
abbrev cX8_cancel : ByteArray := prog_1_method_8_code
def yX8_cancel : MethodName := ⟨RX8, "cancel", "(I)I"⟩
abbrev cX8_merge : ByteArray := prog_1_method_9_code
def yX8_merge : MethodName := ⟨RX8, "merge", "(II)I"⟩
abbrev cX8_play : ByteArray := prog_1_method_10_code
def yX8_play : MethodName := ⟨RX8, "play", "(IIII)I"⟩
abbrev cX8_take : ByteArray := prog_1_method_11_code
def yX8_take : MethodName := ⟨RX8, "take", "(I)I"⟩
abbrev cX8_restore : ByteArray := prog_1_method_12_code
def yX8_restore : MethodName := ⟨RX8, "restore", "(I)I"⟩
abbrev cX8_undo : ByteArray := prog_1_method_13_code
def yX8_undo : MethodName := ⟨RX8, "undo", "()I"⟩
abbrev cX8_append : ByteArray := prog_1_method_14_code
def yX8_append : MethodName := ⟨RX8, "append", "(I)I"⟩
abbrev cX8_clearText : ByteArray := prog_1_method_15_code
def yX8_clearText : MethodName := ⟨RX8, "clearText", "()I"⟩
abbrev cX8_run : ByteArray := prog_1_method_16_code
def yX8_run : MethodName := ⟨RX8, "run", "()I"⟩
abbrev cX8_count : ByteArray := prog_1_method_17_code
def yX8_count : MethodName := ⟨RX8, "count", "(I)I"⟩
abbrev cX8_room : ByteArray := prog_1_method_18_code
def yX8_room : MethodName := ⟨RX8, "room", "(II)I"⟩
abbrev cX8_booking : ByteArray := prog_1_method_19_code
def yX8_booking : MethodName := ⟨RX8, "booking", "(II)I"⟩
abbrev cX8_voucher : ByteArray := prog_1_method_20_code
def yX8_voucher : MethodName := ⟨RX8, "voucher", "(II)I"⟩
abbrev cX8_money : ByteArray := prog_1_method_21_code
def yX8_money : MethodName := ⟨RX8, "money", "(I)I"⟩
abbrev cX8_forecast : ByteArray := prog_1_method_22_code
def yX8_forecast : MethodName := ⟨RX8, "forecast", "(II)I"⟩
abbrev cX8_freeTime : ByteArray := prog_1_method_23_code
def yX8_freeTime : MethodName := ⟨RX8, "freeTime", "(II)I"⟩
abbrev cX8_mergeable : ByteArray := prog_1_method_24_code
def yX8_mergeable : MethodName := ⟨RX8, "mergeable", "(II)I"⟩
abbrev cX8_slack : ByteArray := prog_1_method_25_code
def yX8_slack : MethodName := ⟨RX8, "slack", "(I)I"⟩
abbrev cX8_hintsFor : ByteArray := prog_1_method_26_code
def yX8_hintsFor : MethodName := ⟨RX8, "hintsFor", "(II)I"⟩
abbrev cX8_busiest : ByteArray := prog_1_method_27_code
def yX8_busiest : MethodName := ⟨RX8, "busiest", "(I)I"⟩
abbrev cX8_inRange : ByteArray := prog_1_method_28_code
def yX8_inRange : MethodName := ⟨RX8, "inRange", "(III)Z"⟩
def RX9 : String := "TeamRoomsModel"
def TX9 : u_T := fun k => match k with
  | 0 => ("TeamRoomsModel", "s", "[I", true)
  | 1 => ("TeamRoomsModel", "past", "[I", true)
  | 2 => ("TeamRoomsModel", "aside", "[I", true)
  | 3 => ("TeamRoomsModel", "pasts", "I", false)
  | 4 => ("TeamRoomsModel", "text", "[I", true)
  | 5 => ("TeamRoomsModel", "typed", "I", false)
  | 6 => ("TeamRoomsModel", "spot", "I", false)
  | 7 => ("TeamRoomsModel", "start", "I", false)
  | 8 => ("TeamRoomsModel", "word", "J", false)
  | _ => ("TeamRoomsModel", "numbers", "[I", true)
def tyX9 : Nat → FieldType := fun k => match k with
  | 0 => .array .int
  | 1 => .array .int
  | 2 => .array .int
  | 3 => .int
  | 4 => .array .int
  | 5 => .int
  | 6 => .int
  | 7 => .int
  | 8 => .long
  | _ => .array .int
theorem nmX9 : ∀ a, a < 10 → ∀ b, b < 10 → a ≠ b → (TX9 a).2.1 ≠ (TX9 b).2.1 := by decide +kernel
theorem tyX9_ok : ∀ k, k < 10 → parseFieldDescriptor (TX9 k).2.2.1 = some (tyX9 k) := by decide +kernel
abbrev cX9_init : ByteArray := prog_11_method_1_code
def yX9_init : MethodName := ⟨RX9, "<init>", "()V"⟩
abbrev cX9_in : ByteArray := prog_11_method_3_code
def yX9_in : MethodName := ⟨RX9, "in", "(III)Z"⟩
abbrev cX9_lesser : ByteArray := prog_11_method_4_code
def yX9_lesser : MethodName := ⟨RX9, "lesser", "(II)I"⟩
abbrev cX9_greater : ByteArray := prog_11_method_5_code
def yX9_greater : MethodName := ⟨RX9, "greater", "(II)I"⟩
abbrev cX9_hold : ByteArray := prog_11_method_6_code
def yX9_hold : MethodName := ⟨RX9, "hold", "()V"⟩
abbrev cX9_lets : ByteArray := prog_11_method_7_code
def yX9_lets : MethodName := ⟨RX9, "lets", "()V"⟩
abbrev cX9_ends : ByteArray := prog_11_method_8_code
def yX9_ends : MethodName := ⟨RX9, "ends", "(I)I"⟩
abbrev cX9_isRoom : ByteArray := prog_11_method_9_code
def yX9_isRoom : MethodName := ⟨RX9, "isRoom", "(I)Z"⟩
abbrev cX9_isBooking : ByteArray := prog_11_method_10_code
def yX9_isBooking : MethodName := ⟨RX9, "isBooking", "(I)Z"⟩
abbrev cX9_isVoucher : ByteArray := prog_11_method_11_code
def yX9_isVoucher : MethodName := ⟨RX9, "isVoucher", "(I)Z"⟩
abbrev cX9_of : ByteArray := prog_11_method_12_code
def yX9_of : MethodName := ⟨RX9, "of", "(II)I"⟩
abbrev cX9_its : ByteArray := prog_11_method_13_code
def yX9_its : MethodName := ⟨RX9, "its", "(II)I"⟩
abbrev cX9_lays : ByteArray := prog_11_method_14_code
def yX9_lays : MethodName := ⟨RX9, "lays", "(III)V"⟩
abbrev cX9_adds : ByteArray := prog_11_method_15_code
def yX9_adds : MethodName := ⟨RX9, "adds", "(III)V"⟩
abbrev cX9_doRoom : ByteArray := prog_11_method_16_code
def yX9_doRoom : MethodName := ⟨RX9, "doRoom", "(IIII)I"⟩
abbrev cX9_addRoom : ByteArray := prog_11_method_17_code
def yX9_addRoom : MethodName := ⟨RX9, "addRoom", "(IIII)I"⟩
abbrev cX9_setPrice : ByteArray := prog_11_method_18_code
def yX9_setPrice : MethodName := ⟨RX9, "setPrice", "(II)I"⟩
abbrev cX9_highest : ByteArray := prog_11_method_19_code
def yX9_highest : MethodName := ⟨RX9, "highest", "(I)I"⟩
abbrev cX9_set : ByteArray := prog_11_method_20_code
def yX9_set : MethodName := ⟨RX9, "set", "(II)I"⟩
abbrev cX9_doGift : ByteArray := prog_11_method_21_code
def yX9_doGift : MethodName := ⟨RX9, "doGift", "(I)I"⟩
abbrev cX9_sellVoucher : ByteArray := prog_11_method_22_code
def yX9_sellVoucher : MethodName := ⟨RX9, "sellVoucher", "(I)I"⟩
abbrev cX9_isPossible : ByteArray := prog_11_method_23_code
def yX9_isPossible : MethodName := ⟨RX9, "isPossible", "(III)Z"⟩
abbrev cX9_doBook : ByteArray := prog_11_method_24_code
def yX9_doBook : MethodName := ⟨RX9, "doBook", "(IIII)I"⟩
abbrev cX9_book : ByteArray := prog_11_method_25_code
def yX9_book : MethodName := ⟨RX9, "book", "(IIII)I"⟩
abbrev cX9_move : ByteArray := prog_11_method_26_code
def yX9_move : MethodName := ⟨RX9, "move", "(II)I"⟩
abbrev cX9_byVouchers : ByteArray := prog_11_method_27_code
def yX9_byVouchers : MethodName := ⟨RX9, "byVouchers", "(I)I"⟩
abbrev cX9_refunds : ByteArray := prog_11_method_28_code
def yX9_refunds : MethodName := ⟨RX9, "refunds", "(II)V"⟩
abbrev cX9_nextOf : ByteArray := prog_11_method_29_code
def yX9_nextOf : MethodName := ⟨RX9, "nextOf", "(II)I"⟩
abbrev cX9_startOf : ByteArray := prog_11_method_30_code
def yX9_startOf : MethodName := ⟨RX9, "startOf", "(II)I"⟩
abbrev cX9_shareOf : ByteArray := prog_11_method_31_code
def yX9_shareOf : MethodName := ⟨RX9, "shareOf", "(II)I"⟩
abbrev cX9_doDrop : ByteArray := prog_11_method_32_code
def yX9_doDrop : MethodName := ⟨RX9, "doDrop", "(I)I"⟩
abbrev cX9_cancel : ByteArray := prog_11_method_33_code
def yX9_cancel : MethodName := ⟨RX9, "cancel", "(I)I"⟩
abbrev cX9_doJoin : ByteArray := prog_11_method_34_code
def yX9_doJoin : MethodName := ⟨RX9, "doJoin", "(II)I"⟩
abbrev cX9_merge : ByteArray := prog_11_method_35_code
def yX9_merge : MethodName := ⟨RX9, "merge", "(II)I"⟩
abbrev cX9_counts : ByteArray := prog_11_method_36_code
def yX9_counts : MethodName := ⟨RX9, "counts", "(III)V"⟩
abbrev cX9_doPlay : ByteArray := prog_11_method_37_code
def yX9_doPlay : MethodName := ⟨RX9, "doPlay", "(IIII)I"⟩
abbrev cX9_play : ByteArray := prog_11_method_38_code
def yX9_play : MethodName := ⟨RX9, "play", "(IIII)I"⟩
abbrev cX9_take : ByteArray := prog_11_method_39_code
def yX9_take : MethodName := ⟨RX9, "take", "(I)I"⟩
abbrev cX9_restore : ByteArray := prog_11_method_40_code
def yX9_restore : MethodName := ⟨RX9, "restore", "(I)I"⟩
abbrev cX9_undo : ByteArray := prog_11_method_41_code
def yX9_undo : MethodName := ⟨RX9, "undo", "()I"⟩
abbrev cX9_append : ByteArray := prog_11_method_42_code
def yX9_append : MethodName := ⟨RX9, "append", "(I)I"⟩
abbrev cX9_clearText : ByteArray := prog_11_method_43_code
def yX9_clearText : MethodName := ⟨RX9, "clearText", "()I"⟩
abbrev cX9_isAt : ByteArray := prog_11_method_44_code
def yX9_isAt : MethodName := ⟨RX9, "isAt", "(II)Z"⟩
abbrev cX9_skips : ByteArray := prog_11_method_45_code
def yX9_skips : MethodName := ⟨RX9, "skips", "()V"⟩
abbrev cX9_manyOf : ByteArray := prog_11_method_46_code
def yX9_manyOf : MethodName := ⟨RX9, "manyOf", "(J)I"⟩
abbrev cX9_isWord : ByteArray := prog_11_method_47_code
def yX9_isWord : MethodName := ⟨RX9, "isWord", "()Z"⟩
abbrev cX9_isNumber : ByteArray := prog_11_method_48_code
def yX9_isNumber : MethodName := ⟨RX9, "isNumber", "(I)Z"⟩
abbrev cX9_isStop : ByteArray := prog_11_method_49_code
def yX9_isStop : MethodName := ⟨RX9, "isStop", "()Z"⟩
abbrev cX9_does : ByteArray := prog_11_method_50_code
def yX9_does : MethodName := ⟨RX9, "does", "()I"⟩
abbrev cX9_isDone : ByteArray := prog_11_method_51_code
def yX9_isDone : MethodName := ⟨RX9, "isDone", "()Z"⟩
abbrev cX9_run : ByteArray := prog_11_method_52_code
def yX9_run : MethodName := ⟨RX9, "run", "()I"⟩
abbrev cX9_inState : ByteArray := prog_11_method_53_code
def yX9_inState : MethodName := ⟨RX9, "inState", "(I)I"⟩
abbrev cX9_count : ByteArray := prog_11_method_54_code
def yX9_count : MethodName := ⟨RX9, "count", "(I)I"⟩
abbrev cX9_room : ByteArray := prog_11_method_55_code
def yX9_room : MethodName := ⟨RX9, "room", "(II)I"⟩
abbrev cX9_paymentsOf : ByteArray := prog_11_method_56_code
def yX9_paymentsOf : MethodName := ⟨RX9, "paymentsOf", "(I)I"⟩
abbrev cX9_booking : ByteArray := prog_11_method_57_code
def yX9_booking : MethodName := ⟨RX9, "booking", "(II)I"⟩
abbrev cX9_hasFrom : ByteArray := prog_11_method_58_code
def yX9_hasFrom : MethodName := ⟨RX9, "hasFrom", "(II)Z"⟩
abbrev cX9_voucher : ByteArray := prog_11_method_59_code
def yX9_voucher : MethodName := ⟨RX9, "voucher", "(II)I"⟩
abbrev cX9_sumOf : ByteArray := prog_11_method_60_code
def yX9_sumOf : MethodName := ⟨RX9, "sumOf", "(I)I"⟩
abbrev cX9_money : ByteArray := prog_11_method_61_code
def yX9_money : MethodName := ⟨RX9, "money", "(I)I"⟩
abbrev cX9_forecast : ByteArray := prog_11_method_62_code
def yX9_forecast : MethodName := ⟨RX9, "forecast", "(II)I"⟩
abbrev cX9_freeTime : ByteArray := prog_11_method_63_code
def yX9_freeTime : MethodName := ⟨RX9, "freeTime", "(II)I"⟩
abbrev cX9_areMergeable : ByteArray := prog_11_method_64_code
def yX9_areMergeable : MethodName := ⟨RX9, "areMergeable", "(III)Z"⟩
abbrev cX9_mergeable : ByteArray := prog_11_method_65_code
def yX9_mergeable : MethodName := ⟨RX9, "mergeable", "(II)I"⟩
abbrev cX9_isLate : ByteArray := prog_11_method_66_code
def yX9_isLate : MethodName := ⟨RX9, "isLate", "(II)Z"⟩
abbrev cX9_slack : ByteArray := prog_11_method_67_code
def yX9_slack : MethodName := ⟨RX9, "slack", "(I)I"⟩
abbrev cX9_hintsFor : ByteArray := prog_11_method_68_code
def yX9_hintsFor : MethodName := ⟨RX9, "hintsFor", "(II)I"⟩
abbrev cX9_busiest : ByteArray := prog_11_method_69_code
def yX9_busiest : MethodName := ⟨RX9, "busiest", "(I)I"⟩
def RJ9 : String := "java/lang/Math"
def TJ9 : u_T := fun k => match k with
  | _ => ("", "", "", false)
def tyJ9 : Nat → FieldType := fun k => match k with
  | _ => .int
theorem nmJ9 : ∀ a, a < 0 → ∀ b, b < 0 → a ≠ b → (TJ9 a).2.1 ≠ (TJ9 b).2.1 := by decide +kernel
theorem tyJ9_ok : ∀ k, k < 0 → parseFieldDescriptor (TJ9 k).2.2.1 = some (tyJ9 k) := by decide +kernel
abbrev cJ9_abs_0f7a4 : ByteArray := prog_12_method_59_code
def yJ9_abs_0f7a4 : MethodName := ⟨RJ9, "abs", "(I)I"⟩
abbrev cJ9_max_7cf53 : ByteArray := prog_12_method_65_code
def yJ9_max_7cf53 : MethodName := ⟨RJ9, "max", "(II)I"⟩
abbrev cJ9_min_7cf53 : ByteArray := prog_12_method_69_code
def yJ9_min_7cf53 : MethodName := ⟨RJ9, "min", "(II)I"⟩
def RJ0 : String := "java/lang/String"
def TJ0 : u_T := fun k => match k with
  | _ => ("", "", "", false)
def tyJ0 : Nat → FieldType := fun k => match k with
  | _ => .int
theorem nmJ0 : ∀ a, a < 0 → ∀ b, b < 0 → a ≠ b → (TJ0 a).2.1 ≠ (TJ0 b).2.1 := by decide +kernel
theorem tyJ0_ok : ∀ k, k < 0 → parseFieldDescriptor (TJ0 k).2.2.1 = some (tyJ0 k) := by decide +kernel
abbrev cJ0_length_8abf5 : ByteArray := prog_13_method_54_code
def yJ0_length_8abf5 : MethodName := ⟨RJ0, "length", "()I"⟩
abbrev cJ0_charAt_5068e : ByteArray := prog_13_method_56_code
def yJ0_charAt_5068e : MethodName := ⟨RJ0, "charAt", "(I)C"⟩
abbrev cJ0_coder_7d493 : ByteArray := prog_13_method_152_code
def yJ0_coder_7d493 : MethodName := ⟨RJ0, "coder", "()B"⟩
abbrev cJ0_isLatin1_aae02 : ByteArray := prog_13_method_154_code
def yJ0_isLatin1_aae02 : MethodName := ⟨RJ0, "isLatin1", "()Z"⟩
abbrev cJ0_checkIndex_df160 : ByteArray := prog_13_method_155_code
def yJ0_checkIndex_df160 : MethodName := ⟨RJ0, "checkIndex", "(II)V"⟩
def RJ1 : String := "java/lang/StringLatin1"
def TJ1 : u_T := fun k => match k with
  | _ => ("", "", "", false)
def tyJ1 : Nat → FieldType := fun k => match k with
  | _ => .int
theorem nmJ1 : ∀ a, a < 0 → ∀ b, b < 0 → a ≠ b → (TJ1 a).2.1 ≠ (TJ1 b).2.1 := by decide +kernel
theorem tyJ1_ok : ∀ k, k < 0 → parseFieldDescriptor (TJ1 k).2.2.1 = some (tyJ1 k) := by decide +kernel
abbrev cJ1_charAt_3b067 : ByteArray := prog_14_method_2_code
def yJ1_charAt_3b067 : MethodName := ⟨RJ1, "charAt", "([BI)C"⟩
def RJ2 : String := "java/lang/StringUTF16"
def TJ2 : u_T := fun k => match k with
  | _ => ("", "", "", false)
def tyJ2 : Nat → FieldType := fun k => match k with
  | _ => .int
theorem nmJ2 : ∀ a, a < 0 → ∀ b, b < 0 → a ≠ b → (TJ2 a).2.1 ≠ (TJ2 b).2.1 := by decide +kernel
theorem tyJ2_ok : ∀ k, k < 0 → parseFieldDescriptor (TJ2 k).2.2.1 = some (tyJ2 k) := by decide +kernel
abbrev cJ2_getChar_3b067 : ByteArray := prog_15_method_5_code
def yJ2_getChar_3b067 : MethodName := ⟨RJ2, "getChar", "([BI)C"⟩
abbrev cJ2_length_9d52b : ByteArray := prog_15_method_6_code
def yJ2_length_9d52b : MethodName := ⟨RJ2, "length", "([B)I"⟩
abbrev cJ2_charAt_3b067 : ByteArray := prog_15_method_83_code
def yJ2_charAt_3b067 : MethodName := ⟨RJ2, "charAt", "([BI)C"⟩
abbrev cJ2_checkIndex_2214a : ByteArray := prog_15_method_91_code
def yJ2_checkIndex_2214a : MethodName := ⟨RJ2, "checkIndex", "(I[B)V"⟩
def RJ10 : String := "java/lang/System"
def TJ10 : u_T := fun k => match k with
  | _ => ("", "", "", false)
def tyJ10 : Nat → FieldType := fun k => match k with
  | _ => .int
theorem nmJ10 : ∀ a, a < 0 → ∀ b, b < 0 → a ≠ b → (TJ10 a).2.1 ≠ (TJ10 b).2.1 := by decide +kernel
theorem tyJ10_ok : ∀ k, k < 0 → parseFieldDescriptor (TJ10 k).2.2.1 = some (tyJ10 k) := by decide +kernel
def RJ3 : String := "jdk/internal/util/Preconditions"
def TJ3 : u_T := fun k => match k with
  | _ => ("", "", "", false)
def tyJ3 : Nat → FieldType := fun k => match k with
  | _ => .int
theorem nmJ3 : ∀ a, a < 0 → ∀ b, b < 0 → a ≠ b → (TJ3 a).2.1 ≠ (TJ3 b).2.1 := by decide +kernel
theorem tyJ3_ok : ∀ k, k < 0 → parseFieldDescriptor (TJ3 k).2.2.1 = some (tyJ3 k) := by decide +kernel
abbrev cJ3_checkIndex_8e157 : ByteArray := prog_17_method_11_code
def yJ3_checkIndex_8e157 : MethodName := ⟨RJ3, "checkIndex", "(IILjava/util/function/BiFunction;)I"⟩
def RL : String := "TeamRoomsLaw"
abbrev cL_law : ByteArray := code
def yL_law : MethodName := ⟨RL, "law", "([I)Z"⟩
abbrev vwCl : List vw_C := [(RX0, TX0, 5), (RX1, TX1, 2), (RX2, TX2, 3), (RX3, TX3, 6), (RX4, TX4, 2), (RX5, TX5, 3), (RX6, TX6, 4), (RX7, TX7, 6), (RX8, TX8, 6), (RX9, TX9, 10)]
def BIG : List Cond := lw_tbl.filter goodWord
theorem big_good : ∀ w ∈ BIG, goodWord w = true := fun w h => (List.mem_filter.mp h).2
theorem big_in : ∀ w ∈ BIG, w ∈ lw_tbl := fun w h => (List.mem_filter.mp h).1
theorem bg1 (i : Nat) {w : Cond} (e : tables_1_1[i]? = some w) (hg : goodWord w = true) : w ∈ BIG := by
  have h := List.mem_of_getElem? e
  exact List.mem_filter.mpr ⟨List.mem_append_right _ (List.mem_append_left _ h), hg⟩
theorem bg2 (i : Nat) {w : Cond} (e : tables_1_2[i]? = some w) (hg : goodWord w = true) : w ∈ BIG := by
  have h := List.mem_of_getElem? e
  exact List.mem_filter.mpr ⟨List.mem_append_right _ (List.mem_append_right _ (List.mem_append_left _ h)), hg⟩
theorem bg3 (i : Nat) {w : Cond} (e : tables_1_3[i]? = some w) (hg : goodWord w = true) : w ∈ BIG := by
  have h := List.mem_of_getElem? e
  exact List.mem_filter.mpr ⟨List.mem_append_right _ (List.mem_append_right _ (List.mem_append_right _ (List.mem_append_left _ h))), hg⟩
theorem bg4 (i : Nat) {w : Cond} (e : tables_1_4[i]? = some w) (hg : goodWord w = true) : w ∈ BIG := by
  have h := List.mem_of_getElem? e
  exact List.mem_filter.mpr ⟨List.mem_append_right _ (List.mem_append_right _ (List.mem_append_right _ (List.mem_append_right _ (List.mem_append_left _ h)))), hg⟩
theorem bg5 (i : Nat) {w : Cond} (e : tables_1_5[i]? = some w) (hg : goodWord w = true) : w ∈ BIG := by
  have h := List.mem_of_getElem? e
  exact List.mem_filter.mpr ⟨List.mem_append_right _ (List.mem_append_right _ (List.mem_append_right _ (List.mem_append_right _ (List.mem_append_right _ (h))))), hg⟩
theorem bgs (i : Nat) {q : MethodName × Nat} (e : lw_privs[i]? = some q) (hg : goodWord (Cond.selects q.1.cls q.1 q.1) = true) : Cond.selects q.1.cls q.1 q.1 ∈ BIG := List.mem_filter.mpr ⟨List.mem_append_left _ (List.mem_map.mpr ⟨q, List.mem_of_getElem? e, rfl⟩), hg⟩
end
section
theorem bw1_0 : (Cond.initialized RL) ∈ BIG := bg1 0 rfl rfl
theorem bw1_1 : (Cond.initialized RX8) ∈ BIG := bg1 1 rfl rfl
theorem bw1_2 : (Cond.initialized RX5) ∈ BIG := bg1 2 rfl rfl
theorem bw1_3 : (Cond.initialized RX7) ∈ BIG := bg1 3 rfl rfl
theorem bw1_4 : (Cond.initialized RX6) ∈ BIG := bg1 4 rfl rfl
theorem bw1_5 : (Cond.initialized RJ9) ∈ BIG := bg1 5 rfl rfl
theorem bw1_6 : (Cond.initialized RX4) ∈ BIG := bg1 6 rfl rfl
theorem bw1_7 : (Cond.initialized RX0) ∈ BIG := bg1 7 rfl rfl
theorem bw1_8 : (Cond.initialized RX2) ∈ BIG := bg1 8 rfl rfl
theorem bw1_9 : (Cond.initialized RX1) ∈ BIG := bg1 9 rfl rfl
theorem bw1_10 : (Cond.initialized RX3) ∈ BIG := bg1 10 rfl rfl
theorem bw1_11 : (Cond.initialized RX9) ∈ BIG := bg1 11 rfl rfl
theorem bw1_12 : (Cond.initialized RJ10) ∈ BIG := bg1 12 rfl rfl
theorem bw1_13 : (Cond.initialized RJ0) ∈ BIG := bg1 13 rfl rfl
theorem bw1_14 : (Cond.initialized RJ1) ∈ BIG := bg1 14 rfl rfl
theorem bw1_15 : (Cond.initialized RJ3) ∈ BIG := bg1 15 rfl rfl
theorem bw1_16 : (Cond.initialized RJ2) ∈ BIG := bg1 16 rfl rfl
theorem bw1_17 : (Cond.classLink RL 7 RX8) ∈ BIG := bg1 17 rfl rfl
theorem bw1_18 : (Cond.instantiable RX8 6) ∈ BIG := bg1 18 rfl rfl
theorem bw1_19 : (Cond.methodLink RL 9 yX8_init) ∈ BIG := bg1 19 rfl rfl
theorem bw1_20 : (Cond.instanceMethod yX8_init) ∈ BIG := bg1 20 rfl rfl
theorem bw1_21 : (Cond.code yX8_init cX8_init 1 none) ∈ BIG := bg1 21 rfl rfl
theorem bw1_22 : (Cond.methodLink RX8 1 objectInit) ∈ BIG := bg1 22 rfl rfl
theorem bw1_23 : (Cond.instanceMethod objectInit) ∈ BIG := bg1 23 rfl rfl
theorem bw1_24 : (Cond.code objectInit object_method_1_code 1 (Option.none : Option Jvm.ClassFile.FieldType)) ∈ BIG := bg1 24 rfl rfl
theorem bw1_25 : (Cond.classLink RX8 7 RX5) ∈ BIG := bg1 25 rfl rfl
theorem bw1_26 : (Cond.instantiable RX5 3) ∈ BIG := bg1 26 rfl rfl
theorem bw1_27 : (Cond.methodLink RX8 9 yX5_init) ∈ BIG := bg1 27 rfl rfl
theorem bw1_28 : (Cond.instanceMethod yX5_init) ∈ BIG := bg1 28 rfl rfl
theorem bw1_29 : (Cond.code yX5_init cX5_init 1 none) ∈ BIG := bg1 29 rfl rfl
theorem bw1_30 : (Cond.methodLink RX5 1 objectInit) ∈ BIG := bg1 30 rfl rfl
theorem bw1_31 : (Cond.classLink RX5 7 RX7) ∈ BIG := bg1 31 rfl rfl
theorem bw1_32 : (Cond.instantiable RX7 6) ∈ BIG := bg1 32 rfl rfl
theorem bw1_33 : (Cond.methodLink RX5 9 yX7_init) ∈ BIG := bg1 33 rfl rfl
theorem bw1_34 : (Cond.instanceMethod yX7_init) ∈ BIG := bg1 34 rfl rfl
theorem bw1_35 : (Cond.code yX7_init cX7_init 2 none) ∈ BIG := bg1 35 rfl rfl
theorem bw1_36 : (Cond.methodLink RX7 3 objectInit) ∈ BIG := bg1 36 rfl rfl
theorem bw1_37 : (Cond.classLink RX7 9 RX6) ∈ BIG := bg1 37 rfl rfl
theorem bw1_38 : (Cond.instantiable RX6 4) ∈ BIG := bg1 38 rfl rfl
theorem bw1_39 : (Cond.methodLink RX7 11 yX6_init) ∈ BIG := bg1 39 rfl rfl
theorem bw1_40 : (Cond.instanceMethod yX6_init) ∈ BIG := bg1 40 rfl rfl
theorem bw1_41 : (Cond.code yX6_init cX6_init 4 none) ∈ BIG := bg1 41 rfl rfl
theorem bw1_42 : (Cond.methodLink RX6 3 objectInit) ∈ BIG := bg1 42 rfl rfl
theorem bw1_43 : (Cond.methodLink RX6 9 yJ9_max_7cf53) ∈ BIG := bg1 43 rfl rfl
theorem bw1_44 : (Cond.static yJ9_max_7cf53) ∈ BIG := bg1 44 rfl rfl
theorem bw1_45 : (Cond.code yJ9_max_7cf53 cJ9_max_7cf53 2 (some .int)) ∈ BIG := bg1 45 rfl rfl
theorem bw1_46 : (Cond.fieldLink RX6 24 "TeamRooms$Table" "cells" "[I") ∈ BIG := bg1 46 rfl rfl
theorem bw1_47 : (Cond.fieldLink RX6 15 "TeamRooms$Table" "capacity" "I") ∈ BIG := bg1 47 rfl rfl
theorem bw1_48 : (Cond.fieldLink RX6 21 "TeamRooms$Table" "width" "I") ∈ BIG := bg1 48 rfl rfl
theorem bw1_49 : (Cond.fieldLink RX6 28 "TeamRooms$Table" "used" "I") ∈ BIG := bg1 49 rfl rfl
theorem bw1_50 : (Cond.laysFinal RX6 "TeamRooms$Table" "cells" "[I") ∈ BIG := bg1 50 rfl rfl
theorem bw1_52 : (Cond.laysFinal RX6 "TeamRooms$Table" "capacity" "I") ∈ BIG := bg1 52 rfl rfl
theorem bw1_54 : (Cond.laysFinal RX6 "TeamRooms$Table" "width" "I") ∈ BIG := bg1 54 rfl rfl
theorem bw1_56 : (Cond.lays RX6 "TeamRooms$Table" "used" "I") ∈ BIG := bg1 56 rfl rfl
theorem bw1_59 : (Cond.arrayClass Jvm.ClassFile.FieldType.int) ∈ BIG := bg1 59 rfl rfl
theorem bw1_62 : (Cond.methodLink RX7 36 yX6_addRow) ∈ BIG := bg1 62 rfl rfl
theorem bw1_63 : (Cond.instanceMethod yX6_addRow) ∈ BIG := bg1 63 rfl rfl
theorem bw1_64 : (Cond.selects RX6 yX6_addRow yX6_addRow) ∈ BIG := bg1 64 rfl rfl
theorem bw1_65 : (Cond.code yX6_addRow cX6_addRow 3 (some .int)) ∈ BIG := bg1 65 rfl rfl
theorem bw1_66 : (Cond.methodLink RX6 31 yX6_isFull) ∈ BIG := bg1 66 rfl rfl
theorem bw1_67 : (Cond.instanceMethod yX6_isFull) ∈ BIG := bg1 67 rfl rfl
theorem bw1_68 : (Cond.selects RX6 yX6_isFull yX6_isFull) ∈ BIG := bg1 68 rfl rfl
theorem bw1_69 : (Cond.code yX6_isFull cX6_isFull 1 (some .boolean)) ∈ BIG := bg1 69 rfl rfl
theorem bw1_70 : (Cond.methodLink RX6 35 yX6_put) ∈ BIG := bg1 70 rfl rfl
theorem bw1_71 : (Cond.instanceMethod yX6_put) ∈ BIG := bg1 71 rfl rfl
theorem bw1_72 : (Cond.selects RX6 yX6_put yX6_put) ∈ BIG := bg1 72 rfl rfl
theorem bw1_73 : (Cond.code yX6_put cX6_put 6 none) ∈ BIG := bg1 73 rfl rfl
theorem bw1_74 : (Cond.methodLink RX7 40 yX6_put) ∈ BIG := bg1 74 rfl rfl
theorem bw1_75 : (Cond.fieldLink RX0 15 "TeamRooms$Venue" "rooms" "LTeamRooms$Table;") ∈ BIG := bg1 75 rfl rfl
theorem bw1_76 : (Cond.fieldLink RX2 15 "TeamRooms$Venue" "rooms" "LTeamRooms$Table;") ∈ BIG := bg1 76 rfl rfl
theorem bw1_77 : (Cond.fieldLink RX7 14 "TeamRooms$Venue" "rooms" "LTeamRooms$Table;") ∈ BIG := bg1 77 rfl rfl
theorem bw1_78 : (Cond.fieldLink RX8 141 "TeamRooms$Venue" "rooms" "LTeamRooms$Table;") ∈ BIG := bg1 78 rfl rfl
theorem bw1_79 : (Cond.fieldLink RX0 22 "TeamRooms$Venue" "bookings" "LTeamRooms$Table;") ∈ BIG := bg1 79 rfl rfl
theorem bw1_80 : (Cond.fieldLink RX2 22 "TeamRooms$Venue" "bookings" "LTeamRooms$Table;") ∈ BIG := bg1 80 rfl rfl
theorem bw1_81 : (Cond.fieldLink RX7 20 "TeamRooms$Venue" "bookings" "LTeamRooms$Table;") ∈ BIG := bg1 81 rfl rfl
theorem bw1_82 : (Cond.fieldLink RX8 150 "TeamRooms$Venue" "bookings" "LTeamRooms$Table;") ∈ BIG := bg1 82 rfl rfl
theorem bw1_83 : (Cond.fieldLink RX0 26 "TeamRooms$Venue" "vouchers" "LTeamRooms$Table;") ∈ BIG := bg1 83 rfl rfl
theorem bw1_84 : (Cond.fieldLink RX7 23 "TeamRooms$Venue" "vouchers" "LTeamRooms$Table;") ∈ BIG := bg1 84 rfl rfl
theorem bw1_85 : (Cond.fieldLink RX8 153 "TeamRooms$Venue" "vouchers" "LTeamRooms$Table;") ∈ BIG := bg1 85 rfl rfl
theorem bw1_86 : (Cond.fieldLink RX0 30 "TeamRooms$Venue" "payments" "LTeamRooms$Table;") ∈ BIG := bg1 86 rfl rfl
theorem bw1_87 : (Cond.fieldLink RX7 26 "TeamRooms$Venue" "payments" "LTeamRooms$Table;") ∈ BIG := bg1 87 rfl rfl
theorem bw1_88 : (Cond.fieldLink RX8 183 "TeamRooms$Venue" "payments" "LTeamRooms$Table;") ∈ BIG := bg1 88 rfl rfl
theorem bw1_89 : (Cond.fieldLink RX7 33 "TeamRooms$Venue" "settings" "LTeamRooms$Table;") ∈ BIG := bg1 89 rfl rfl
theorem bw1_90 : (Cond.fieldLink RX0 68 "TeamRooms$Venue" "settings" "LTeamRooms$Table;") ∈ BIG := bg1 90 rfl rfl
theorem bw1_91 : (Cond.fieldLink RX7 48 "TeamRooms$Venue" "till" "I") ∈ BIG := bg1 91 rfl rfl
theorem bw1_92 : (Cond.fieldLink RX0 71 "TeamRooms$Venue" "till" "I") ∈ BIG := bg1 92 rfl rfl
theorem bw1_93 : (Cond.fieldLink RX8 101 "TeamRooms$Venue" "till" "I") ∈ BIG := bg1 93 rfl rfl
theorem bw1_94 : (Cond.laysFinal RX7 "TeamRooms$Venue" "rooms" "LTeamRooms$Table;") ∈ BIG := bg1 94 rfl rfl
theorem bw1_96 : (Cond.laysFinal RX7 "TeamRooms$Venue" "bookings" "LTeamRooms$Table;") ∈ BIG := bg1 96 rfl rfl
theorem bw1_98 : (Cond.laysFinal RX7 "TeamRooms$Venue" "vouchers" "LTeamRooms$Table;") ∈ BIG := bg1 98 rfl rfl
theorem bw1_100 : (Cond.laysFinal RX7 "TeamRooms$Venue" "payments" "LTeamRooms$Table;") ∈ BIG := bg1 100 rfl rfl
theorem bw1_102 : (Cond.laysFinal RX7 "TeamRooms$Venue" "settings" "LTeamRooms$Table;") ∈ BIG := bg1 102 rfl rfl
theorem bw1_104 : (Cond.lays RX7 "TeamRooms$Venue" "till" "I") ∈ BIG := bg1 104 rfl rfl
theorem bw1_107 : (Cond.classLink RX5 16 RX4) ∈ BIG := bg1 107 rfl rfl
theorem bw1_108 : (Cond.instantiable RX4 2) ∈ BIG := bg1 108 rfl rfl
theorem bw1_109 : (Cond.methodLink RX5 18 yX4_init) ∈ BIG := bg1 109 rfl rfl
theorem bw1_110 : (Cond.instanceMethod yX4_init) ∈ BIG := bg1 110 rfl rfl
theorem bw1_111 : (Cond.code yX4_init cX4_init 1 none) ∈ BIG := bg1 111 rfl rfl
theorem bw1_112 : (Cond.methodLink RX4 1 objectInit) ∈ BIG := bg1 112 rfl rfl
theorem bw1_113 : (Cond.classLink RX4 7 RX7) ∈ BIG := bg1 113 rfl rfl
theorem bw1_114 : (Cond.methodLink RX4 9 yX7_init) ∈ BIG := bg1 114 rfl rfl
theorem bw1_115 : (Cond.fieldLink RX4 10 "TeamRooms$Slot" "kept" "LTeamRooms$Venue;") ∈ BIG := bg1 115 rfl rfl
theorem bw1_116 : (Cond.fieldLink RX8 111 "TeamRooms$Slot" "kept" "LTeamRooms$Venue;") ∈ BIG := bg1 116 rfl rfl
theorem bw1_117 : (Cond.fieldLink RX4 20 "TeamRooms$Slot" "taken" "Z") ∈ BIG := bg1 117 rfl rfl
theorem bw1_118 : (Cond.fieldLink RX5 26 "TeamRooms$Slot" "taken" "Z") ∈ BIG := bg1 118 rfl rfl
theorem bw1_119 : (Cond.fieldLink RX8 107 "TeamRooms$Slot" "taken" "Z") ∈ BIG := bg1 119 rfl rfl
theorem bw1_120 : (Cond.laysFinal RX4 "TeamRooms$Slot" "kept" "LTeamRooms$Venue;") ∈ BIG := bg1 120 rfl rfl
theorem bw1_122 : (Cond.lays RX4 "TeamRooms$Slot" "taken" "Z") ∈ BIG := bg1 122 rfl rfl
theorem bw1_125 : (Cond.fieldLink RX5 10 "TeamRooms$State" "venue" "LTeamRooms$Venue;") ∈ BIG := bg1 125 rfl rfl
theorem bw1_126 : (Cond.fieldLink RX8 16 "TeamRooms$State" "venue" "LTeamRooms$Venue;") ∈ BIG := bg1 126 rfl rfl
theorem bw1_127 : (Cond.fieldLink RX5 19 "TeamRooms$State" "first" "LTeamRooms$Slot;") ∈ BIG := bg1 127 rfl rfl
theorem bw1_128 : (Cond.fieldLink RX5 23 "TeamRooms$State" "second" "LTeamRooms$Slot;") ∈ BIG := bg1 128 rfl rfl
theorem bw1_129 : (Cond.laysFinal RX5 "TeamRooms$State" "venue" "LTeamRooms$Venue;") ∈ BIG := bg1 129 rfl rfl
theorem bw1_131 : (Cond.laysFinal RX5 "TeamRooms$State" "first" "LTeamRooms$Slot;") ∈ BIG := bg1 131 rfl rfl
theorem bw1_133 : (Cond.laysFinal RX5 "TeamRooms$State" "second" "LTeamRooms$Slot;") ∈ BIG := bg1 133 rfl rfl
theorem bw1_136 : (Cond.classLink RX8 21 RX0) ∈ BIG := bg1 136 rfl rfl
theorem bw1_137 : (Cond.instantiable RX0 5) ∈ BIG := bg1 137 rfl rfl
theorem bw1_138 : (Cond.methodLink RX8 23 yX0_init) ∈ BIG := bg1 138 rfl rfl
theorem bw1_139 : (Cond.instanceMethod yX0_init) ∈ BIG := bg1 139 rfl rfl
theorem bw1_140 : (Cond.code yX0_init cX0_init 2 none) ∈ BIG := bg1 140 rfl rfl
theorem bw1_141 : (Cond.methodLink RX0 3 objectInit) ∈ BIG := bg1 141 rfl rfl
theorem bw1_142 : (Cond.fieldLink RX0 9 "TeamRooms$Desk" "venue" "LTeamRooms$Venue;") ∈ BIG := bg1 142 rfl rfl
theorem bw1_143 : (Cond.fieldLink RX0 21 "TeamRooms$Desk" "rooms" "LTeamRooms$Table;") ∈ BIG := bg1 143 rfl rfl
theorem bw1_144 : (Cond.fieldLink RX0 25 "TeamRooms$Desk" "bookings" "LTeamRooms$Table;") ∈ BIG := bg1 144 rfl rfl
theorem bw1_145 : (Cond.fieldLink RX0 29 "TeamRooms$Desk" "vouchers" "LTeamRooms$Table;") ∈ BIG := bg1 145 rfl rfl
theorem bw1_146 : (Cond.fieldLink RX0 33 "TeamRooms$Desk" "payments" "LTeamRooms$Table;") ∈ BIG := bg1 146 rfl rfl
theorem bw1_147 : (Cond.laysFinal RX0 "TeamRooms$Desk" "venue" "LTeamRooms$Venue;") ∈ BIG := bg1 147 rfl rfl
theorem bw1_149 : (Cond.laysFinal RX0 "TeamRooms$Desk" "rooms" "LTeamRooms$Table;") ∈ BIG := bg1 149 rfl rfl
theorem bw1_151 : (Cond.laysFinal RX0 "TeamRooms$Desk" "bookings" "LTeamRooms$Table;") ∈ BIG := bg1 151 rfl rfl
theorem bw1_153 : (Cond.laysFinal RX0 "TeamRooms$Desk" "vouchers" "LTeamRooms$Table;") ∈ BIG := bg1 153 rfl rfl
theorem bw1_155 : (Cond.laysFinal RX0 "TeamRooms$Desk" "payments" "LTeamRooms$Table;") ∈ BIG := bg1 155 rfl rfl
theorem bw1_158 : (Cond.classLink RX8 30 RX2) ∈ BIG := bg1 158 rfl rfl
theorem bw1_159 : (Cond.instantiable RX2 3) ∈ BIG := bg1 159 rfl rfl
theorem bw1_160 : (Cond.methodLink RX8 32 yX2_init) ∈ BIG := bg1 160 rfl rfl
theorem bw1_161 : (Cond.instanceMethod yX2_init) ∈ BIG := bg1 161 rfl rfl
theorem bw1_162 : (Cond.code yX2_init cX2_init 2 none) ∈ BIG := bg1 162 rfl rfl
theorem bw1_163 : (Cond.methodLink RX2 3 objectInit) ∈ BIG := bg1 163 rfl rfl
theorem bw1_164 : (Cond.fieldLink RX2 9 "TeamRooms$Outlook" "venue" "LTeamRooms$Venue;") ∈ BIG := bg1 164 rfl rfl
theorem bw1_165 : (Cond.fieldLink RX2 21 "TeamRooms$Outlook" "rooms" "LTeamRooms$Table;") ∈ BIG := bg1 165 rfl rfl
theorem bw1_166 : (Cond.fieldLink RX2 25 "TeamRooms$Outlook" "bookings" "LTeamRooms$Table;") ∈ BIG := bg1 166 rfl rfl
theorem bw1_167 : (Cond.laysFinal RX2 "TeamRooms$Outlook" "venue" "LTeamRooms$Venue;") ∈ BIG := bg1 167 rfl rfl
theorem bw1_169 : (Cond.laysFinal RX2 "TeamRooms$Outlook" "rooms" "LTeamRooms$Table;") ∈ BIG := bg1 169 rfl rfl
theorem bw1_171 : (Cond.laysFinal RX2 "TeamRooms$Outlook" "bookings" "LTeamRooms$Table;") ∈ BIG := bg1 171 rfl rfl
theorem bw1_174 : (Cond.classLink RX8 37 RX1) ∈ BIG := bg1 174 rfl rfl
theorem bw1_175 : (Cond.instantiable RX1 2) ∈ BIG := bg1 175 rfl rfl
theorem bw1_176 : (Cond.methodLink RX8 39 yX1_init) ∈ BIG := bg1 176 rfl rfl
theorem bw1_177 : (Cond.instanceMethod yX1_init) ∈ BIG := bg1 177 rfl rfl
theorem bw1_178 : (Cond.code yX1_init cX1_init 2 none) ∈ BIG := bg1 178 rfl rfl
theorem bw1_179 : (Cond.methodLink RX1 3 objectInit) ∈ BIG := bg1 179 rfl rfl
theorem bw1_180 : (Cond.classLink RX1 9 RX5) ∈ BIG := bg1 180 rfl rfl
theorem bw1_182 : (Cond.methodLink RX1 17 yX5_init) ∈ BIG := bg1 182 rfl rfl
theorem bw1_183 : (Cond.fieldLink RX1 11 "TeamRooms$History" "states" "[LTeamRooms$State;") ∈ BIG := bg1 183 rfl rfl
theorem bw1_184 : (Cond.fieldLink RX1 18 "TeamRooms$History" "recorded" "I") ∈ BIG := bg1 184 rfl rfl
theorem bw1_185 : (Cond.laysFinal RX1 "TeamRooms$History" "states" "[LTeamRooms$State;") ∈ BIG := bg1 185 rfl rfl
theorem bw1_187 : (Cond.lays RX1 "TeamRooms$History" "recorded" "I") ∈ BIG := bg1 187 rfl rfl
theorem bw1_190 : (Cond.classLink RX8 44 RX3) ∈ BIG := bg1 190 rfl rfl
theorem bw1_191 : (Cond.instantiable RX3 6) ∈ BIG := bg1 191 rfl rfl
theorem bw1_192 : (Cond.methodLink RX8 46 yX3_init) ∈ BIG := bg1 192 rfl rfl
theorem bw1_193 : (Cond.instanceMethod yX3_init) ∈ BIG := bg1 193 rfl rfl
theorem bw1_194 : (Cond.code yX3_init cX3_init 1 none) ∈ BIG := bg1 194 rfl rfl
theorem bw1_195 : (Cond.methodLink RX3 3 objectInit) ∈ BIG := bg1 195 rfl rfl
theorem bw1_196 : (Cond.fieldLink RX3 9 "TeamRooms$Program" "text" "[I") ∈ BIG := bg1 196 rfl rfl
theorem bw1_197 : (Cond.fieldLink RX3 15 "TeamRooms$Program" "numbers" "[I") ∈ BIG := bg1 197 rfl rfl
theorem bw1_198 : (Cond.fieldLink RX3 18 "TeamRooms$Program" "length" "I") ∈ BIG := bg1 198 rfl rfl
theorem bw1_199 : (Cond.fieldLink RX3 32 "TeamRooms$Program" "kind" "I") ∈ BIG := bg1 199 rfl rfl
theorem bw1_200 : (Cond.fieldLink RX3 35 "TeamRooms$Program" "start" "I") ∈ BIG := bg1 200 rfl rfl
theorem bw1_201 : (Cond.fieldLink RX3 26 "TeamRooms$Program" "end" "I") ∈ BIG := bg1 201 rfl rfl
theorem bw1_202 : (Cond.laysFinal RX3 "TeamRooms$Program" "text" "[I") ∈ BIG := bg1 202 rfl rfl
theorem bw1_204 : (Cond.laysFinal RX3 "TeamRooms$Program" "numbers" "[I") ∈ BIG := bg1 204 rfl rfl
theorem bw1_206 : (Cond.lays RX3 "TeamRooms$Program" "length" "I") ∈ BIG := bg1 206 rfl rfl
theorem bw1_208 : (Cond.lays RX3 "TeamRooms$Program" "kind" "I") ∈ BIG := bg1 208 rfl rfl
theorem bw1_210 : (Cond.lays RX3 "TeamRooms$Program" "start" "I") ∈ BIG := bg1 210 rfl rfl
theorem bw1_212 : (Cond.lays RX3 "TeamRooms$Program" "end" "I") ∈ BIG := bg1 212 rfl rfl
theorem bw1_215 : (Cond.fieldLink RX8 10 "TeamRooms" "now" "LTeamRooms$State;") ∈ BIG := bg1 215 rfl rfl
theorem bw1_216 : (Cond.fieldLink RX8 20 "TeamRooms" "venue" "LTeamRooms$Venue;") ∈ BIG := bg1 216 rfl rfl
theorem bw1_217 : (Cond.fieldLink RX8 26 "TeamRooms" "desk" "LTeamRooms$Desk;") ∈ BIG := bg1 217 rfl rfl
theorem bw1_218 : (Cond.fieldLink RX8 33 "TeamRooms" "outlook" "LTeamRooms$Outlook;") ∈ BIG := bg1 218 rfl rfl
theorem bw1_219 : (Cond.fieldLink RX8 40 "TeamRooms" "history" "LTeamRooms$History;") ∈ BIG := bg1 219 rfl rfl
theorem bw1_220 : (Cond.fieldLink RX8 47 "TeamRooms" "program" "LTeamRooms$Program;") ∈ BIG := bg1 220 rfl rfl
theorem bw1_221 : (Cond.laysFinal RX8 "TeamRooms" "now" "LTeamRooms$State;") ∈ BIG := bg1 221 rfl rfl
theorem bw1_223 : (Cond.laysFinal RX8 "TeamRooms" "venue" "LTeamRooms$Venue;") ∈ BIG := bg1 223 rfl rfl
theorem bw1_225 : (Cond.laysFinal RX8 "TeamRooms" "desk" "LTeamRooms$Desk;") ∈ BIG := bg1 225 rfl rfl
theorem bw1_227 : (Cond.laysFinal RX8 "TeamRooms" "outlook" "LTeamRooms$Outlook;") ∈ BIG := bg1 227 rfl rfl
theorem bw1_229 : (Cond.laysFinal RX8 "TeamRooms" "history" "LTeamRooms$History;") ∈ BIG := bg1 229 rfl rfl
theorem bw1_231 : (Cond.laysFinal RX8 "TeamRooms" "program" "LTeamRooms$Program;") ∈ BIG := bg1 231 rfl rfl
theorem bw1_234 : (Cond.methodLink RL 13 yX8_addRoom) ∈ BIG := bg1 234 rfl rfl
theorem bw1_235 : (Cond.instanceMethod yX8_addRoom) ∈ BIG := bg1 235 rfl rfl
theorem bw1_236 : (Cond.selects RX8 yX8_addRoom yX8_addRoom) ∈ BIG := bg1 236 rfl rfl
theorem bw1_237 : (Cond.code yX8_addRoom cX8_addRoom 5 (some .int)) ∈ BIG := bg1 237 rfl rfl
theorem bw1_238 : (Cond.methodLink RX8 51 yX1_prepare) ∈ BIG := bg1 238 rfl rfl
theorem bw1_239 : (Cond.instanceMethod yX1_prepare) ∈ BIG := bg1 239 rfl rfl
theorem bw2_0 : (Cond.selects RX1 yX1_prepare yX1_prepare) ∈ BIG := bg2 0 rfl rfl
theorem bw2_1 : (Cond.code yX1_prepare cX1_prepare 3 none) ∈ BIG := bg2 1 rfl rfl
theorem bw2_2 : (Cond.methodLink RX1 22 yX1_stateAt) ∈ BIG := bg2 2 rfl rfl
theorem bw2_4 : (Cond.instanceMethod yX1_stateAt) ∈ BIG := bg2 4 rfl rfl
theorem bw2_5 : (Cond.code yX1_stateAt cX1_stateAt 2 (Option.some (Jvm.ClassFile.FieldType.object "TeamRooms$State"))) ∈ BIG := bg2 5 rfl rfl
theorem bw2_6 : (Cond.methodLink RX1 26 yX5_copyFrom) ∈ BIG := bg2 6 rfl rfl
theorem bw2_7 : (Cond.instanceMethod yX5_copyFrom) ∈ BIG := bg2 7 rfl rfl
theorem bw2_8 : (Cond.selects RX5 yX5_copyFrom yX5_copyFrom) ∈ BIG := bg2 8 rfl rfl
theorem bw2_9 : (Cond.code yX5_copyFrom cX5_copyFrom 2 none) ∈ BIG := bg2 9 rfl rfl
theorem bw2_10 : (Cond.methodLink RX5 30 yX7_copyFrom) ∈ BIG := bg2 10 rfl rfl
theorem bw2_11 : (Cond.instanceMethod yX7_copyFrom) ∈ BIG := bg2 11 rfl rfl
theorem bw2_12 : (Cond.selects RX7 yX7_copyFrom yX7_copyFrom) ∈ BIG := bg2 12 rfl rfl
theorem bw2_13 : (Cond.code yX7_copyFrom cX7_copyFrom 2 none) ∈ BIG := bg2 13 rfl rfl
theorem bw2_14 : (Cond.methodLink RX7 44 yX6_copyFrom) ∈ BIG := bg2 14 rfl rfl
theorem bw2_15 : (Cond.instanceMethod yX6_copyFrom) ∈ BIG := bg2 15 rfl rfl
theorem bw2_16 : (Cond.selects RX6 yX6_copyFrom yX6_copyFrom) ∈ BIG := bg2 16 rfl rfl
theorem bw2_17 : (Cond.code yX6_copyFrom cX6_copyFrom 3 none) ∈ BIG := bg2 17 rfl rfl
theorem bw2_18 : (Cond.methodLink RX6 42 yJ9_min_7cf53) ∈ BIG := bg2 18 rfl rfl
theorem bw2_19 : (Cond.static yJ9_min_7cf53) ∈ BIG := bg2 19 rfl rfl
theorem bw2_20 : (Cond.code yJ9_min_7cf53 cJ9_min_7cf53 2 (some .int)) ∈ BIG := bg2 20 rfl rfl
theorem bw2_21 : (Cond.methodLink RX6 45 ⟨"java/lang/System", "arraycopy", "(Ljava/lang/Object;ILjava/lang/Object;II)V"⟩) ∈ BIG := bg2 21 rfl rfl
theorem bw2_22 : (Cond.static ⟨"java/lang/System", "arraycopy", "(Ljava/lang/Object;ILjava/lang/Object;II)V"⟩) ∈ BIG := bg2 22 rfl rfl
theorem bw2_23 : (Cond.native ⟨"java/lang/System", "arraycopy", "(Ljava/lang/Object;ILjava/lang/Object;II)V"⟩) ∈ BIG := bg2 23 rfl rfl
theorem bw2_24 : (Cond.methodLink RX5 34 yX4_copyFrom) ∈ BIG := bg2 24 rfl rfl
theorem bw2_25 : (Cond.instanceMethod yX4_copyFrom) ∈ BIG := bg2 25 rfl rfl
theorem bw2_26 : (Cond.selects RX4 yX4_copyFrom yX4_copyFrom) ∈ BIG := bg2 26 rfl rfl
theorem bw2_27 : (Cond.code yX4_copyFrom cX4_copyFrom 2 none) ∈ BIG := bg2 27 rfl rfl
theorem bw2_28 : (Cond.methodLink RX4 16 yX7_copyFrom) ∈ BIG := bg2 28 rfl rfl
theorem bw2_29 : (Cond.methodLink RX8 55 yX0_newRoom) ∈ BIG := bg2 29 rfl rfl
theorem bw2_30 : (Cond.instanceMethod yX0_newRoom) ∈ BIG := bg2 30 rfl rfl
theorem bw2_31 : (Cond.selects RX0 yX0_newRoom yX0_newRoom) ∈ BIG := bg2 31 rfl rfl
theorem bw2_32 : (Cond.code yX0_newRoom cX0_newRoom 6 (some .int)) ∈ BIG := bg2 32 rfl rfl
theorem bw2_34 : (Cond.static yX8_inRange) ∈ BIG := bg2 34 rfl rfl
theorem bw2_35 : (Cond.code yX8_inRange cX8_inRange 3 (some .boolean)) ∈ BIG := bg2 35 rfl rfl
theorem bw2_36 : (Cond.methodLink RX0 38 yX6_isFull) ∈ BIG := bg2 36 rfl rfl
theorem bw2_37 : (Cond.methodLink RX0 44 yX6_addRow) ∈ BIG := bg2 37 rfl rfl
theorem bw2_38 : (Cond.methodLink RX0 48 yX6_put) ∈ BIG := bg2 38 rfl rfl
theorem bw2_39 : (Cond.methodLink RX8 59 yX1_settle) ∈ BIG := bg2 39 rfl rfl
theorem bw2_40 : (Cond.instanceMethod yX1_settle) ∈ BIG := bg2 40 rfl rfl
theorem bw2_41 : (Cond.selects RX1 yX1_settle yX1_settle) ∈ BIG := bg2 41 rfl rfl
theorem bw2_42 : (Cond.code yX1_settle cX1_settle 2 (some .int)) ∈ BIG := bg2 42 rfl rfl
theorem bw2_43 : (Cond.methodLink RX1 30 yX1_record) ∈ BIG := bg2 43 rfl rfl
theorem bw2_45 : (Cond.instanceMethod yX1_record) ∈ BIG := bg2 45 rfl rfl
theorem bw2_46 : (Cond.code yX1_record cX1_record 3 none) ∈ BIG := bg2 46 rfl rfl
theorem bw2_47 : (Cond.methodLink RL 18 yX8_setPrice) ∈ BIG := bg2 47 rfl rfl
theorem bw2_48 : (Cond.instanceMethod yX8_setPrice) ∈ BIG := bg2 48 rfl rfl
theorem bw2_49 : (Cond.selects RX8 yX8_setPrice yX8_setPrice) ∈ BIG := bg2 49 rfl rfl
theorem bw2_50 : (Cond.code yX8_setPrice cX8_setPrice 3 (some .int)) ∈ BIG := bg2 50 rfl rfl
theorem bw2_51 : (Cond.methodLink RX8 63 yX0_changePrice) ∈ BIG := bg2 51 rfl rfl
theorem bw2_52 : (Cond.instanceMethod yX0_changePrice) ∈ BIG := bg2 52 rfl rfl
theorem bw2_53 : (Cond.selects RX0 yX0_changePrice yX0_changePrice) ∈ BIG := bg2 53 rfl rfl
theorem bw2_54 : (Cond.code yX0_changePrice cX0_changePrice 4 (some .int)) ∈ BIG := bg2 54 rfl rfl
theorem bw2_55 : (Cond.methodLink RX0 52 yX6_has) ∈ BIG := bg2 55 rfl rfl
theorem bw2_56 : (Cond.instanceMethod yX6_has) ∈ BIG := bg2 56 rfl rfl
theorem bw2_57 : (Cond.selects RX6 yX6_has yX6_has) ∈ BIG := bg2 57 rfl rfl
theorem bw2_58 : (Cond.code yX6_has cX6_has 2 (some .boolean)) ∈ BIG := bg2 58 rfl rfl
theorem bw2_59 : (Cond.methodLink RX0 56 yX6_cell) ∈ BIG := bg2 59 rfl rfl
theorem bw2_60 : (Cond.instanceMethod yX6_cell) ∈ BIG := bg2 60 rfl rfl
theorem bw2_61 : (Cond.selects RX6 yX6_cell yX6_cell) ∈ BIG := bg2 61 rfl rfl
theorem bw2_62 : (Cond.code yX6_cell cX6_cell 5 (some .int)) ∈ BIG := bg2 62 rfl rfl
theorem bw2_63 : (Cond.methodLink RL 23 yX8_set) ∈ BIG := bg2 63 rfl rfl
theorem bw2_64 : (Cond.instanceMethod yX8_set) ∈ BIG := bg2 64 rfl rfl
theorem bw2_65 : (Cond.selects RX8 yX8_set yX8_set) ∈ BIG := bg2 65 rfl rfl
theorem bw2_66 : (Cond.code yX8_set cX8_set 3 (some .int)) ∈ BIG := bg2 66 rfl rfl
theorem bw2_67 : (Cond.methodLink RX8 67 yX0_changeSetting) ∈ BIG := bg2 67 rfl rfl
theorem bw2_68 : (Cond.instanceMethod yX0_changeSetting) ∈ BIG := bg2 68 rfl rfl
theorem bw2_69 : (Cond.selects RX0 yX0_changeSetting yX0_changeSetting) ∈ BIG := bg2 69 rfl rfl
theorem bw2_70 : (Cond.code yX0_changeSetting cX0_changeSetting 4 (some .int)) ∈ BIG := bg2 70 rfl rfl
theorem bw2_73 : (Cond.methodLink RX0 64 yX7_setting) ∈ BIG := bg2 73 rfl rfl
theorem bw2_74 : (Cond.instanceMethod yX7_setting) ∈ BIG := bg2 74 rfl rfl
theorem bw2_75 : (Cond.selects RX7 yX7_setting yX7_setting) ∈ BIG := bg2 75 rfl rfl
theorem bw2_76 : (Cond.code yX7_setting cX7_setting 2 (some .int)) ∈ BIG := bg2 76 rfl rfl
theorem bw2_77 : (Cond.methodLink RX7 52 yX6_cell) ∈ BIG := bg2 77 rfl rfl
theorem bw2_78 : (Cond.methodLink RL 27 yX8_sellVoucher) ∈ BIG := bg2 78 rfl rfl
theorem bw2_79 : (Cond.instanceMethod yX8_sellVoucher) ∈ BIG := bg2 79 rfl rfl
theorem bw2_80 : (Cond.selects RX8 yX8_sellVoucher yX8_sellVoucher) ∈ BIG := bg2 80 rfl rfl
theorem bw2_81 : (Cond.code yX8_sellVoucher cX8_sellVoucher 2 (some .int)) ∈ BIG := bg2 81 rfl rfl
theorem bw2_82 : (Cond.methodLink RX8 70 yX0_newVoucher) ∈ BIG := bg2 82 rfl rfl
theorem bw2_83 : (Cond.instanceMethod yX0_newVoucher) ∈ BIG := bg2 83 rfl rfl
theorem bw2_84 : (Cond.selects RX0 yX0_newVoucher yX0_newVoucher) ∈ BIG := bg2 84 rfl rfl
theorem bw2_85 : (Cond.code yX0_newVoucher cX0_newVoucher 3 (some .int)) ∈ BIG := bg2 85 rfl rfl
theorem bw2_86 : (Cond.methodLink RL 32 yX8_book) ∈ BIG := bg2 86 rfl rfl
theorem bw2_87 : (Cond.instanceMethod yX8_book) ∈ BIG := bg2 87 rfl rfl
theorem bw2_88 : (Cond.selects RX8 yX8_book yX8_book) ∈ BIG := bg2 88 rfl rfl
theorem bw2_89 : (Cond.code yX8_book cX8_book 5 (some .int)) ∈ BIG := bg2 89 rfl rfl
theorem bw2_90 : (Cond.methodLink RX8 73 yX0_newBooking) ∈ BIG := bg2 90 rfl rfl
theorem bw2_91 : (Cond.instanceMethod yX0_newBooking) ∈ BIG := bg2 91 rfl rfl
theorem bw2_92 : (Cond.selects RX0 yX0_newBooking yX0_newBooking) ∈ BIG := bg2 92 rfl rfl
theorem bw2_93 : (Cond.code yX0_newBooking cX0_newBooking 6 (some .int)) ∈ BIG := bg2 93 rfl rfl
theorem bw2_94 : (Cond.methodLink RX0 75 yX7_isPossible) ∈ BIG := bg2 94 rfl rfl
theorem bw2_95 : (Cond.instanceMethod yX7_isPossible) ∈ BIG := bg2 95 rfl rfl
theorem bw2_96 : (Cond.selects RX7 yX7_isPossible yX7_isPossible) ∈ BIG := bg2 96 rfl rfl
theorem bw2_97 : (Cond.code yX7_isPossible cX7_isPossible 4 (some .boolean)) ∈ BIG := bg2 97 rfl rfl
theorem bw2_98 : (Cond.methodLink RX7 75 yX7_timeBehindPlays) ∈ BIG := bg2 98 rfl rfl
theorem bw2_99 : (Cond.instanceMethod yX7_timeBehindPlays) ∈ BIG := bg2 99 rfl rfl
theorem bw2_100 : (Cond.selects RX7 yX7_timeBehindPlays yX7_timeBehindPlays) ∈ BIG := bg2 100 rfl rfl
theorem bw2_101 : (Cond.code yX7_timeBehindPlays cX7_timeBehindPlays 4 (some .int)) ∈ BIG := bg2 101 rfl rfl
theorem bw2_102 : (Cond.methodLink RX7 60 yX6_size) ∈ BIG := bg2 102 rfl rfl
theorem bw2_103 : (Cond.instanceMethod yX6_size) ∈ BIG := bg2 103 rfl rfl
theorem bw2_104 : (Cond.selects RX6 yX6_size yX6_size) ∈ BIG := bg2 104 rfl rfl
theorem bw2_105 : (Cond.code yX6_size cX6_size 1 (some .int)) ∈ BIG := bg2 105 rfl rfl
theorem bw2_106 : (Cond.methodLink RX7 63 yJ9_max_7cf53) ∈ BIG := bg2 106 rfl rfl
theorem bw2_107 : (Cond.methodLink RX7 78 yX7_collision) ∈ BIG := bg2 107 rfl rfl
theorem bw2_108 : (Cond.instanceMethod yX7_collision) ∈ BIG := bg2 108 rfl rfl
theorem bw2_109 : (Cond.selects RX7 yX7_collision yX7_collision) ∈ BIG := bg2 109 rfl rfl
theorem bw2_110 : (Cond.code yX7_collision cX7_collision 8 (some .int)) ∈ BIG := bg2 110 rfl rfl
theorem bw2_111 : (Cond.methodLink RX7 68 yX7_period) ∈ BIG := bg2 111 rfl rfl
theorem bw2_112 : (Cond.instanceMethod yX7_period) ∈ BIG := bg2 112 rfl rfl
theorem bw2_113 : (Cond.selects RX7 yX7_period yX7_period) ∈ BIG := bg2 113 rfl rfl
theorem bw2_114 : (Cond.code yX7_period cX7_period 2 (some .int)) ∈ BIG := bg2 114 rfl rfl
theorem bw2_115 : (Cond.methodLink RX7 72 yJ9_abs_0f7a4) ∈ BIG := bg2 115 rfl rfl
theorem bw2_116 : (Cond.static yJ9_abs_0f7a4) ∈ BIG := bg2 116 rfl rfl
theorem bw2_117 : (Cond.code yJ9_abs_0f7a4 cJ9_abs_0f7a4 1 (some .int)) ∈ BIG := bg2 117 rfl rfl
theorem bw2_118 : (Cond.methodLink RX0 78 yX0_payCharge) ∈ BIG := bg2 118 rfl rfl
theorem bw2_120 : (Cond.instanceMethod yX0_payCharge) ∈ BIG := bg2 120 rfl rfl
theorem bw2_121 : (Cond.code yX0_payCharge cX0_payCharge 6 none) ∈ BIG := bg2 121 rfl rfl
theorem bw2_122 : (Cond.methodLink RX0 81 yJ9_min_7cf53) ∈ BIG := bg2 122 rfl rfl
theorem bw2_123 : (Cond.methodLink RX0 86 yX6_raise) ∈ BIG := bg2 123 rfl rfl
theorem bw2_124 : (Cond.instanceMethod yX6_raise) ∈ BIG := bg2 124 rfl rfl
theorem bw2_125 : (Cond.selects RX6 yX6_raise yX6_raise) ∈ BIG := bg2 125 rfl rfl
theorem bw2_126 : (Cond.code yX6_raise cX6_raise 4 none) ∈ BIG := bg2 126 rfl rfl
theorem bw2_127 : (Cond.methodLink RX6 39 yX6_cell) ∈ BIG := bg2 127 rfl rfl
theorem bw2_128 : (Cond.methodLink RL 36 yX8_move) ∈ BIG := bg2 128 rfl rfl
theorem bw2_129 : (Cond.instanceMethod yX8_move) ∈ BIG := bg2 129 rfl rfl
theorem bw2_130 : (Cond.selects RX8 yX8_move yX8_move) ∈ BIG := bg2 130 rfl rfl
theorem bw2_131 : (Cond.code yX8_move cX8_move 3 (some .int)) ∈ BIG := bg2 131 rfl rfl
theorem bw2_132 : (Cond.methodLink RX8 76 yX0_changeTime) ∈ BIG := bg2 132 rfl rfl
theorem bw2_133 : (Cond.instanceMethod yX0_changeTime) ∈ BIG := bg2 133 rfl rfl
theorem bw2_134 : (Cond.selects RX0 yX0_changeTime yX0_changeTime) ∈ BIG := bg2 134 rfl rfl
theorem bw2_135 : (Cond.code yX0_changeTime cX0_changeTime 5 (some .int)) ∈ BIG := bg2 135 rfl rfl
theorem bw2_136 : (Cond.methodLink RX0 89 yX7_isBooked) ∈ BIG := bg2 136 rfl rfl
theorem bw2_137 : (Cond.instanceMethod yX7_isBooked) ∈ BIG := bg2 137 rfl rfl
theorem bw2_138 : (Cond.selects RX7 yX7_isBooked yX7_isBooked) ∈ BIG := bg2 138 rfl rfl
theorem bw2_139 : (Cond.code yX7_isBooked cX7_isBooked 2 (some .boolean)) ∈ BIG := bg2 139 rfl rfl
theorem bw2_140 : (Cond.methodLink RX7 56 yX6_has) ∈ BIG := bg2 140 rfl rfl
theorem bw2_141 : (Cond.methodLink RL 40 yX8_cancel) ∈ BIG := bg2 141 rfl rfl
theorem bw2_142 : (Cond.instanceMethod yX8_cancel) ∈ BIG := bg2 142 rfl rfl
theorem bw2_143 : (Cond.selects RX8 yX8_cancel yX8_cancel) ∈ BIG := bg2 143 rfl rfl
theorem bw2_144 : (Cond.code yX8_cancel cX8_cancel 2 (some .int)) ∈ BIG := bg2 144 rfl rfl
theorem bw2_145 : (Cond.methodLink RX8 79 yX0_callOff) ∈ BIG := bg2 145 rfl rfl
theorem bw2_146 : (Cond.instanceMethod yX0_callOff) ∈ BIG := bg2 146 rfl rfl
theorem bw2_147 : (Cond.selects RX0 yX0_callOff yX0_callOff) ∈ BIG := bg2 147 rfl rfl
theorem bw2_148 : (Cond.code yX0_callOff cX0_callOff 5 (some .int)) ∈ BIG := bg2 148 rfl rfl
theorem bw2_149 : (Cond.methodLink RX0 92 yX7_forecastStart) ∈ BIG := bg2 149 rfl rfl
theorem bw2_150 : (Cond.instanceMethod yX7_forecastStart) ∈ BIG := bg2 150 rfl rfl
theorem bw2_151 : (Cond.selects RX7 yX7_forecastStart yX7_forecastStart) ∈ BIG := bg2 151 rfl rfl
theorem bw2_152 : (Cond.code yX7_forecastStart cX7_forecastStart 7 (some .int)) ∈ BIG := bg2 152 rfl rfl
theorem bw2_153 : (Cond.methodLink RX7 82 yX7_nextBooked) ∈ BIG := bg2 153 rfl rfl
theorem bw2_154 : (Cond.instanceMethod yX7_nextBooked) ∈ BIG := bg2 154 rfl rfl
theorem bw2_155 : (Cond.selects RX7 yX7_nextBooked yX7_nextBooked) ∈ BIG := bg2 155 rfl rfl
theorem bw2_156 : (Cond.code yX7_nextBooked cX7_nextBooked 8 (some .int)) ∈ BIG := bg2 156 rfl rfl
theorem bw2_157 : (Cond.methodLink RX0 95 yX7_paidByVouchers) ∈ BIG := bg2 157 rfl rfl
theorem bw2_158 : (Cond.instanceMethod yX7_paidByVouchers) ∈ BIG := bg2 158 rfl rfl
theorem bw2_159 : (Cond.selects RX7 yX7_paidByVouchers yX7_paidByVouchers) ∈ BIG := bg2 159 rfl rfl
theorem bw2_160 : (Cond.code yX7_paidByVouchers cX7_paidByVouchers 4 (some .int)) ∈ BIG := bg2 160 rfl rfl
theorem bw2_161 : (Cond.methodLink RX0 98 yX0_refund) ∈ BIG := bg2 161 rfl rfl
theorem bw2_163 : (Cond.instanceMethod yX0_refund) ∈ BIG := bg2 163 rfl rfl
theorem bw2_164 : (Cond.code yX0_refund cX0_refund 6 none) ∈ BIG := bg2 164 rfl rfl
theorem bw2_165 : (Cond.methodLink RX0 102 yX7_paymentAt) ∈ BIG := bg2 165 rfl rfl
theorem bw2_166 : (Cond.instanceMethod yX7_paymentAt) ∈ BIG := bg2 166 rfl rfl
theorem bw2_167 : (Cond.selects RX7 yX7_paymentAt yX7_paymentAt) ∈ BIG := bg2 167 rfl rfl
theorem bw2_168 : (Cond.code yX7_paymentAt cX7_paymentAt 4 (some .int)) ∈ BIG := bg2 168 rfl rfl
theorem bw2_169 : (Cond.methodLink RX0 105 yX0_refundPayment) ∈ BIG := bg2 169 rfl rfl
theorem bw2_171 : (Cond.instanceMethod yX0_refundPayment) ∈ BIG := bg2 171 rfl rfl
theorem bw2_172 : (Cond.code yX0_refundPayment cX0_refundPayment 4 (some .int)) ∈ BIG := bg2 172 rfl rfl
theorem bw2_173 : (Cond.methodLink RL 44 yX8_merge) ∈ BIG := bg2 173 rfl rfl
theorem bw2_174 : (Cond.instanceMethod yX8_merge) ∈ BIG := bg2 174 rfl rfl
theorem bw2_175 : (Cond.selects RX8 yX8_merge yX8_merge) ∈ BIG := bg2 175 rfl rfl
theorem bw2_176 : (Cond.code yX8_merge cX8_merge 3 (some .int)) ∈ BIG := bg2 176 rfl rfl
theorem bw2_177 : (Cond.methodLink RX8 82 yX0_joinTeams) ∈ BIG := bg2 177 rfl rfl
theorem bw2_178 : (Cond.instanceMethod yX0_joinTeams) ∈ BIG := bg2 178 rfl rfl
theorem bw2_179 : (Cond.selects RX0 yX0_joinTeams yX0_joinTeams) ∈ BIG := bg2 179 rfl rfl
theorem bw2_180 : (Cond.code yX0_joinTeams cX0_joinTeams 5 (some .int)) ∈ BIG := bg2 180 rfl rfl
theorem bw2_181 : (Cond.methodLink RX0 108 yX0_handOver) ∈ BIG := bg2 181 rfl rfl
theorem bw2_183 : (Cond.instanceMethod yX0_handOver) ∈ BIG := bg2 183 rfl rfl
theorem bw2_184 : (Cond.code yX0_handOver cX0_handOver 4 none) ∈ BIG := bg2 184 rfl rfl
theorem bw2_185 : (Cond.methodLink RX0 111 yX0_handOverPayments) ∈ BIG := bg2 185 rfl rfl
theorem bw2_187 : (Cond.instanceMethod yX0_handOverPayments) ∈ BIG := bg2 187 rfl rfl
theorem bw2_188 : (Cond.code yX0_handOverPayments cX0_handOverPayments 5 none) ∈ BIG := bg2 188 rfl rfl
theorem bw2_189 : (Cond.methodLink RX0 114 yX7_paymentsLeft) ∈ BIG := bg2 189 rfl rfl
theorem bw2_190 : (Cond.instanceMethod yX7_paymentsLeft) ∈ BIG := bg2 190 rfl rfl
theorem bw2_191 : (Cond.selects RX7 yX7_paymentsLeft yX7_paymentsLeft) ∈ BIG := bg2 191 rfl rfl
theorem bw2_192 : (Cond.code yX7_paymentsLeft cX7_paymentsLeft 4 (some .int)) ∈ BIG := bg2 192 rfl rfl
theorem bw2_193 : (Cond.methodLink RX0 117 yX6_size) ∈ BIG := bg2 193 rfl rfl
theorem bw2_194 : (Cond.methodLink RL 48 yX8_play) ∈ BIG := bg2 194 rfl rfl
theorem bw2_195 : (Cond.instanceMethod yX8_play) ∈ BIG := bg2 195 rfl rfl
theorem bw2_196 : (Cond.selects RX8 yX8_play yX8_play) ∈ BIG := bg2 196 rfl rfl
theorem bw2_197 : (Cond.code yX8_play cX8_play 5 (some .int)) ∈ BIG := bg2 197 rfl rfl
theorem bw2_198 : (Cond.methodLink RX8 85 yX0_letPlay) ∈ BIG := bg2 198 rfl rfl
theorem bw2_199 : (Cond.instanceMethod yX0_letPlay) ∈ BIG := bg2 199 rfl rfl
theorem bw2_200 : (Cond.selects RX0 yX0_letPlay yX0_letPlay) ∈ BIG := bg2 200 rfl rfl
theorem bw2_201 : (Cond.code yX0_letPlay cX0_letPlay 11 (some .int)) ∈ BIG := bg2 201 rfl rfl
theorem bw2_202 : (Cond.methodLink RX0 120 yX7_nextBooked) ∈ BIG := bg2 202 rfl rfl
theorem bw2_203 : (Cond.methodLink RX0 123 yX0_occupy) ∈ BIG := bg2 203 rfl rfl
theorem bw2_205 : (Cond.instanceMethod yX0_occupy) ∈ BIG := bg2 205 rfl rfl
theorem bw2_206 : (Cond.code yX0_occupy cX0_occupy 9 (some .int)) ∈ BIG := bg2 206 rfl rfl
theorem bw2_207 : (Cond.methodLink RX0 130 yJ9_max_7cf53) ∈ BIG := bg2 207 rfl rfl
theorem bw2_208 : (Cond.methodLink RX0 127 yX7_refundForDelay) ∈ BIG := bg2 208 rfl rfl
theorem bw2_209 : (Cond.instanceMethod yX7_refundForDelay) ∈ BIG := bg2 209 rfl rfl
theorem bw2_210 : (Cond.selects RX7 yX7_refundForDelay yX7_refundForDelay) ∈ BIG := bg2 210 rfl rfl
theorem bw2_211 : (Cond.code yX7_refundForDelay cX7_refundForDelay 5 (some .int)) ∈ BIG := bg2 211 rfl rfl
theorem bw2_212 : (Cond.methodLink RX7 85 yX7_setting) ∈ BIG := bg2 212 rfl rfl
theorem bw2_213 : (Cond.methodLink RX7 88 yJ9_min_7cf53) ∈ BIG := bg2 213 rfl rfl
theorem bw2_214 : (Cond.methodLink RL 52 yX8_take) ∈ BIG := bg2 214 rfl rfl
theorem bw2_215 : (Cond.instanceMethod yX8_take) ∈ BIG := bg2 215 rfl rfl
theorem bw2_216 : (Cond.selects RX8 yX8_take yX8_take) ∈ BIG := bg2 216 rfl rfl
theorem bw2_217 : (Cond.code yX8_take cX8_take 2 (some .int)) ∈ BIG := bg2 217 rfl rfl
theorem bw2_218 : (Cond.methodLink RX8 88 yX8_inRange) ∈ BIG := bg2 218 rfl rfl
theorem bw2_219 : (Cond.methodLink RX8 92 yX5_slotOf) ∈ BIG := bg2 219 rfl rfl
end
section
theorem bw2_220 : (Cond.instanceMethod yX5_slotOf) ∈ BIG := bg2 220 rfl rfl
theorem bw2_221 : (Cond.selects RX5 yX5_slotOf yX5_slotOf) ∈ BIG := bg2 221 rfl rfl
theorem bw2_222 : (Cond.code yX5_slotOf cX5_slotOf 2 (Option.some (Jvm.ClassFile.FieldType.object "TeamRooms$Slot"))) ∈ BIG := bg2 222 rfl rfl
theorem bw2_223 : (Cond.methodLink RX8 96 yX4_keep) ∈ BIG := bg2 223 rfl rfl
theorem bw2_224 : (Cond.instanceMethod yX4_keep) ∈ BIG := bg2 224 rfl rfl
theorem bw2_225 : (Cond.selects RX4 yX4_keep yX4_keep) ∈ BIG := bg2 225 rfl rfl
theorem bw2_226 : (Cond.code yX4_keep cX4_keep 2 none) ∈ BIG := bg2 226 rfl rfl
theorem bw2_227 : (Cond.methodLink RL 56 yX8_restore) ∈ BIG := bg2 227 rfl rfl
theorem bw2_228 : (Cond.instanceMethod yX8_restore) ∈ BIG := bg2 228 rfl rfl
theorem bw2_229 : (Cond.selects RX8 yX8_restore yX8_restore) ∈ BIG := bg2 229 rfl rfl
theorem bw2_230 : (Cond.code yX8_restore cX8_restore 3 (some .int)) ∈ BIG := bg2 230 rfl rfl
theorem bw2_231 : (Cond.methodLink RX8 114 yX7_copyFrom) ∈ BIG := bg2 231 rfl rfl
theorem bw2_232 : (Cond.methodLink RL 60 yX8_undo) ∈ BIG := bg2 232 rfl rfl
theorem bw2_233 : (Cond.instanceMethod yX8_undo) ∈ BIG := bg2 233 rfl rfl
theorem bw2_234 : (Cond.selects RX8 yX8_undo yX8_undo) ∈ BIG := bg2 234 rfl rfl
theorem bw2_235 : (Cond.code yX8_undo cX8_undo 1 (some .int)) ∈ BIG := bg2 235 rfl rfl
theorem bw2_236 : (Cond.methodLink RX8 117 yX1_stepBack) ∈ BIG := bg2 236 rfl rfl
theorem bw2_237 : (Cond.instanceMethod yX1_stepBack) ∈ BIG := bg2 237 rfl rfl
theorem bw2_238 : (Cond.selects RX1 yX1_stepBack yX1_stepBack) ∈ BIG := bg2 238 rfl rfl
theorem bw2_239 : (Cond.code yX1_stepBack cX1_stepBack 2 (some .int)) ∈ BIG := bg2 239 rfl rfl
theorem bw3_0 : (Cond.methodLink RX1 33 yX1_giveBack) ∈ BIG := bg3 0 rfl rfl
theorem bw3_1 : (Cond.instanceMethod yX1_giveBack) ∈ BIG := bg3 1 rfl rfl
theorem bw3_2 : (Cond.selects RX1 yX1_giveBack yX1_giveBack) ∈ BIG := bg3 2 rfl rfl
theorem bw3_3 : (Cond.code yX1_giveBack cX1_giveBack 3 none) ∈ BIG := bg3 3 rfl rfl
theorem bw3_4 : (Cond.methodLink RL 65 yX8_append) ∈ BIG := bg3 4 rfl rfl
theorem bw3_5 : (Cond.instanceMethod yX8_append) ∈ BIG := bg3 5 rfl rfl
theorem bw3_6 : (Cond.selects RX8 yX8_append yX8_append) ∈ BIG := bg3 6 rfl rfl
theorem bw3_7 : (Cond.code yX8_append cX8_append 2 (some .int)) ∈ BIG := bg3 7 rfl rfl
theorem bw3_8 : (Cond.methodLink RX8 121 yX3_add) ∈ BIG := bg3 8 rfl rfl
theorem bw3_9 : (Cond.instanceMethod yX3_add) ∈ BIG := bg3 9 rfl rfl
theorem bw3_10 : (Cond.selects RX3 yX3_add yX3_add) ∈ BIG := bg3 10 rfl rfl
theorem bw3_11 : (Cond.code yX3_add cX3_add 2 (some .int)) ∈ BIG := bg3 11 rfl rfl
theorem bw3_13 : (Cond.methodLink RL 69 yX8_clearText) ∈ BIG := bg3 13 rfl rfl
theorem bw3_14 : (Cond.instanceMethod yX8_clearText) ∈ BIG := bg3 14 rfl rfl
theorem bw3_15 : (Cond.selects RX8 yX8_clearText yX8_clearText) ∈ BIG := bg3 15 rfl rfl
theorem bw3_16 : (Cond.code yX8_clearText cX8_clearText 1 (some .int)) ∈ BIG := bg3 16 rfl rfl
theorem bw3_17 : (Cond.methodLink RX8 124 yX3_empty) ∈ BIG := bg3 17 rfl rfl
theorem bw3_18 : (Cond.instanceMethod yX3_empty) ∈ BIG := bg3 18 rfl rfl
theorem bw3_19 : (Cond.selects RX3 yX3_empty yX3_empty) ∈ BIG := bg3 19 rfl rfl
theorem bw3_20 : (Cond.code yX3_empty cX3_empty 2 (some .int)) ∈ BIG := bg3 20 rfl rfl
theorem bw3_21 : (Cond.methodLink RL 73 yX8_run) ∈ BIG := bg3 21 rfl rfl
theorem bw3_22 : (Cond.instanceMethod yX8_run) ∈ BIG := bg3 22 rfl rfl
theorem bw3_23 : (Cond.selects RX8 yX8_run yX8_run) ∈ BIG := bg3 23 rfl rfl
theorem bw3_24 : (Cond.code yX8_run cX8_run 2 (some .int)) ∈ BIG := bg3 24 rfl rfl
theorem bw3_25 : (Cond.methodLink RX8 128 yX3_perform) ∈ BIG := bg3 25 rfl rfl
theorem bw3_26 : (Cond.instanceMethod yX3_perform) ∈ BIG := bg3 26 rfl rfl
theorem bw3_27 : (Cond.selects RX3 yX3_perform yX3_perform) ∈ BIG := bg3 27 rfl rfl
theorem bw3_28 : (Cond.code yX3_perform cX3_perform 5 (some .int)) ∈ BIG := bg3 28 rfl rfl
theorem bw3_29 : (Cond.methodLink RX3 29 yX3_readToken) ∈ BIG := bg3 29 rfl rfl
theorem bw3_31 : (Cond.instanceMethod yX3_readToken) ∈ BIG := bg3 31 rfl rfl
theorem bw3_32 : (Cond.code yX3_readToken cX3_readToken 1 none) ∈ BIG := bg3 32 rfl rfl
theorem bw3_33 : (Cond.methodLink RX3 86 yX3_signAt) ∈ BIG := bg3 33 rfl rfl
theorem bw3_35 : (Cond.instanceMethod yX3_signAt) ∈ BIG := bg3 35 rfl rfl
theorem bw3_36 : (Cond.code yX3_signAt cX3_signAt 2 (some .int)) ∈ BIG := bg3 36 rfl rfl
theorem bw3_37 : (Cond.methodLink RX3 89 yX3_kindOf) ∈ BIG := bg3 37 rfl rfl
theorem bw3_39 : (Cond.instanceMethod yX3_kindOf) ∈ BIG := bg3 39 rfl rfl
theorem bw3_40 : (Cond.code yX3_kindOf cX3_kindOf 2 (some .int)) ∈ BIG := bg3 40 rfl rfl
theorem bw3_41 : (Cond.methodLink RX3 38 yX3_commandWord) ∈ BIG := bg3 41 rfl rfl
theorem bw3_43 : (Cond.instanceMethod yX3_commandWord) ∈ BIG := bg3 43 rfl rfl
theorem bw3_44 : (Cond.code yX3_commandWord cX3_commandWord 1 (some .int)) ∈ BIG := bg3 44 rfl rfl
theorem bw3_46 : (Cond.methodLink RX3 94 yX3_isWord) ∈ BIG := bg3 46 rfl rfl
theorem bw3_48 : (Cond.instanceMethod yX3_isWord) ∈ BIG := bg3 48 rfl rfl
theorem bw3_49 : (Cond.code yX3_isWord cX3_isWord 3 (some .boolean)) ∈ BIG := bg3 49 rfl rfl
theorem bw3_50 : (Cond.methodLink RX3 110 yJ0_length_8abf5) ∈ BIG := bg3 50 rfl rfl
theorem bw3_51 : (Cond.instanceMethod yJ0_length_8abf5) ∈ BIG := bg3 51 rfl rfl
theorem bw3_52 : (Cond.selects RJ0 yJ0_length_8abf5 yJ0_length_8abf5) ∈ BIG := bg3 52 rfl rfl
theorem bw3_53 : (Cond.code yJ0_length_8abf5 cJ0_length_8abf5 1 (some .int)) ∈ BIG := bg3 53 rfl rfl
theorem bw3_54 : (Cond.methodLink RJ0 335 yJ0_coder_7d493) ∈ BIG := bg3 54 rfl rfl
theorem bw3_55 : (Cond.instanceMethod yJ0_coder_7d493) ∈ BIG := bg3 55 rfl rfl
theorem bw3_56 : (Cond.selects RJ0 yJ0_coder_7d493 yJ0_coder_7d493) ∈ BIG := bg3 56 rfl rfl
theorem bw3_57 : (Cond.code yJ0_coder_7d493 cJ0_coder_7d493 1 (some .byte)) ∈ BIG := bg3 57 rfl rfl
theorem bw3_58 : (Cond.fieldLink RJ0 38 "java/lang/String" "COMPACT_STRINGS" "Z") ∈ BIG := bg3 58 rfl rfl
theorem bw3_60 : (Cond.methodLink RX3 114 yJ0_charAt_5068e) ∈ BIG := bg3 60 rfl rfl
theorem bw3_61 : (Cond.instanceMethod yJ0_charAt_5068e) ∈ BIG := bg3 61 rfl rfl
theorem bw3_62 : (Cond.selects RJ0 yJ0_charAt_5068e yJ0_charAt_5068e) ∈ BIG := bg3 62 rfl rfl
theorem bw3_63 : (Cond.code yJ0_charAt_5068e cJ0_charAt_5068e 2 (some .char)) ∈ BIG := bg3 63 rfl rfl
theorem bw3_64 : (Cond.methodLink RJ0 492 yJ0_isLatin1_aae02) ∈ BIG := bg3 64 rfl rfl
theorem bw3_65 : (Cond.instanceMethod yJ0_isLatin1_aae02) ∈ BIG := bg3 65 rfl rfl
theorem bw3_66 : (Cond.selects RJ0 yJ0_isLatin1_aae02 yJ0_isLatin1_aae02) ∈ BIG := bg3 66 rfl rfl
theorem bw3_67 : (Cond.code yJ0_isLatin1_aae02 cJ0_isLatin1_aae02 1 (some .boolean)) ∈ BIG := bg3 67 rfl rfl
theorem bw3_68 : (Cond.methodLink RJ0 495 yJ1_charAt_3b067) ∈ BIG := bg3 68 rfl rfl
theorem bw3_69 : (Cond.static yJ1_charAt_3b067) ∈ BIG := bg3 69 rfl rfl
theorem bw3_70 : (Cond.code yJ1_charAt_3b067 cJ1_charAt_3b067 2 (some .char)) ∈ BIG := bg3 70 rfl rfl
theorem bw3_71 : (Cond.methodLink RJ1 9 yJ0_checkIndex_df160) ∈ BIG := bg3 71 rfl rfl
theorem bw3_72 : (Cond.static yJ0_checkIndex_df160) ∈ BIG := bg3 72 rfl rfl
theorem bw3_73 : (Cond.code yJ0_checkIndex_df160 cJ0_checkIndex_df160 2 none) ∈ BIG := bg3 73 rfl rfl
theorem bw3_74 : (Cond.fieldLink RJ0 1053 "jdk/internal/util/Preconditions" "SIOOBE_FORMATTER" "Ljava/util/function/BiFunction;") ∈ BIG := bg3 74 rfl rfl
theorem bw3_76 : (Cond.methodLink RJ0 1059 yJ3_checkIndex_8e157) ∈ BIG := bg3 76 rfl rfl
theorem bw3_77 : (Cond.static yJ3_checkIndex_8e157) ∈ BIG := bg3 77 rfl rfl
theorem bw3_78 : (Cond.code yJ3_checkIndex_8e157 cJ3_checkIndex_8e157 3 (some .int)) ∈ BIG := bg3 78 rfl rfl
theorem bw3_79 : (Cond.methodLink RJ0 498 yJ2_charAt_3b067) ∈ BIG := bg3 79 rfl rfl
theorem bw3_80 : (Cond.static yJ2_charAt_3b067) ∈ BIG := bg3 80 rfl rfl
theorem bw3_81 : (Cond.code yJ2_charAt_3b067 cJ2_charAt_3b067 2 (some .char)) ∈ BIG := bg3 81 rfl rfl
theorem bw3_82 : (Cond.methodLink RJ2 67 yJ2_checkIndex_2214a) ∈ BIG := bg3 82 rfl rfl
theorem bw3_83 : (Cond.static yJ2_checkIndex_2214a) ∈ BIG := bg3 83 rfl rfl
theorem bw3_84 : (Cond.code yJ2_checkIndex_2214a cJ2_checkIndex_2214a 2 none) ∈ BIG := bg3 84 rfl rfl
theorem bw3_85 : (Cond.methodLink RJ2 48 yJ2_length_9d52b) ∈ BIG := bg3 85 rfl rfl
theorem bw3_86 : (Cond.static yJ2_length_9d52b) ∈ BIG := bg3 86 rfl rfl
theorem bw3_87 : (Cond.code yJ2_length_9d52b cJ2_length_9d52b 1 (some .int)) ∈ BIG := bg3 87 rfl rfl
theorem bw3_88 : (Cond.methodLink RJ2 414 yJ0_checkIndex_df160) ∈ BIG := bg3 88 rfl rfl
theorem bw3_89 : (Cond.methodLink RJ2 71 yJ2_getChar_3b067) ∈ BIG := bg3 89 rfl rfl
theorem bw3_90 : (Cond.static yJ2_getChar_3b067) ∈ BIG := bg3 90 rfl rfl
theorem bw3_91 : (Cond.code yJ2_getChar_3b067 cJ2_getChar_3b067 2 (some .char)) ∈ BIG := bg3 91 rfl rfl
theorem bw3_92 : (Cond.fieldLink RJ2 44 "java/lang/StringUTF16" "$assertionsDisabled" "Z") ∈ BIG := bg3 92 rfl rfl
theorem bw3_94 : (Cond.fieldLink RJ2 59 "java/lang/StringUTF16" "HI_BYTE_SHIFT" "I") ∈ BIG := bg3 94 rfl rfl
theorem bw3_96 : (Cond.fieldLink RJ2 63 "java/lang/StringUTF16" "LO_BYTE_SHIFT" "I") ∈ BIG := bg3 96 rfl rfl
theorem bw3_104 : (Cond.methodLink RX3 42 yX3_readNumbers) ∈ BIG := bg3 104 rfl rfl
theorem bw3_106 : (Cond.instanceMethod yX3_readNumbers) ∈ BIG := bg3 106 rfl rfl
theorem bw3_107 : (Cond.code yX3_readNumbers cX3_readNumbers 4 (some .boolean)) ∈ BIG := bg3 107 rfl rfl
theorem bw3_110 : (Cond.methodLink RX3 80 yX3_isNumber) ∈ BIG := bg3 110 rfl rfl
theorem bw3_112 : (Cond.instanceMethod yX3_isNumber) ∈ BIG := bg3 112 rfl rfl
theorem bw3_113 : (Cond.code yX3_isNumber cX3_isNumber 2 (some .boolean)) ∈ BIG := bg3 113 rfl rfl
theorem bw3_114 : (Cond.methodLink RX3 83 yX3_numberValue) ∈ BIG := bg3 114 rfl rfl
theorem bw3_116 : (Cond.instanceMethod yX3_numberValue) ∈ BIG := bg3 116 rfl rfl
theorem bw3_117 : (Cond.code yX3_numberValue cX3_numberValue 3 (some .int)) ∈ BIG := bg3 117 rfl rfl
theorem bw3_118 : (Cond.methodLink RX3 46 yX3_isSemicolon) ∈ BIG := bg3 118 rfl rfl
theorem bw3_120 : (Cond.instanceMethod yX3_isSemicolon) ∈ BIG := bg3 120 rfl rfl
theorem bw3_121 : (Cond.code yX3_isSemicolon cX3_isSemicolon 1 (some .boolean)) ∈ BIG := bg3 121 rfl rfl
theorem bw3_122 : (Cond.methodLink RX3 50 yX3_obey) ∈ BIG := bg3 122 rfl rfl
theorem bw3_124 : (Cond.instanceMethod yX3_obey) ∈ BIG := bg3 124 rfl rfl
theorem bw3_125 : (Cond.code yX3_obey cX3_obey 7 (some .int)) ∈ BIG := bg3 125 rfl rfl
theorem bw3_126 : (Cond.methodLink RX3 54 yX0_newRoom) ∈ BIG := bg3 126 rfl rfl
theorem bw3_127 : (Cond.methodLink RX3 60 yX0_newVoucher) ∈ BIG := bg3 127 rfl rfl
theorem bw3_128 : (Cond.methodLink RX3 64 yX0_newBooking) ∈ BIG := bg3 128 rfl rfl
theorem bw3_129 : (Cond.methodLink RX3 67 yX0_letPlay) ∈ BIG := bg3 129 rfl rfl
theorem bw3_130 : (Cond.methodLink RX3 70 yX0_callOff) ∈ BIG := bg3 130 rfl rfl
theorem bw3_131 : (Cond.methodLink RX3 73 yX0_joinTeams) ∈ BIG := bg3 131 rfl rfl
theorem bw3_132 : (Cond.methodLink RX8 132 yX1_giveBack) ∈ BIG := bg3 132 rfl rfl
theorem bw3_133 : (Cond.arrayClass Jvm.ClassFile.FieldType.byte) ∈ BIG := bg3 133 rfl rfl
theorem bw3_134 : (Cond.methodLink RL 77 yX8_count) ∈ BIG := bg3 134 rfl rfl
theorem bw3_135 : (Cond.instanceMethod yX8_count) ∈ BIG := bg3 135 rfl rfl
theorem bw3_136 : (Cond.selects RX8 yX8_count yX8_count) ∈ BIG := bg3 136 rfl rfl
theorem bw3_137 : (Cond.code yX8_count cX8_count 2 (some .int)) ∈ BIG := bg3 137 rfl rfl
theorem bw3_138 : (Cond.methodLink RX8 135 yX7_setting) ∈ BIG := bg3 138 rfl rfl
theorem bw3_139 : (Cond.methodLink RX8 138 yX7_bookingsInState) ∈ BIG := bg3 139 rfl rfl
theorem bw3_140 : (Cond.instanceMethod yX7_bookingsInState) ∈ BIG := bg3 140 rfl rfl
theorem bw3_141 : (Cond.selects RX7 yX7_bookingsInState yX7_bookingsInState) ∈ BIG := bg3 141 rfl rfl
theorem bw3_142 : (Cond.code yX7_bookingsInState cX7_bookingsInState 4 (some .int)) ∈ BIG := bg3 142 rfl rfl
theorem bw3_143 : (Cond.methodLink RX8 145 yX6_size) ∈ BIG := bg3 143 rfl rfl
theorem bw3_144 : (Cond.methodLink RX8 156 yX5_snapshots) ∈ BIG := bg3 144 rfl rfl
theorem bw3_145 : (Cond.instanceMethod yX5_snapshots) ∈ BIG := bg3 145 rfl rfl
theorem bw3_146 : (Cond.selects RX5 yX5_snapshots yX5_snapshots) ∈ BIG := bg3 146 rfl rfl
theorem bw3_147 : (Cond.code yX5_snapshots cX5_snapshots 1 (some .int)) ∈ BIG := bg3 147 rfl rfl
theorem bw3_148 : (Cond.methodLink RX8 159 yX1_size) ∈ BIG := bg3 148 rfl rfl
theorem bw3_149 : (Cond.instanceMethod yX1_size) ∈ BIG := bg3 149 rfl rfl
theorem bw3_150 : (Cond.selects RX1 yX1_size yX1_size) ∈ BIG := bg3 150 rfl rfl
theorem bw3_151 : (Cond.code yX1_size cX1_size 1 (some .int)) ∈ BIG := bg3 151 rfl rfl
theorem bw3_152 : (Cond.methodLink RX8 160 yX3_size) ∈ BIG := bg3 152 rfl rfl
theorem bw3_153 : (Cond.instanceMethod yX3_size) ∈ BIG := bg3 153 rfl rfl
theorem bw3_154 : (Cond.selects RX3 yX3_size yX3_size) ∈ BIG := bg3 154 rfl rfl
theorem bw3_155 : (Cond.code yX3_size cX3_size 1 (some .int)) ∈ BIG := bg3 155 rfl rfl
theorem bw3_156 : (Cond.methodLink RL 81 yX8_room) ∈ BIG := bg3 156 rfl rfl
theorem bw3_157 : (Cond.instanceMethod yX8_room) ∈ BIG := bg3 157 rfl rfl
theorem bw3_158 : (Cond.selects RX8 yX8_room yX8_room) ∈ BIG := bg3 158 rfl rfl
theorem bw3_159 : (Cond.code yX8_room cX8_room 3 (some .int)) ∈ BIG := bg3 159 rfl rfl
theorem bw3_160 : (Cond.methodLink RX8 161 yX6_has) ∈ BIG := bg3 160 rfl rfl
theorem bw3_161 : (Cond.methodLink RX8 165 yX7_nextBooked) ∈ BIG := bg3 161 rfl rfl
theorem bw3_162 : (Cond.methodLink RX8 168 yX6_cell) ∈ BIG := bg3 162 rfl rfl
theorem bw3_163 : (Cond.methodLink RL 85 yX8_booking) ∈ BIG := bg3 163 rfl rfl
theorem bw3_164 : (Cond.instanceMethod yX8_booking) ∈ BIG := bg3 164 rfl rfl
theorem bw3_165 : (Cond.selects RX8 yX8_booking yX8_booking) ∈ BIG := bg3 165 rfl rfl
theorem bw3_166 : (Cond.code yX8_booking cX8_booking 3 (some .int)) ∈ BIG := bg3 166 rfl rfl
theorem bw3_167 : (Cond.methodLink RX8 171 yX7_paidByVouchers) ∈ BIG := bg3 167 rfl rfl
theorem bw3_168 : (Cond.methodLink RX8 174 yX7_paymentsLeft) ∈ BIG := bg3 168 rfl rfl
theorem bw3_169 : (Cond.methodLink RL 89 yX8_voucher) ∈ BIG := bg3 169 rfl rfl
theorem bw3_170 : (Cond.instanceMethod yX8_voucher) ∈ BIG := bg3 170 rfl rfl
theorem bw3_171 : (Cond.selects RX8 yX8_voucher yX8_voucher) ∈ BIG := bg3 171 rfl rfl
theorem bw3_172 : (Cond.code yX8_voucher cX8_voucher 3 (some .int)) ∈ BIG := bg3 172 rfl rfl
theorem bw3_173 : (Cond.methodLink RX8 177 yX7_bookingsPaidWith) ∈ BIG := bg3 173 rfl rfl
theorem bw3_174 : (Cond.instanceMethod yX7_bookingsPaidWith) ∈ BIG := bg3 174 rfl rfl
theorem bw3_175 : (Cond.selects RX7 yX7_bookingsPaidWith yX7_bookingsPaidWith) ∈ BIG := bg3 175 rfl rfl
theorem bw3_176 : (Cond.code yX7_bookingsPaidWith cX7_bookingsPaidWith 4 (some .int)) ∈ BIG := bg3 176 rfl rfl
theorem bw3_177 : (Cond.methodLink RX7 91 yX7_isPaidWith) ∈ BIG := bg3 177 rfl rfl
theorem bw3_179 : (Cond.instanceMethod yX7_isPaidWith) ∈ BIG := bg3 179 rfl rfl
theorem bw3_180 : (Cond.code yX7_isPaidWith cX7_isPaidWith 4 (some .boolean)) ∈ BIG := bg3 180 rfl rfl
theorem bw3_181 : (Cond.methodLink RL 93 yX8_money) ∈ BIG := bg3 181 rfl rfl
theorem bw3_182 : (Cond.instanceMethod yX8_money) ∈ BIG := bg3 182 rfl rfl
theorem bw3_183 : (Cond.selects RX8 yX8_money yX8_money) ∈ BIG := bg3 183 rfl rfl
theorem bw3_184 : (Cond.code yX8_money cX8_money 2 (some .int)) ∈ BIG := bg3 184 rfl rfl
theorem bw3_185 : (Cond.methodLink RX8 180 yX6_total) ∈ BIG := bg3 185 rfl rfl
theorem bw3_186 : (Cond.instanceMethod yX6_total) ∈ BIG := bg3 186 rfl rfl
theorem bw3_187 : (Cond.selects RX6 yX6_total yX6_total) ∈ BIG := bg3 187 rfl rfl
theorem bw3_188 : (Cond.code yX6_total cX6_total 4 (some .int)) ∈ BIG := bg3 188 rfl rfl
theorem bw3_189 : (Cond.methodLink RL 97 yX8_forecast) ∈ BIG := bg3 189 rfl rfl
theorem bw3_190 : (Cond.instanceMethod yX8_forecast) ∈ BIG := bg3 190 rfl rfl
theorem bw3_191 : (Cond.selects RX8 yX8_forecast yX8_forecast) ∈ BIG := bg3 191 rfl rfl
theorem bw3_192 : (Cond.code yX8_forecast cX8_forecast 3 (some .int)) ∈ BIG := bg3 192 rfl rfl
theorem bw3_193 : (Cond.methodLink RX8 186 yX2_partOfForecast) ∈ BIG := bg3 193 rfl rfl
theorem bw3_194 : (Cond.instanceMethod yX2_partOfForecast) ∈ BIG := bg3 194 rfl rfl
theorem bw3_195 : (Cond.selects RX2 yX2_partOfForecast yX2_partOfForecast) ∈ BIG := bg3 195 rfl rfl
theorem bw3_196 : (Cond.code yX2_partOfForecast cX2_partOfForecast 5 (some .int)) ∈ BIG := bg3 196 rfl rfl
theorem bw3_197 : (Cond.methodLink RX2 26 yX6_has) ∈ BIG := bg3 197 rfl rfl
theorem bw3_199 : (Cond.methodLink RX2 36 yX7_isBooked) ∈ BIG := bg3 199 rfl rfl
theorem bw3_200 : (Cond.methodLink RX2 39 yX7_forecastStart) ∈ BIG := bg3 200 rfl rfl
theorem bw3_201 : (Cond.methodLink RX2 43 yX6_cell) ∈ BIG := bg3 201 rfl rfl
theorem bw3_202 : (Cond.methodLink RX2 47 yX7_refundForDelay) ∈ BIG := bg3 202 rfl rfl
theorem bw3_203 : (Cond.methodLink RL 101 yX8_freeTime) ∈ BIG := bg3 203 rfl rfl
theorem bw3_204 : (Cond.instanceMethod yX8_freeTime) ∈ BIG := bg3 204 rfl rfl
theorem bw3_205 : (Cond.selects RX8 yX8_freeTime yX8_freeTime) ∈ BIG := bg3 205 rfl rfl
theorem bw3_206 : (Cond.code yX8_freeTime cX8_freeTime 3 (some .int)) ∈ BIG := bg3 206 rfl rfl
theorem bw3_207 : (Cond.methodLink RX8 189 yX2_earliestTime) ∈ BIG := bg3 207 rfl rfl
theorem bw3_208 : (Cond.instanceMethod yX2_earliestTime) ∈ BIG := bg3 208 rfl rfl
theorem bw3_209 : (Cond.selects RX2 yX2_earliestTime yX2_earliestTime) ∈ BIG := bg3 209 rfl rfl
theorem bw3_210 : (Cond.code yX2_earliestTime cX2_earliestTime 6 (some .int)) ∈ BIG := bg3 210 rfl rfl
theorem bw3_211 : (Cond.methodLink RX2 50 yX7_timeBehindPlays) ∈ BIG := bg3 211 rfl rfl
theorem bw3_212 : (Cond.methodLink RX2 53 yJ9_max_7cf53) ∈ BIG := bg3 212 rfl rfl
theorem bw3_213 : (Cond.methodLink RX2 58 yX7_collision) ∈ BIG := bg3 213 rfl rfl
theorem bw3_214 : (Cond.methodLink RX2 62 yX7_period) ∈ BIG := bg3 214 rfl rfl
theorem bw3_215 : (Cond.methodLink RL 105 yX8_mergeable) ∈ BIG := bg3 215 rfl rfl
theorem bw3_216 : (Cond.instanceMethod yX8_mergeable) ∈ BIG := bg3 216 rfl rfl
theorem bw3_217 : (Cond.selects RX8 yX8_mergeable yX8_mergeable) ∈ BIG := bg3 217 rfl rfl
theorem bw3_218 : (Cond.code yX8_mergeable cX8_mergeable 3 (some .int)) ∈ BIG := bg3 218 rfl rfl
theorem bw3_219 : (Cond.methodLink RX8 192 yX2_largestPair) ∈ BIG := bg3 219 rfl rfl
theorem bw3_220 : (Cond.instanceMethod yX2_largestPair) ∈ BIG := bg3 220 rfl rfl
theorem bw3_221 : (Cond.selects RX2 yX2_largestPair yX2_largestPair) ∈ BIG := bg3 221 rfl rfl
theorem bw3_222 : (Cond.code yX2_largestPair cX2_largestPair 9 (some .int)) ∈ BIG := bg3 222 rfl rfl
theorem bw3_223 : (Cond.methodLink RX2 65 yX6_size) ∈ BIG := bg3 223 rfl rfl
theorem bw3_224 : (Cond.methodLink RX2 69 yX2_playersTogether) ∈ BIG := bg3 224 rfl rfl
theorem bw3_226 : (Cond.instanceMethod yX2_playersTogether) ∈ BIG := bg3 226 rfl rfl
theorem bw3_227 : (Cond.code yX2_playersTogether cX2_playersTogether 5 (some .int)) ∈ BIG := bg3 227 rfl rfl
theorem bw3_228 : (Cond.methodLink RL 109 yX8_slack) ∈ BIG := bg3 228 rfl rfl
theorem bw3_229 : (Cond.instanceMethod yX8_slack) ∈ BIG := bg3 229 rfl rfl
theorem bw3_230 : (Cond.selects RX8 yX8_slack yX8_slack) ∈ BIG := bg3 230 rfl rfl
theorem bw3_231 : (Cond.code yX8_slack cX8_slack 2 (some .int)) ∈ BIG := bg3 231 rfl rfl
theorem bw3_232 : (Cond.methodLink RX8 195 yX2_delayLeft) ∈ BIG := bg3 232 rfl rfl
theorem bw3_233 : (Cond.instanceMethod yX2_delayLeft) ∈ BIG := bg3 233 rfl rfl
theorem bw3_234 : (Cond.selects RX2 yX2_delayLeft yX2_delayLeft) ∈ BIG := bg3 234 rfl rfl
theorem bw3_235 : (Cond.code yX2_delayLeft cX2_delayLeft 5 (some .int)) ∈ BIG := bg3 235 rfl rfl
theorem bw3_236 : (Cond.methodLink RX2 72 yX7_nextBooked) ∈ BIG := bg3 236 rfl rfl
theorem bw3_237 : (Cond.methodLink RX2 75 yX7_setting) ∈ BIG := bg3 237 rfl rfl
theorem bw3_238 : (Cond.methodLink RX2 78 yJ9_min_7cf53) ∈ BIG := bg3 238 rfl rfl
theorem bw3_239 : (Cond.methodLink RL 113 yX8_hintsFor) ∈ BIG := bg3 239 rfl rfl
theorem bw4_0 : (Cond.instanceMethod yX8_hintsFor) ∈ BIG := bg4 0 rfl rfl
theorem bw4_1 : (Cond.selects RX8 yX8_hintsFor yX8_hintsFor) ∈ BIG := bg4 1 rfl rfl
theorem bw4_2 : (Cond.code yX8_hintsFor cX8_hintsFor 3 (some .int)) ∈ BIG := bg4 2 rfl rfl
theorem bw4_3 : (Cond.methodLink RX8 198 yX2_hintsLeft) ∈ BIG := bg4 3 rfl rfl
theorem bw4_4 : (Cond.instanceMethod yX2_hintsLeft) ∈ BIG := bg4 4 rfl rfl
theorem bw4_5 : (Cond.selects RX2 yX2_hintsLeft yX2_hintsLeft) ∈ BIG := bg4 5 rfl rfl
theorem bw4_6 : (Cond.code yX2_hintsLeft cX2_hintsLeft 5 (some .int)) ∈ BIG := bg4 6 rfl rfl
theorem bw4_7 : (Cond.methodLink RL 117 yX8_busiest) ∈ BIG := bg4 7 rfl rfl
theorem bw4_8 : (Cond.instanceMethod yX8_busiest) ∈ BIG := bg4 8 rfl rfl
theorem bw4_9 : (Cond.selects RX8 yX8_busiest yX8_busiest) ∈ BIG := bg4 9 rfl rfl
theorem bw4_10 : (Cond.code yX8_busiest cX8_busiest 2 (some .int)) ∈ BIG := bg4 10 rfl rfl
theorem bw4_11 : (Cond.methodLink RX8 201 yX2_roomByUse) ∈ BIG := bg4 11 rfl rfl
theorem bw4_12 : (Cond.instanceMethod yX2_roomByUse) ∈ BIG := bg4 12 rfl rfl
theorem bw4_13 : (Cond.selects RX2 yX2_roomByUse yX2_roomByUse) ∈ BIG := bg4 13 rfl rfl
theorem bw4_14 : (Cond.code yX2_roomByUse cX2_roomByUse 3 (some .int)) ∈ BIG := bg4 14 rfl rfl
theorem bw4_15 : (Cond.methodLink RX2 81 yX2_roomsAheadOf) ∈ BIG := bg4 15 rfl rfl
theorem bw4_17 : (Cond.instanceMethod yX2_roomsAheadOf) ∈ BIG := bg4 17 rfl rfl
theorem bw4_18 : (Cond.code yX2_roomsAheadOf cX2_roomsAheadOf 6 (some .int)) ∈ BIG := bg4 18 rfl rfl
theorem bw4_19 : (Cond.classLink RL 10 RX9) ∈ BIG := bg4 19 rfl rfl
theorem bw4_20 : (Cond.instantiable RX9 10) ∈ BIG := bg4 20 rfl rfl
theorem bw4_21 : (Cond.methodLink RL 12 yX9_init) ∈ BIG := bg4 21 rfl rfl
theorem bw4_22 : (Cond.instanceMethod yX9_init) ∈ BIG := bg4 22 rfl rfl
theorem bw4_23 : (Cond.code yX9_init cX9_init 1 none) ∈ BIG := bg4 23 rfl rfl
theorem bw4_24 : (Cond.methodLink RX9 1 objectInit) ∈ BIG := bg4 24 rfl rfl
theorem bw4_25 : (Cond.fieldLink RX9 7 "TeamRoomsModel" "s" "[I") ∈ BIG := bg4 25 rfl rfl
theorem bw4_26 : (Cond.fieldLink RX9 13 "TeamRoomsModel" "past" "[I") ∈ BIG := bg4 26 rfl rfl
theorem bw4_27 : (Cond.fieldLink RX9 16 "TeamRoomsModel" "aside" "[I") ∈ BIG := bg4 27 rfl rfl
theorem bw4_28 : (Cond.fieldLink RX9 25 "TeamRoomsModel" "pasts" "I") ∈ BIG := bg4 28 rfl rfl
theorem bw4_29 : (Cond.fieldLink RX9 19 "TeamRoomsModel" "text" "[I") ∈ BIG := bg4 29 rfl rfl
theorem bw4_30 : (Cond.fieldLink RX9 114 "TeamRoomsModel" "typed" "I") ∈ BIG := bg4 30 rfl rfl
theorem bw4_31 : (Cond.fieldLink RX9 117 "TeamRoomsModel" "spot" "I") ∈ BIG := bg4 31 rfl rfl
theorem bw4_32 : (Cond.fieldLink RX9 124 "TeamRoomsModel" "start" "I") ∈ BIG := bg4 32 rfl rfl
theorem bw4_33 : (Cond.fieldLink RX9 144 "TeamRoomsModel" "word" "J") ∈ BIG := bg4 33 rfl rfl
theorem bw4_34 : (Cond.fieldLink RX9 22 "TeamRoomsModel" "numbers" "[I") ∈ BIG := bg4 34 rfl rfl
theorem bw4_35 : (Cond.laysFinal RX9 "TeamRoomsModel" "s" "[I") ∈ BIG := bg4 35 rfl rfl
theorem bw4_37 : (Cond.laysFinal RX9 "TeamRoomsModel" "past" "[I") ∈ BIG := bg4 37 rfl rfl
theorem bw4_39 : (Cond.laysFinal RX9 "TeamRoomsModel" "aside" "[I") ∈ BIG := bg4 39 rfl rfl
theorem bw4_41 : (Cond.lays RX9 "TeamRoomsModel" "pasts" "I") ∈ BIG := bg4 41 rfl rfl
theorem bw4_43 : (Cond.laysFinal RX9 "TeamRoomsModel" "text" "[I") ∈ BIG := bg4 43 rfl rfl
theorem bw4_45 : (Cond.lays RX9 "TeamRoomsModel" "typed" "I") ∈ BIG := bg4 45 rfl rfl
theorem bw4_47 : (Cond.lays RX9 "TeamRoomsModel" "spot" "I") ∈ BIG := bg4 47 rfl rfl
theorem bw4_49 : (Cond.lays RX9 "TeamRoomsModel" "start" "I") ∈ BIG := bg4 49 rfl rfl
theorem bw4_51 : (Cond.lays RX9 "TeamRoomsModel" "word" "J") ∈ BIG := bg4 51 rfl rfl
theorem bw4_53 : (Cond.laysFinal RX9 "TeamRoomsModel" "numbers" "[I") ∈ BIG := bg4 53 rfl rfl
theorem bw4_56 : (Cond.methodLink RL 17 yX9_addRoom) ∈ BIG := bg4 56 rfl rfl
theorem bw4_57 : (Cond.instanceMethod yX9_addRoom) ∈ BIG := bg4 57 rfl rfl
theorem bw4_58 : (Cond.selects RX9 yX9_addRoom yX9_addRoom) ∈ BIG := bg4 58 rfl rfl
theorem bw4_59 : (Cond.code yX9_addRoom cX9_addRoom 5 (some .int)) ∈ BIG := bg4 59 rfl rfl
theorem bw4_60 : (Cond.methodLink RX9 33 yX9_hold) ∈ BIG := bg4 60 rfl rfl
theorem bw4_62 : (Cond.instanceMethod yX9_hold) ∈ BIG := bg4 62 rfl rfl
theorem bw4_63 : (Cond.code yX9_hold cX9_hold 2 none) ∈ BIG := bg4 63 rfl rfl
theorem bw4_64 : (Cond.methodLink RX9 36 yX9_doRoom) ∈ BIG := bg4 64 rfl rfl
theorem bw4_66 : (Cond.instanceMethod yX9_doRoom) ∈ BIG := bg4 66 rfl rfl
theorem bw4_67 : (Cond.code yX9_doRoom cX9_doRoom 7 (some .int)) ∈ BIG := bg4 67 rfl rfl
theorem bw4_68 : (Cond.methodLink RX9 29 yX9_in) ∈ BIG := bg4 68 rfl rfl
theorem bw4_69 : (Cond.static yX9_in) ∈ BIG := bg4 69 rfl rfl
theorem bw4_70 : (Cond.code yX9_in cX9_in 3 (some .boolean)) ∈ BIG := bg4 70 rfl rfl
theorem bw4_71 : (Cond.methodLink RX9 40 yX9_ends) ∈ BIG := bg4 71 rfl rfl
theorem bw4_73 : (Cond.instanceMethod yX9_ends) ∈ BIG := bg4 73 rfl rfl
theorem bw4_74 : (Cond.code yX9_ends cX9_ends 3 (some .int)) ∈ BIG := bg4 74 rfl rfl
theorem bw4_75 : (Cond.methodLink RL 22 yX9_setPrice) ∈ BIG := bg4 75 rfl rfl
theorem bw4_76 : (Cond.instanceMethod yX9_setPrice) ∈ BIG := bg4 76 rfl rfl
theorem bw4_77 : (Cond.selects RX9 yX9_setPrice yX9_setPrice) ∈ BIG := bg4 77 rfl rfl
theorem bw4_78 : (Cond.code yX9_setPrice cX9_setPrice 4 (some .int)) ∈ BIG := bg4 78 rfl rfl
theorem bw4_79 : (Cond.methodLink RX9 44 yX9_isRoom) ∈ BIG := bg4 79 rfl rfl
theorem bw4_81 : (Cond.instanceMethod yX9_isRoom) ∈ BIG := bg4 81 rfl rfl
theorem bw4_82 : (Cond.code yX9_isRoom cX9_isRoom 2 (some .boolean)) ∈ BIG := bg4 82 rfl rfl
theorem bw4_83 : (Cond.methodLink RX9 48 yX9_of) ∈ BIG := bg4 83 rfl rfl
theorem bw4_85 : (Cond.instanceMethod yX9_of) ∈ BIG := bg4 85 rfl rfl
theorem bw4_86 : (Cond.code yX9_of cX9_of 3 (some .int)) ∈ BIG := bg4 86 rfl rfl
theorem bw4_87 : (Cond.methodLink RL 26 yX9_set) ∈ BIG := bg4 87 rfl rfl
theorem bw4_88 : (Cond.instanceMethod yX9_set) ∈ BIG := bg4 88 rfl rfl
theorem bw4_89 : (Cond.selects RX9 yX9_set yX9_set) ∈ BIG := bg4 89 rfl rfl
theorem bw4_90 : (Cond.code yX9_set cX9_set 4 (some .int)) ∈ BIG := bg4 90 rfl rfl
theorem bw4_91 : (Cond.methodLink RX9 52 yX9_highest) ∈ BIG := bg4 91 rfl rfl
theorem bw4_92 : (Cond.static yX9_highest) ∈ BIG := bg4 92 rfl rfl
theorem bw4_93 : (Cond.code yX9_highest cX9_highest 1 (some .int)) ∈ BIG := bg4 93 rfl rfl
theorem bw4_94 : (Cond.methodLink RL 31 yX9_sellVoucher) ∈ BIG := bg4 94 rfl rfl
theorem bw4_95 : (Cond.instanceMethod yX9_sellVoucher) ∈ BIG := bg4 95 rfl rfl
theorem bw4_96 : (Cond.selects RX9 yX9_sellVoucher yX9_sellVoucher) ∈ BIG := bg4 96 rfl rfl
theorem bw4_97 : (Cond.code yX9_sellVoucher cX9_sellVoucher 2 (some .int)) ∈ BIG := bg4 97 rfl rfl
theorem bw4_98 : (Cond.methodLink RX9 55 yX9_doGift) ∈ BIG := bg4 98 rfl rfl
theorem bw4_100 : (Cond.instanceMethod yX9_doGift) ∈ BIG := bg4 100 rfl rfl
theorem bw4_101 : (Cond.code yX9_doGift cX9_doGift 2 (some .int)) ∈ BIG := bg4 101 rfl rfl
theorem bw4_102 : (Cond.methodLink RL 35 yX9_book) ∈ BIG := bg4 102 rfl rfl
theorem bw4_103 : (Cond.instanceMethod yX9_book) ∈ BIG := bg4 103 rfl rfl
theorem bw4_104 : (Cond.selects RX9 yX9_book yX9_book) ∈ BIG := bg4 104 rfl rfl
theorem bw4_105 : (Cond.code yX9_book cX9_book 5 (some .int)) ∈ BIG := bg4 105 rfl rfl
theorem bw4_106 : (Cond.methodLink RX9 74 yX9_doBook) ∈ BIG := bg4 106 rfl rfl
theorem bw4_108 : (Cond.instanceMethod yX9_doBook) ∈ BIG := bg4 108 rfl rfl
theorem bw4_109 : (Cond.code yX9_doBook cX9_doBook 8 (some .int)) ∈ BIG := bg4 109 rfl rfl
theorem bw4_110 : (Cond.methodLink RX9 61 yX9_isVoucher) ∈ BIG := bg4 110 rfl rfl
theorem bw4_112 : (Cond.instanceMethod yX9_isVoucher) ∈ BIG := bg4 112 rfl rfl
theorem bw4_113 : (Cond.code yX9_isVoucher cX9_isVoucher 2 (some .boolean)) ∈ BIG := bg4 113 rfl rfl
theorem bw4_114 : (Cond.methodLink RX9 64 yX9_isPossible) ∈ BIG := bg4 114 rfl rfl
theorem bw4_116 : (Cond.instanceMethod yX9_isPossible) ∈ BIG := bg4 116 rfl rfl
theorem bw4_117 : (Cond.code yX9_isPossible cX9_isPossible 7 (some .boolean)) ∈ BIG := bg4 117 rfl rfl
theorem bw4_118 : (Cond.methodLink RX9 58 yX9_its) ∈ BIG := bg4 118 rfl rfl
theorem bw4_120 : (Cond.instanceMethod yX9_its) ∈ BIG := bg4 120 rfl rfl
theorem bw4_121 : (Cond.code yX9_its cX9_its 3 (some .int)) ∈ BIG := bg4 121 rfl rfl
theorem bw4_122 : (Cond.methodLink RX9 67 yX9_lesser) ∈ BIG := bg4 122 rfl rfl
theorem bw4_123 : (Cond.static yX9_lesser) ∈ BIG := bg4 123 rfl rfl
theorem bw4_124 : (Cond.code yX9_lesser cX9_lesser 2 (some .int)) ∈ BIG := bg4 124 rfl rfl
theorem bw4_125 : (Cond.methodLink RX9 70 yX9_lays) ∈ BIG := bg4 125 rfl rfl
theorem bw4_127 : (Cond.instanceMethod yX9_lays) ∈ BIG := bg4 127 rfl rfl
theorem bw4_128 : (Cond.code yX9_lays cX9_lays 4 none) ∈ BIG := bg4 128 rfl rfl
theorem bw4_129 : (Cond.methodLink RL 39 yX9_move) ∈ BIG := bg4 129 rfl rfl
theorem bw4_130 : (Cond.instanceMethod yX9_move) ∈ BIG := bg4 130 rfl rfl
theorem bw4_131 : (Cond.selects RX9 yX9_move yX9_move) ∈ BIG := bg4 131 rfl rfl
theorem bw4_132 : (Cond.code yX9_move cX9_move 4 (some .int)) ∈ BIG := bg4 132 rfl rfl
theorem bw4_133 : (Cond.methodLink RX9 77 yX9_isBooking) ∈ BIG := bg4 133 rfl rfl
theorem bw4_135 : (Cond.instanceMethod yX9_isBooking) ∈ BIG := bg4 135 rfl rfl
theorem bw4_136 : (Cond.code yX9_isBooking cX9_isBooking 2 (some .boolean)) ∈ BIG := bg4 136 rfl rfl
theorem bw4_137 : (Cond.methodLink RL 43 yX9_cancel) ∈ BIG := bg4 137 rfl rfl
theorem bw4_138 : (Cond.instanceMethod yX9_cancel) ∈ BIG := bg4 138 rfl rfl
theorem bw4_139 : (Cond.selects RX9 yX9_cancel yX9_cancel) ∈ BIG := bg4 139 rfl rfl
theorem bw4_140 : (Cond.code yX9_cancel cX9_cancel 2 (some .int)) ∈ BIG := bg4 140 rfl rfl
theorem bw4_141 : (Cond.methodLink RX9 99 yX9_doDrop) ∈ BIG := bg4 141 rfl rfl
theorem bw4_143 : (Cond.instanceMethod yX9_doDrop) ∈ BIG := bg4 143 rfl rfl
theorem bw4_144 : (Cond.code yX9_doDrop cX9_doDrop 4 (some .int)) ∈ BIG := bg4 144 rfl rfl
theorem bw4_145 : (Cond.methodLink RX9 89 yX9_byVouchers) ∈ BIG := bg4 145 rfl rfl
theorem bw4_147 : (Cond.instanceMethod yX9_byVouchers) ∈ BIG := bg4 147 rfl rfl
theorem bw4_148 : (Cond.code yX9_byVouchers cX9_byVouchers 4 (some .int)) ∈ BIG := bg4 148 rfl rfl
theorem bw4_149 : (Cond.methodLink RX9 92 yX9_startOf) ∈ BIG := bg4 149 rfl rfl
theorem bw4_151 : (Cond.instanceMethod yX9_startOf) ∈ BIG := bg4 151 rfl rfl
theorem bw4_152 : (Cond.code yX9_startOf cX9_startOf 6 (some .int)) ∈ BIG := bg4 152 rfl rfl
theorem bw4_153 : (Cond.methodLink RX9 83 yX9_nextOf) ∈ BIG := bg4 153 rfl rfl
theorem bw4_155 : (Cond.instanceMethod yX9_nextOf) ∈ BIG := bg4 155 rfl rfl
theorem bw4_156 : (Cond.code yX9_nextOf cX9_nextOf 6 (some .int)) ∈ BIG := bg4 156 rfl rfl
theorem bw4_157 : (Cond.methodLink RX9 86 yX9_greater) ∈ BIG := bg4 157 rfl rfl
theorem bw4_158 : (Cond.static yX9_greater) ∈ BIG := bg4 158 rfl rfl
theorem bw4_159 : (Cond.code yX9_greater cX9_greater 2 (some .int)) ∈ BIG := bg4 159 rfl rfl
theorem bw4_160 : (Cond.methodLink RX9 95 yX9_refunds) ∈ BIG := bg4 160 rfl rfl
theorem bw4_162 : (Cond.instanceMethod yX9_refunds) ∈ BIG := bg4 162 rfl rfl
theorem bw4_163 : (Cond.code yX9_refunds cX9_refunds 8 none) ∈ BIG := bg4 163 rfl rfl
theorem bw4_164 : (Cond.methodLink RX9 80 yX9_adds) ∈ BIG := bg4 164 rfl rfl
theorem bw4_166 : (Cond.instanceMethod yX9_adds) ∈ BIG := bg4 166 rfl rfl
theorem bw4_167 : (Cond.code yX9_adds cX9_adds 4 none) ∈ BIG := bg4 167 rfl rfl
theorem bw4_168 : (Cond.methodLink RL 47 yX9_merge) ∈ BIG := bg4 168 rfl rfl
theorem bw4_169 : (Cond.instanceMethod yX9_merge) ∈ BIG := bg4 169 rfl rfl
theorem bw4_170 : (Cond.selects RX9 yX9_merge yX9_merge) ∈ BIG := bg4 170 rfl rfl
theorem bw4_171 : (Cond.code yX9_merge cX9_merge 3 (some .int)) ∈ BIG := bg4 171 rfl rfl
theorem bw4_172 : (Cond.methodLink RX9 102 yX9_doJoin) ∈ BIG := bg4 172 rfl rfl
theorem bw4_174 : (Cond.instanceMethod yX9_doJoin) ∈ BIG := bg4 174 rfl rfl
theorem bw4_175 : (Cond.code yX9_doJoin cX9_doJoin 4 (some .int)) ∈ BIG := bg4 175 rfl rfl
theorem bw4_176 : (Cond.methodLink RL 51 yX9_play) ∈ BIG := bg4 176 rfl rfl
theorem bw4_177 : (Cond.instanceMethod yX9_play) ∈ BIG := bg4 177 rfl rfl
theorem bw4_178 : (Cond.selects RX9 yX9_play yX9_play) ∈ BIG := bg4 178 rfl rfl
theorem bw4_179 : (Cond.code yX9_play cX9_play 5 (some .int)) ∈ BIG := bg4 179 rfl rfl
theorem bw4_180 : (Cond.methodLink RX9 111 yX9_doPlay) ∈ BIG := bg4 180 rfl rfl
theorem bw4_182 : (Cond.instanceMethod yX9_doPlay) ∈ BIG := bg4 182 rfl rfl
theorem bw4_183 : (Cond.code yX9_doPlay cX9_doPlay 12 (some .int)) ∈ BIG := bg4 183 rfl rfl
theorem bw4_184 : (Cond.methodLink RX9 105 yX9_counts) ∈ BIG := bg4 184 rfl rfl
theorem bw4_186 : (Cond.instanceMethod yX9_counts) ∈ BIG := bg4 186 rfl rfl
theorem bw4_187 : (Cond.code yX9_counts cX9_counts 4 none) ∈ BIG := bg4 187 rfl rfl
theorem bw4_188 : (Cond.methodLink RX9 108 yX9_shareOf) ∈ BIG := bg4 188 rfl rfl
theorem bw4_190 : (Cond.instanceMethod yX9_shareOf) ∈ BIG := bg4 190 rfl rfl
theorem bw4_191 : (Cond.code yX9_shareOf cX9_shareOf 4 (some .int)) ∈ BIG := bg4 191 rfl rfl
theorem bw4_192 : (Cond.methodLink RL 55 yX9_take) ∈ BIG := bg4 192 rfl rfl
theorem bw4_193 : (Cond.instanceMethod yX9_take) ∈ BIG := bg4 193 rfl rfl
theorem bw4_194 : (Cond.selects RX9 yX9_take yX9_take) ∈ BIG := bg4 194 rfl rfl
theorem bw4_195 : (Cond.code yX9_take cX9_take 4 (some .int)) ∈ BIG := bg4 195 rfl rfl
theorem bw4_196 : (Cond.methodLink RL 59 yX9_restore) ∈ BIG := bg4 196 rfl rfl
theorem bw4_197 : (Cond.instanceMethod yX9_restore) ∈ BIG := bg4 197 rfl rfl
theorem bw4_198 : (Cond.selects RX9 yX9_restore yX9_restore) ∈ BIG := bg4 198 rfl rfl
theorem bw4_199 : (Cond.code yX9_restore cX9_restore 4 (some .int)) ∈ BIG := bg4 199 rfl rfl
theorem bw4_200 : (Cond.methodLink RL 64 yX9_undo) ∈ BIG := bg4 200 rfl rfl
theorem bw4_201 : (Cond.instanceMethod yX9_undo) ∈ BIG := bg4 201 rfl rfl
end
section
theorem bw4_202 : (Cond.selects RX9 yX9_undo yX9_undo) ∈ BIG := bg4 202 rfl rfl
theorem bw4_203 : (Cond.code yX9_undo cX9_undo 2 (some .int)) ∈ BIG := bg4 203 rfl rfl
theorem bw4_204 : (Cond.methodLink RL 68 yX9_append) ∈ BIG := bg4 204 rfl rfl
theorem bw4_205 : (Cond.instanceMethod yX9_append) ∈ BIG := bg4 205 rfl rfl
theorem bw4_206 : (Cond.selects RX9 yX9_append yX9_append) ∈ BIG := bg4 206 rfl rfl
theorem bw4_207 : (Cond.code yX9_append cX9_append 2 (some .int)) ∈ BIG := bg4 207 rfl rfl
theorem bw4_208 : (Cond.methodLink RL 72 yX9_clearText) ∈ BIG := bg4 208 rfl rfl
theorem bw4_209 : (Cond.instanceMethod yX9_clearText) ∈ BIG := bg4 209 rfl rfl
theorem bw4_210 : (Cond.selects RX9 yX9_clearText yX9_clearText) ∈ BIG := bg4 210 rfl rfl
theorem bw4_211 : (Cond.code yX9_clearText cX9_clearText 2 (some .int)) ∈ BIG := bg4 211 rfl rfl
theorem bw4_212 : (Cond.methodLink RL 76 yX9_run) ∈ BIG := bg4 212 rfl rfl
theorem bw4_213 : (Cond.instanceMethod yX9_run) ∈ BIG := bg4 213 rfl rfl
theorem bw4_214 : (Cond.selects RX9 yX9_run yX9_run) ∈ BIG := bg4 214 rfl rfl
theorem bw4_215 : (Cond.code yX9_run cX9_run 2 (some .int)) ∈ BIG := bg4 215 rfl rfl
theorem bw4_216 : (Cond.methodLink RX9 141 yX9_skips) ∈ BIG := bg4 216 rfl rfl
theorem bw4_218 : (Cond.instanceMethod yX9_skips) ∈ BIG := bg4 218 rfl rfl
theorem bw4_219 : (Cond.code yX9_skips cX9_skips 1 none) ∈ BIG := bg4 219 rfl rfl
theorem bw4_220 : (Cond.methodLink RX9 120 yX9_isAt) ∈ BIG := bg4 220 rfl rfl
theorem bw4_222 : (Cond.instanceMethod yX9_isAt) ∈ BIG := bg4 222 rfl rfl
theorem bw4_223 : (Cond.code yX9_isAt cX9_isAt 3 (some .boolean)) ∈ BIG := bg4 223 rfl rfl
theorem bw4_224 : (Cond.methodLink RX9 166 yX9_isDone) ∈ BIG := bg4 224 rfl rfl
theorem bw4_226 : (Cond.instanceMethod yX9_isDone) ∈ BIG := bg4 226 rfl rfl
theorem bw4_227 : (Cond.code yX9_isDone cX9_isDone 4 (some .boolean)) ∈ BIG := bg4 227 rfl rfl
theorem bw4_228 : (Cond.methodLink RX9 152 yX9_isWord) ∈ BIG := bg4 228 rfl rfl
theorem bw4_230 : (Cond.instanceMethod yX9_isWord) ∈ BIG := bg4 230 rfl rfl
theorem bw4_231 : (Cond.code yX9_isWord cX9_isWord 1 (some .boolean)) ∈ BIG := bg4 231 rfl rfl
theorem bw4_232 : (Cond.methodLink RX9 148 yX9_manyOf) ∈ BIG := bg4 232 rfl rfl
theorem bw4_233 : (Cond.static yX9_manyOf) ∈ BIG := bg4 233 rfl rfl
theorem bw4_234 : (Cond.code yX9_manyOf cX9_manyOf 2 (some .int)) ∈ BIG := bg4 234 rfl rfl
theorem bw4_235 : (Cond.constantLong RX9 127 (1919905645)) ∈ BIG := bg4 235 rfl rfl
theorem bw4_236 : (Cond.constantLong RX9 129 (7364985)) ∈ BIG := bg4 236 rfl rfl
theorem bw4_237 : (Cond.constantLong RX9 131 (1886151033)) ∈ BIG := bg4 237 rfl rfl
theorem bw4_238 : (Cond.constantLong RX9 133 (1651470187)) ∈ BIG := bg4 238 rfl rfl
theorem bw4_239 : (Cond.constantLong RX9 135 (1785686382)) ∈ BIG := bg4 239 rfl rfl
theorem bw5_0 : (Cond.constantLong RX9 137 (1734960756)) ∈ BIG := bg5 0 rfl rfl
theorem bw5_1 : (Cond.constantLong RX9 139 (1685221232)) ∈ BIG := bg5 1 rfl rfl
theorem bw5_2 : (Cond.methodLink RX9 156 yX9_isNumber) ∈ BIG := bg5 2 rfl rfl
theorem bw5_4 : (Cond.instanceMethod yX9_isNumber) ∈ BIG := bg5 4 rfl rfl
theorem bw5_5 : (Cond.code yX9_isNumber cX9_isNumber 3 (some .boolean)) ∈ BIG := bg5 5 rfl rfl
theorem bw5_6 : (Cond.methodLink RX9 159 yX9_isStop) ∈ BIG := bg5 6 rfl rfl
theorem bw5_8 : (Cond.instanceMethod yX9_isStop) ∈ BIG := bg5 8 rfl rfl
theorem bw5_9 : (Cond.code yX9_isStop cX9_isStop 2 (some .boolean)) ∈ BIG := bg5 9 rfl rfl
theorem bw5_10 : (Cond.methodLink RX9 162 yX9_does) ∈ BIG := bg5 10 rfl rfl
theorem bw5_12 : (Cond.instanceMethod yX9_does) ∈ BIG := bg5 12 rfl rfl
theorem bw5_13 : (Cond.code yX9_does cX9_does 5 (some .int)) ∈ BIG := bg5 13 rfl rfl
theorem bw5_14 : (Cond.methodLink RX9 169 yX9_lets) ∈ BIG := bg5 14 rfl rfl
theorem bw5_16 : (Cond.instanceMethod yX9_lets) ∈ BIG := bg5 16 rfl rfl
theorem bw5_17 : (Cond.code yX9_lets cX9_lets 2 none) ∈ BIG := bg5 17 rfl rfl
theorem bw5_18 : (Cond.methodLink RL 80 yX9_count) ∈ BIG := bg5 18 rfl rfl
theorem bw5_19 : (Cond.instanceMethod yX9_count) ∈ BIG := bg5 19 rfl rfl
theorem bw5_20 : (Cond.selects RX9 yX9_count yX9_count) ∈ BIG := bg5 20 rfl rfl
theorem bw5_21 : (Cond.code yX9_count cX9_count 2 (some .int)) ∈ BIG := bg5 21 rfl rfl
theorem bw5_22 : (Cond.methodLink RX9 172 yX9_inState) ∈ BIG := bg5 22 rfl rfl
theorem bw5_24 : (Cond.instanceMethod yX9_inState) ∈ BIG := bg5 24 rfl rfl
theorem bw5_25 : (Cond.code yX9_inState cX9_inState 4 (some .int)) ∈ BIG := bg5 25 rfl rfl
theorem bw5_26 : (Cond.methodLink RL 84 yX9_room) ∈ BIG := bg5 26 rfl rfl
theorem bw5_27 : (Cond.instanceMethod yX9_room) ∈ BIG := bg5 27 rfl rfl
theorem bw5_28 : (Cond.selects RX9 yX9_room yX9_room) ∈ BIG := bg5 28 rfl rfl
theorem bw5_29 : (Cond.code yX9_room cX9_room 3 (some .int)) ∈ BIG := bg5 29 rfl rfl
theorem bw5_30 : (Cond.methodLink RL 88 yX9_booking) ∈ BIG := bg5 30 rfl rfl
theorem bw5_31 : (Cond.instanceMethod yX9_booking) ∈ BIG := bg5 31 rfl rfl
theorem bw5_32 : (Cond.selects RX9 yX9_booking yX9_booking) ∈ BIG := bg5 32 rfl rfl
theorem bw5_33 : (Cond.code yX9_booking cX9_booking 3 (some .int)) ∈ BIG := bg5 33 rfl rfl
theorem bw5_34 : (Cond.methodLink RX9 175 yX9_paymentsOf) ∈ BIG := bg5 34 rfl rfl
theorem bw5_36 : (Cond.instanceMethod yX9_paymentsOf) ∈ BIG := bg5 36 rfl rfl
theorem bw5_37 : (Cond.code yX9_paymentsOf cX9_paymentsOf 4 (some .int)) ∈ BIG := bg5 37 rfl rfl
theorem bw5_38 : (Cond.methodLink RL 92 yX9_voucher) ∈ BIG := bg5 38 rfl rfl
theorem bw5_39 : (Cond.instanceMethod yX9_voucher) ∈ BIG := bg5 39 rfl rfl
theorem bw5_40 : (Cond.selects RX9 yX9_voucher yX9_voucher) ∈ BIG := bg5 40 rfl rfl
theorem bw5_41 : (Cond.code yX9_voucher cX9_voucher 5 (some .int)) ∈ BIG := bg5 41 rfl rfl
theorem bw5_42 : (Cond.methodLink RX9 178 yX9_hasFrom) ∈ BIG := bg5 42 rfl rfl
theorem bw5_44 : (Cond.instanceMethod yX9_hasFrom) ∈ BIG := bg5 44 rfl rfl
theorem bw5_45 : (Cond.code yX9_hasFrom cX9_hasFrom 6 (some .boolean)) ∈ BIG := bg5 45 rfl rfl
theorem bw5_46 : (Cond.methodLink RL 96 yX9_money) ∈ BIG := bg5 46 rfl rfl
theorem bw5_47 : (Cond.instanceMethod yX9_money) ∈ BIG := bg5 47 rfl rfl
theorem bw5_48 : (Cond.selects RX9 yX9_money yX9_money) ∈ BIG := bg5 48 rfl rfl
theorem bw5_49 : (Cond.code yX9_money cX9_money 2 (some .int)) ∈ BIG := bg5 49 rfl rfl
theorem bw5_50 : (Cond.methodLink RX9 181 yX9_sumOf) ∈ BIG := bg5 50 rfl rfl
theorem bw5_52 : (Cond.instanceMethod yX9_sumOf) ∈ BIG := bg5 52 rfl rfl
theorem bw5_53 : (Cond.code yX9_sumOf cX9_sumOf 4 (some .int)) ∈ BIG := bg5 53 rfl rfl
theorem bw5_54 : (Cond.methodLink RL 100 yX9_forecast) ∈ BIG := bg5 54 rfl rfl
theorem bw5_55 : (Cond.instanceMethod yX9_forecast) ∈ BIG := bg5 55 rfl rfl
theorem bw5_56 : (Cond.selects RX9 yX9_forecast yX9_forecast) ∈ BIG := bg5 56 rfl rfl
theorem bw5_57 : (Cond.code yX9_forecast cX9_forecast 5 (some .int)) ∈ BIG := bg5 57 rfl rfl
theorem bw5_58 : (Cond.methodLink RL 104 yX9_freeTime) ∈ BIG := bg5 58 rfl rfl
theorem bw5_59 : (Cond.instanceMethod yX9_freeTime) ∈ BIG := bg5 59 rfl rfl
theorem bw5_60 : (Cond.selects RX9 yX9_freeTime yX9_freeTime) ∈ BIG := bg5 60 rfl rfl
theorem bw5_61 : (Cond.code yX9_freeTime cX9_freeTime 4 (some .int)) ∈ BIG := bg5 61 rfl rfl
theorem bw5_62 : (Cond.methodLink RL 108 yX9_mergeable) ∈ BIG := bg5 62 rfl rfl
theorem bw5_63 : (Cond.instanceMethod yX9_mergeable) ∈ BIG := bg5 63 rfl rfl
theorem bw5_64 : (Cond.selects RX9 yX9_mergeable yX9_mergeable) ∈ BIG := bg5 64 rfl rfl
theorem bw5_65 : (Cond.code yX9_mergeable cX9_mergeable 9 (some .int)) ∈ BIG := bg5 65 rfl rfl
theorem bw5_66 : (Cond.methodLink RX9 184 yX9_areMergeable) ∈ BIG := bg5 66 rfl rfl
theorem bw5_68 : (Cond.instanceMethod yX9_areMergeable) ∈ BIG := bg5 68 rfl rfl
theorem bw5_69 : (Cond.code yX9_areMergeable cX9_areMergeable 5 (some .boolean)) ∈ BIG := bg5 69 rfl rfl
theorem bw5_70 : (Cond.methodLink RL 112 yX9_slack) ∈ BIG := bg5 70 rfl rfl
theorem bw5_71 : (Cond.instanceMethod yX9_slack) ∈ BIG := bg5 71 rfl rfl
theorem bw5_72 : (Cond.selects RX9 yX9_slack yX9_slack) ∈ BIG := bg5 72 rfl rfl
theorem bw5_73 : (Cond.code yX9_slack cX9_slack 3 (some .int)) ∈ BIG := bg5 73 rfl rfl
theorem bw5_74 : (Cond.methodLink RX9 187 yX9_isLate) ∈ BIG := bg5 74 rfl rfl
theorem bw5_76 : (Cond.instanceMethod yX9_isLate) ∈ BIG := bg5 76 rfl rfl
theorem bw5_77 : (Cond.code yX9_isLate cX9_isLate 5 (some .boolean)) ∈ BIG := bg5 77 rfl rfl
theorem bw5_78 : (Cond.methodLink RL 116 yX9_hintsFor) ∈ BIG := bg5 78 rfl rfl
theorem bw5_79 : (Cond.instanceMethod yX9_hintsFor) ∈ BIG := bg5 79 rfl rfl
theorem bw5_80 : (Cond.selects RX9 yX9_hintsFor yX9_hintsFor) ∈ BIG := bg5 80 rfl rfl
theorem bw5_81 : (Cond.code yX9_hintsFor cX9_hintsFor 5 (some .int)) ∈ BIG := bg5 81 rfl rfl
theorem bw5_82 : (Cond.methodLink RL 120 yX9_busiest) ∈ BIG := bg5 82 rfl rfl
theorem bw5_83 : (Cond.instanceMethod yX9_busiest) ∈ BIG := bg5 83 rfl rfl
theorem bw5_84 : (Cond.selects RX9 yX9_busiest yX9_busiest) ∈ BIG := bg5 84 rfl rfl
theorem bw5_85 : (Cond.code yX9_busiest cX9_busiest 5 (some .int)) ∈ BIG := bg5 85 rfl rfl
theorem bw5_86 : (Cond.fieldLink RJ0 9 "java/lang/String" "value" "[B") ∈ BIG := bg5 86 rfl rfl
theorem bw5_87 : (Cond.fieldLink RJ0 15 "java/lang/String" "coder" "B") ∈ BIG := bg5 87 rfl rfl
theorem bs0 : (Cond.selects RX1 yX1_stateAt yX1_stateAt) ∈ BIG := bgs 0 (q := (yX1_stateAt, _)) rfl rfl
theorem bs1 : (Cond.selects RX1 yX1_record yX1_record) ∈ BIG := bgs 1 (q := (yX1_record, _)) rfl rfl
theorem bs2 : (Cond.selects RX0 yX0_payCharge yX0_payCharge) ∈ BIG := bgs 2 (q := (yX0_payCharge, _)) rfl rfl
theorem bs3 : (Cond.selects RX0 yX0_refund yX0_refund) ∈ BIG := bgs 3 (q := (yX0_refund, _)) rfl rfl
theorem bs4 : (Cond.selects RX0 yX0_refundPayment yX0_refundPayment) ∈ BIG := bgs 4 (q := (yX0_refundPayment, _)) rfl rfl
theorem bs5 : (Cond.selects RX0 yX0_handOver yX0_handOver) ∈ BIG := bgs 5 (q := (yX0_handOver, _)) rfl rfl
theorem bs6 : (Cond.selects RX0 yX0_handOverPayments yX0_handOverPayments) ∈ BIG := bgs 6 (q := (yX0_handOverPayments, _)) rfl rfl
theorem bs7 : (Cond.selects RX0 yX0_occupy yX0_occupy) ∈ BIG := bgs 7 (q := (yX0_occupy, _)) rfl rfl
theorem bs8 : (Cond.selects RX3 yX3_readToken yX3_readToken) ∈ BIG := bgs 8 (q := (yX3_readToken, _)) rfl rfl
theorem bs9 : (Cond.selects RX3 yX3_signAt yX3_signAt) ∈ BIG := bgs 9 (q := (yX3_signAt, _)) rfl rfl
theorem bs10 : (Cond.selects RX3 yX3_kindOf yX3_kindOf) ∈ BIG := bgs 10 (q := (yX3_kindOf, _)) rfl rfl
theorem bs11 : (Cond.selects RX3 yX3_commandWord yX3_commandWord) ∈ BIG := bgs 11 (q := (yX3_commandWord, _)) rfl rfl
theorem bs12 : (Cond.selects RX3 yX3_isWord yX3_isWord) ∈ BIG := bgs 12 (q := (yX3_isWord, _)) rfl rfl
theorem bs13 : (Cond.selects RX3 yX3_readNumbers yX3_readNumbers) ∈ BIG := bgs 13 (q := (yX3_readNumbers, _)) rfl rfl
theorem bs14 : (Cond.selects RX3 yX3_isNumber yX3_isNumber) ∈ BIG := bgs 14 (q := (yX3_isNumber, _)) rfl rfl
theorem bs15 : (Cond.selects RX3 yX3_numberValue yX3_numberValue) ∈ BIG := bgs 15 (q := (yX3_numberValue, _)) rfl rfl
theorem bs16 : (Cond.selects RX3 yX3_isSemicolon yX3_isSemicolon) ∈ BIG := bgs 16 (q := (yX3_isSemicolon, _)) rfl rfl
theorem bs17 : (Cond.selects RX3 yX3_obey yX3_obey) ∈ BIG := bgs 17 (q := (yX3_obey, _)) rfl rfl
theorem bs18 : (Cond.selects RX7 yX7_isPaidWith yX7_isPaidWith) ∈ BIG := bgs 18 (q := (yX7_isPaidWith, _)) rfl rfl
theorem bs19 : (Cond.selects RX2 yX2_playersTogether yX2_playersTogether) ∈ BIG := bgs 19 (q := (yX2_playersTogether, _)) rfl rfl
theorem bs20 : (Cond.selects RX2 yX2_roomsAheadOf yX2_roomsAheadOf) ∈ BIG := bgs 20 (q := (yX2_roomsAheadOf, _)) rfl rfl
theorem bs21 : (Cond.selects RX9 yX9_hold yX9_hold) ∈ BIG := bgs 21 (q := (yX9_hold, _)) rfl rfl
theorem bs22 : (Cond.selects RX9 yX9_doRoom yX9_doRoom) ∈ BIG := bgs 22 (q := (yX9_doRoom, _)) rfl rfl
theorem bs23 : (Cond.selects RX9 yX9_ends yX9_ends) ∈ BIG := bgs 23 (q := (yX9_ends, _)) rfl rfl
theorem bs24 : (Cond.selects RX9 yX9_isRoom yX9_isRoom) ∈ BIG := bgs 24 (q := (yX9_isRoom, _)) rfl rfl
theorem bs25 : (Cond.selects RX9 yX9_of yX9_of) ∈ BIG := bgs 25 (q := (yX9_of, _)) rfl rfl
theorem bs26 : (Cond.selects RX9 yX9_doGift yX9_doGift) ∈ BIG := bgs 26 (q := (yX9_doGift, _)) rfl rfl
theorem bs27 : (Cond.selects RX9 yX9_doBook yX9_doBook) ∈ BIG := bgs 27 (q := (yX9_doBook, _)) rfl rfl
theorem bs28 : (Cond.selects RX9 yX9_isVoucher yX9_isVoucher) ∈ BIG := bgs 28 (q := (yX9_isVoucher, _)) rfl rfl
theorem bs29 : (Cond.selects RX9 yX9_isPossible yX9_isPossible) ∈ BIG := bgs 29 (q := (yX9_isPossible, _)) rfl rfl
theorem bs30 : (Cond.selects RX9 yX9_its yX9_its) ∈ BIG := bgs 30 (q := (yX9_its, _)) rfl rfl
theorem bs31 : (Cond.selects RX9 yX9_lays yX9_lays) ∈ BIG := bgs 31 (q := (yX9_lays, _)) rfl rfl
theorem bs32 : (Cond.selects RX9 yX9_isBooking yX9_isBooking) ∈ BIG := bgs 32 (q := (yX9_isBooking, _)) rfl rfl
theorem bs33 : (Cond.selects RX9 yX9_doDrop yX9_doDrop) ∈ BIG := bgs 33 (q := (yX9_doDrop, _)) rfl rfl
theorem bs34 : (Cond.selects RX9 yX9_byVouchers yX9_byVouchers) ∈ BIG := bgs 34 (q := (yX9_byVouchers, _)) rfl rfl
theorem bs35 : (Cond.selects RX9 yX9_startOf yX9_startOf) ∈ BIG := bgs 35 (q := (yX9_startOf, _)) rfl rfl
theorem bs36 : (Cond.selects RX9 yX9_nextOf yX9_nextOf) ∈ BIG := bgs 36 (q := (yX9_nextOf, _)) rfl rfl
theorem bs37 : (Cond.selects RX9 yX9_refunds yX9_refunds) ∈ BIG := bgs 37 (q := (yX9_refunds, _)) rfl rfl
theorem bs38 : (Cond.selects RX9 yX9_adds yX9_adds) ∈ BIG := bgs 38 (q := (yX9_adds, _)) rfl rfl
theorem bs39 : (Cond.selects RX9 yX9_doJoin yX9_doJoin) ∈ BIG := bgs 39 (q := (yX9_doJoin, _)) rfl rfl
theorem bs40 : (Cond.selects RX9 yX9_doPlay yX9_doPlay) ∈ BIG := bgs 40 (q := (yX9_doPlay, _)) rfl rfl
theorem bs41 : (Cond.selects RX9 yX9_counts yX9_counts) ∈ BIG := bgs 41 (q := (yX9_counts, _)) rfl rfl
theorem bs42 : (Cond.selects RX9 yX9_shareOf yX9_shareOf) ∈ BIG := bgs 42 (q := (yX9_shareOf, _)) rfl rfl
theorem bs43 : (Cond.selects RX9 yX9_skips yX9_skips) ∈ BIG := bgs 43 (q := (yX9_skips, _)) rfl rfl
theorem bs44 : (Cond.selects RX9 yX9_isAt yX9_isAt) ∈ BIG := bgs 44 (q := (yX9_isAt, _)) rfl rfl
theorem bs45 : (Cond.selects RX9 yX9_isDone yX9_isDone) ∈ BIG := bgs 45 (q := (yX9_isDone, _)) rfl rfl
theorem bs46 : (Cond.selects RX9 yX9_isWord yX9_isWord) ∈ BIG := bgs 46 (q := (yX9_isWord, _)) rfl rfl
theorem bs47 : (Cond.selects RX9 yX9_isNumber yX9_isNumber) ∈ BIG := bgs 47 (q := (yX9_isNumber, _)) rfl rfl
theorem bs48 : (Cond.selects RX9 yX9_isStop yX9_isStop) ∈ BIG := bgs 48 (q := (yX9_isStop, _)) rfl rfl
theorem bs49 : (Cond.selects RX9 yX9_does yX9_does) ∈ BIG := bgs 49 (q := (yX9_does, _)) rfl rfl
theorem bs50 : (Cond.selects RX9 yX9_lets yX9_lets) ∈ BIG := bgs 50 (q := (yX9_lets, _)) rfl rfl
theorem bs51 : (Cond.selects RX9 yX9_inState yX9_inState) ∈ BIG := bgs 51 (q := (yX9_inState, _)) rfl rfl
theorem bs52 : (Cond.selects RX9 yX9_paymentsOf yX9_paymentsOf) ∈ BIG := bgs 52 (q := (yX9_paymentsOf, _)) rfl rfl
theorem bs53 : (Cond.selects RX9 yX9_hasFrom yX9_hasFrom) ∈ BIG := bgs 53 (q := (yX9_hasFrom, _)) rfl rfl
theorem bs54 : (Cond.selects RX9 yX9_sumOf yX9_sumOf) ∈ BIG := bgs 54 (q := (yX9_sumOf, _)) rfl rfl
theorem bs55 : (Cond.selects RX9 yX9_areMergeable yX9_areMergeable) ∈ BIG := bgs 55 (q := (yX9_areMergeable, _)) rfl rfl
theorem bs56 : (Cond.selects RX9 yX9_isLate yX9_isLate) ∈ BIG := bgs 56 (q := (yX9_isLate, _)) rfl rfl
end
section
theorem dX0_init_0 : decode cX0_init 0 = .ok (.aload_n 0, 1) := by decide +kernel
theorem dX0_init_1 : decode cX0_init 1 = .ok (.invokespecial 3, 3) := by decide +kernel
theorem dX0_init_4 : decode cX0_init 4 = .ok (.aload_n 0, 1) := by decide +kernel
theorem dX0_init_5 : decode cX0_init 5 = .ok (.aload_n 1, 1) := by decide +kernel
theorem dX0_init_6 : decode cX0_init 6 = .ok (.putfield 9, 3) := by decide +kernel
theorem dX0_init_9 : decode cX0_init 9 = .ok (.aload_n 0, 1) := by decide +kernel
theorem dX0_init_10 : decode cX0_init 10 = .ok (.aload_n 1, 1) := by decide +kernel
theorem dX0_init_11 : decode cX0_init 11 = .ok (.getfield 15, 3) := by decide +kernel
theorem dX0_init_14 : decode cX0_init 14 = .ok (.putfield 21, 3) := by decide +kernel
theorem dX0_init_17 : decode cX0_init 17 = .ok (.aload_n 0, 1) := by decide +kernel
theorem dX0_init_18 : decode cX0_init 18 = .ok (.aload_n 1, 1) := by decide +kernel
theorem dX0_init_19 : decode cX0_init 19 = .ok (.getfield 22, 3) := by decide +kernel
theorem dX0_init_22 : decode cX0_init 22 = .ok (.putfield 25, 3) := by decide +kernel
theorem dX0_init_25 : decode cX0_init 25 = .ok (.aload_n 0, 1) := by decide +kernel
theorem dX0_init_26 : decode cX0_init 26 = .ok (.aload_n 1, 1) := by decide +kernel
theorem dX0_init_27 : decode cX0_init 27 = .ok (.getfield 26, 3) := by decide +kernel
theorem dX0_init_30 : decode cX0_init 30 = .ok (.putfield 29, 3) := by decide +kernel
theorem dX0_init_33 : decode cX0_init 33 = .ok (.aload_n 0, 1) := by decide +kernel
theorem dX0_init_34 : decode cX0_init 34 = .ok (.aload_n 1, 1) := by decide +kernel
theorem dX0_init_35 : decode cX0_init 35 = .ok (.getfield 30, 3) := by decide +kernel
theorem dX0_init_38 : decode cX0_init 38 = .ok (.putfield 33, 3) := by decide +kernel
theorem dX0_init_41 : decode cX0_init 41 = .ok (.return_, 1) := by decide +kernel
theorem dX0_newRoom_0 : decode cX0_newRoom 0 = .ok (.iload_n 1, 1) := by decide +kernel
theorem dX0_newRoom_1 : decode cX0_newRoom 1 = .ok (.bipush 20, 2) := by decide +kernel
theorem dX0_newRoom_3 : decode cX0_newRoom 3 = .ok (.bipush 120, 2) := by decide +kernel
theorem dX0_newRoom_5 : decode cX0_newRoom 5 = .ok (.invokestatic 34, 3) := by decide +kernel
theorem dX0_newRoom_8 : decode cX0_newRoom 8 = .ok (.ifCond .eq 35, 3) := by decide +kernel
theorem dX0_newRoom_11 : decode cX0_newRoom 11 = .ok (.iload_n 2, 1) := by decide +kernel
theorem dX0_newRoom_12 : decode cX0_newRoom 12 = .ok (.iconst 0, 1) := by decide +kernel
theorem dX0_newRoom_13 : decode cX0_newRoom 13 = .ok (.bipush 60, 2) := by decide +kernel
theorem dX0_newRoom_15 : decode cX0_newRoom 15 = .ok (.invokestatic 34, 3) := by decide +kernel
theorem dX0_newRoom_18 : decode cX0_newRoom 18 = .ok (.ifCond .eq 25, 3) := by decide +kernel
theorem dX0_newRoom_21 : decode cX0_newRoom 21 = .ok (.iload_n 3, 1) := by decide +kernel
theorem dX0_newRoom_22 : decode cX0_newRoom 22 = .ok (.iconst 1, 1) := by decide +kernel
theorem dX0_newRoom_23 : decode cX0_newRoom 23 = .ok (.sipush 200, 3) := by decide +kernel
theorem dX0_newRoom_26 : decode cX0_newRoom 26 = .ok (.invokestatic 34, 3) := by decide +kernel
theorem dX0_newRoom_29 : decode cX0_newRoom 29 = .ok (.ifCond .eq 14, 3) := by decide +kernel
theorem dX0_newRoom_32 : decode cX0_newRoom 32 = .ok (.iload 4, 2) := by decide +kernel
theorem dX0_newRoom_34 : decode cX0_newRoom 34 = .ok (.iconst 2, 1) := by decide +kernel
theorem dX0_newRoom_35 : decode cX0_newRoom 35 = .ok (.bipush 8, 2) := by decide +kernel
theorem dX0_newRoom_37 : decode cX0_newRoom 37 = .ok (.invokestatic 34, 3) := by decide +kernel
theorem dX0_newRoom_40 : decode cX0_newRoom 40 = .ok (.ifCond .ne 5, 3) := by decide +kernel
theorem dX0_newRoom_43 : decode cX0_newRoom 43 = .ok (.iconst (-1), 1) := by decide +kernel
theorem dX0_newRoom_44 : decode cX0_newRoom 44 = .ok (.ireturn, 1) := by decide +kernel
theorem dX0_newRoom_45 : decode cX0_newRoom 45 = .ok (.aload_n 0, 1) := by decide +kernel
theorem dX0_newRoom_46 : decode cX0_newRoom 46 = .ok (.getfield 21, 3) := by decide +kernel
theorem dX0_newRoom_49 : decode cX0_newRoom 49 = .ok (.invokevirtual 38, 3) := by decide +kernel
theorem dX0_newRoom_52 : decode cX0_newRoom 52 = .ok (.ifCond .eq 6, 3) := by decide +kernel
theorem dX0_newRoom_55 : decode cX0_newRoom 55 = .ok (.bipush (-3), 2) := by decide +kernel
theorem dX0_newRoom_57 : decode cX0_newRoom 57 = .ok (.ireturn, 1) := by decide +kernel
theorem dX0_newRoom_58 : decode cX0_newRoom 58 = .ok (.aload_n 0, 1) := by decide +kernel
theorem dX0_newRoom_59 : decode cX0_newRoom 59 = .ok (.getfield 21, 3) := by decide +kernel
theorem dX0_newRoom_62 : decode cX0_newRoom 62 = .ok (.invokevirtual 44, 3) := by decide +kernel
theorem dX0_newRoom_65 : decode cX0_newRoom 65 = .ok (.istore 5, 2) := by decide +kernel
theorem dX0_newRoom_67 : decode cX0_newRoom 67 = .ok (.aload_n 0, 1) := by decide +kernel
theorem dX0_newRoom_68 : decode cX0_newRoom 68 = .ok (.getfield 21, 3) := by decide +kernel
theorem dX0_newRoom_71 : decode cX0_newRoom 71 = .ok (.iload 5, 2) := by decide +kernel
theorem dX0_newRoom_73 : decode cX0_newRoom 73 = .ok (.iconst 0, 1) := by decide +kernel
theorem dX0_newRoom_74 : decode cX0_newRoom 74 = .ok (.iload_n 1, 1) := by decide +kernel
theorem dX0_newRoom_75 : decode cX0_newRoom 75 = .ok (.invokevirtual 48, 3) := by decide +kernel
theorem dX0_newRoom_78 : decode cX0_newRoom 78 = .ok (.aload_n 0, 1) := by decide +kernel
theorem dX0_newRoom_79 : decode cX0_newRoom 79 = .ok (.getfield 21, 3) := by decide +kernel
theorem dX0_newRoom_82 : decode cX0_newRoom 82 = .ok (.iload 5, 2) := by decide +kernel
theorem dX0_newRoom_84 : decode cX0_newRoom 84 = .ok (.iconst 1, 1) := by decide +kernel
theorem dX0_newRoom_85 : decode cX0_newRoom 85 = .ok (.iload_n 2, 1) := by decide +kernel
theorem dX0_newRoom_86 : decode cX0_newRoom 86 = .ok (.invokevirtual 48, 3) := by decide +kernel
theorem dX0_newRoom_89 : decode cX0_newRoom 89 = .ok (.aload_n 0, 1) := by decide +kernel
theorem dX0_newRoom_90 : decode cX0_newRoom 90 = .ok (.getfield 21, 3) := by decide +kernel
theorem dX0_newRoom_93 : decode cX0_newRoom 93 = .ok (.iload 5, 2) := by decide +kernel
theorem dX0_newRoom_95 : decode cX0_newRoom 95 = .ok (.iconst 2, 1) := by decide +kernel
theorem dX0_newRoom_96 : decode cX0_newRoom 96 = .ok (.iload_n 3, 1) := by decide +kernel
theorem dX0_newRoom_97 : decode cX0_newRoom 97 = .ok (.invokevirtual 48, 3) := by decide +kernel
theorem dX0_newRoom_100 : decode cX0_newRoom 100 = .ok (.aload_n 0, 1) := by decide +kernel
theorem dX0_newRoom_101 : decode cX0_newRoom 101 = .ok (.getfield 21, 3) := by decide +kernel
theorem dX0_newRoom_104 : decode cX0_newRoom 104 = .ok (.iload 5, 2) := by decide +kernel
theorem dX0_newRoom_106 : decode cX0_newRoom 106 = .ok (.iconst 3, 1) := by decide +kernel
theorem dX0_newRoom_107 : decode cX0_newRoom 107 = .ok (.iload 4, 2) := by decide +kernel
theorem dX0_newRoom_109 : decode cX0_newRoom 109 = .ok (.invokevirtual 48, 3) := by decide +kernel
theorem dX0_newRoom_112 : decode cX0_newRoom 112 = .ok (.iload 5, 2) := by decide +kernel
theorem dX0_newRoom_114 : decode cX0_newRoom 114 = .ok (.ireturn, 1) := by decide +kernel
theorem dX0_changePrice_0 : decode cX0_changePrice 0 = .ok (.aload_n 0, 1) := by decide +kernel
theorem dX0_changePrice_1 : decode cX0_changePrice 1 = .ok (.getfield 21, 3) := by decide +kernel
theorem dX0_changePrice_4 : decode cX0_changePrice 4 = .ok (.iload_n 1, 1) := by decide +kernel
theorem dX0_changePrice_5 : decode cX0_changePrice 5 = .ok (.invokevirtual 52, 3) := by decide +kernel
theorem dX0_changePrice_8 : decode cX0_changePrice 8 = .ok (.ifCond .eq 14, 3) := by decide +kernel
theorem dX0_changePrice_11 : decode cX0_changePrice 11 = .ok (.iload_n 2, 1) := by decide +kernel
theorem dX0_changePrice_12 : decode cX0_changePrice 12 = .ok (.iconst 1, 1) := by decide +kernel
theorem dX0_changePrice_13 : decode cX0_changePrice 13 = .ok (.sipush 200, 3) := by decide +kernel
theorem dX0_changePrice_16 : decode cX0_changePrice 16 = .ok (.invokestatic 34, 3) := by decide +kernel
theorem dX0_changePrice_19 : decode cX0_changePrice 19 = .ok (.ifCond .ne 5, 3) := by decide +kernel
theorem dX0_changePrice_22 : decode cX0_changePrice 22 = .ok (.iconst (-1), 1) := by decide +kernel
theorem dX0_changePrice_23 : decode cX0_changePrice 23 = .ok (.ireturn, 1) := by decide +kernel
theorem dX0_changePrice_24 : decode cX0_changePrice 24 = .ok (.aload_n 0, 1) := by decide +kernel
theorem dX0_changePrice_25 : decode cX0_changePrice 25 = .ok (.getfield 21, 3) := by decide +kernel
theorem dX0_changePrice_28 : decode cX0_changePrice 28 = .ok (.iload_n 1, 1) := by decide +kernel
theorem dX0_changePrice_29 : decode cX0_changePrice 29 = .ok (.iconst 2, 1) := by decide +kernel
theorem dX0_changePrice_30 : decode cX0_changePrice 30 = .ok (.invokevirtual 56, 3) := by decide +kernel
theorem dX0_changePrice_33 : decode cX0_changePrice 33 = .ok (.istore_n 3, 1) := by decide +kernel
theorem dX0_changePrice_34 : decode cX0_changePrice 34 = .ok (.aload_n 0, 1) := by decide +kernel
theorem dX0_changePrice_35 : decode cX0_changePrice 35 = .ok (.getfield 21, 3) := by decide +kernel
theorem dX0_changePrice_38 : decode cX0_changePrice 38 = .ok (.iload_n 1, 1) := by decide +kernel
theorem dX0_changePrice_39 : decode cX0_changePrice 39 = .ok (.iconst 2, 1) := by decide +kernel
theorem dX0_changePrice_40 : decode cX0_changePrice 40 = .ok (.iload_n 2, 1) := by decide +kernel
theorem dX0_changePrice_41 : decode cX0_changePrice 41 = .ok (.invokevirtual 48, 3) := by decide +kernel
theorem dX0_changePrice_44 : decode cX0_changePrice 44 = .ok (.iload_n 3, 1) := by decide +kernel
theorem dX0_changePrice_45 : decode cX0_changePrice 45 = .ok (.ireturn, 1) := by decide +kernel
theorem dX0_changeSetting_0 : decode cX0_changeSetting 0 = .ok (.iload_n 1, 1) := by decide +kernel
theorem dX0_changeSetting_1 : decode cX0_changeSetting 1 = .ok (.ifCond .lt 24, 3) := by decide +kernel
theorem dX0_changeSetting_4 : decode cX0_changeSetting 4 = .ok (.iload_n 1, 1) := by decide +kernel
theorem dX0_changeSetting_5 : decode cX0_changeSetting 5 = .ok (.getstatic 60, 3) := by decide +kernel
theorem dX0_changeSetting_8 : decode cX0_changeSetting 8 = .ok (.arraylength, 1) := by decide +kernel
theorem dX0_changeSetting_9 : decode cX0_changeSetting 9 = .ok (.if_icmp .ge 16, 3) := by decide +kernel
theorem dX0_changeSetting_12 : decode cX0_changeSetting 12 = .ok (.iload_n 2, 1) := by decide +kernel
theorem dX0_changeSetting_13 : decode cX0_changeSetting 13 = .ok (.iconst 0, 1) := by decide +kernel
theorem dX0_changeSetting_14 : decode cX0_changeSetting 14 = .ok (.getstatic 60, 3) := by decide +kernel
theorem dX0_changeSetting_17 : decode cX0_changeSetting 17 = .ok (.iload_n 1, 1) := by decide +kernel
theorem dX0_changeSetting_18 : decode cX0_changeSetting 18 = .ok (.iaload, 1) := by decide +kernel
theorem dX0_changeSetting_19 : decode cX0_changeSetting 19 = .ok (.invokestatic 34, 3) := by decide +kernel
theorem dX0_changeSetting_22 : decode cX0_changeSetting 22 = .ok (.ifCond .ne 5, 3) := by decide +kernel
theorem dX0_changeSetting_25 : decode cX0_changeSetting 25 = .ok (.iconst (-1), 1) := by decide +kernel
theorem dX0_changeSetting_26 : decode cX0_changeSetting 26 = .ok (.ireturn, 1) := by decide +kernel
theorem dX0_changeSetting_27 : decode cX0_changeSetting 27 = .ok (.aload_n 0, 1) := by decide +kernel
theorem dX0_changeSetting_28 : decode cX0_changeSetting 28 = .ok (.getfield 9, 3) := by decide +kernel
theorem dX0_changeSetting_31 : decode cX0_changeSetting 31 = .ok (.iload_n 1, 1) := by decide +kernel
theorem dX0_changeSetting_32 : decode cX0_changeSetting 32 = .ok (.invokevirtual 64, 3) := by decide +kernel
theorem dX0_changeSetting_35 : decode cX0_changeSetting 35 = .ok (.istore_n 3, 1) := by decide +kernel
theorem dX0_changeSetting_36 : decode cX0_changeSetting 36 = .ok (.aload_n 0, 1) := by decide +kernel
theorem dX0_changeSetting_37 : decode cX0_changeSetting 37 = .ok (.getfield 9, 3) := by decide +kernel
theorem dX0_changeSetting_40 : decode cX0_changeSetting 40 = .ok (.getfield 68, 3) := by decide +kernel
theorem dX0_changeSetting_43 : decode cX0_changeSetting 43 = .ok (.iload_n 1, 1) := by decide +kernel
theorem dX0_changeSetting_44 : decode cX0_changeSetting 44 = .ok (.iconst 0, 1) := by decide +kernel
theorem dX0_changeSetting_45 : decode cX0_changeSetting 45 = .ok (.iload_n 2, 1) := by decide +kernel
theorem dX0_changeSetting_46 : decode cX0_changeSetting 46 = .ok (.invokevirtual 48, 3) := by decide +kernel
theorem dX0_changeSetting_49 : decode cX0_changeSetting 49 = .ok (.iload_n 3, 1) := by decide +kernel
theorem dX0_changeSetting_50 : decode cX0_changeSetting 50 = .ok (.ireturn, 1) := by decide +kernel
theorem dX0_newVoucher_0 : decode cX0_newVoucher 0 = .ok (.iload_n 1, 1) := by decide +kernel
theorem dX0_newVoucher_1 : decode cX0_newVoucher 1 = .ok (.iconst 1, 1) := by decide +kernel
theorem dX0_newVoucher_2 : decode cX0_newVoucher 2 = .ok (.sipush 500, 3) := by decide +kernel
theorem dX0_newVoucher_5 : decode cX0_newVoucher 5 = .ok (.invokestatic 34, 3) := by decide +kernel
theorem dX0_newVoucher_8 : decode cX0_newVoucher 8 = .ok (.ifCond .ne 5, 3) := by decide +kernel
theorem dX0_newVoucher_11 : decode cX0_newVoucher 11 = .ok (.iconst (-1), 1) := by decide +kernel
theorem dX0_newVoucher_12 : decode cX0_newVoucher 12 = .ok (.ireturn, 1) := by decide +kernel
theorem dX0_newVoucher_13 : decode cX0_newVoucher 13 = .ok (.aload_n 0, 1) := by decide +kernel
theorem dX0_newVoucher_14 : decode cX0_newVoucher 14 = .ok (.getfield 29, 3) := by decide +kernel
theorem dX0_newVoucher_17 : decode cX0_newVoucher 17 = .ok (.invokevirtual 38, 3) := by decide +kernel
theorem dX0_newVoucher_20 : decode cX0_newVoucher 20 = .ok (.ifCond .eq 6, 3) := by decide +kernel
theorem dX0_newVoucher_23 : decode cX0_newVoucher 23 = .ok (.bipush (-3), 2) := by decide +kernel
theorem dX0_newVoucher_25 : decode cX0_newVoucher 25 = .ok (.ireturn, 1) := by decide +kernel
theorem dX0_newVoucher_26 : decode cX0_newVoucher 26 = .ok (.aload_n 0, 1) := by decide +kernel
theorem dX0_newVoucher_27 : decode cX0_newVoucher 27 = .ok (.getfield 29, 3) := by decide +kernel
theorem dX0_newVoucher_30 : decode cX0_newVoucher 30 = .ok (.invokevirtual 44, 3) := by decide +kernel
theorem dX0_newVoucher_33 : decode cX0_newVoucher 33 = .ok (.istore_n 2, 1) := by decide +kernel
theorem dX0_newVoucher_34 : decode cX0_newVoucher 34 = .ok (.aload_n 0, 1) := by decide +kernel
theorem dX0_newVoucher_35 : decode cX0_newVoucher 35 = .ok (.getfield 29, 3) := by decide +kernel
theorem dX0_newVoucher_38 : decode cX0_newVoucher 38 = .ok (.iload_n 2, 1) := by decide +kernel
theorem dX0_newVoucher_39 : decode cX0_newVoucher 39 = .ok (.iconst 0, 1) := by decide +kernel
theorem dX0_newVoucher_40 : decode cX0_newVoucher 40 = .ok (.iload_n 1, 1) := by decide +kernel
theorem dX0_newVoucher_41 : decode cX0_newVoucher 41 = .ok (.invokevirtual 48, 3) := by decide +kernel
theorem dX0_newVoucher_44 : decode cX0_newVoucher 44 = .ok (.aload_n 0, 1) := by decide +kernel
theorem dX0_newVoucher_45 : decode cX0_newVoucher 45 = .ok (.getfield 29, 3) := by decide +kernel
theorem dX0_newVoucher_48 : decode cX0_newVoucher 48 = .ok (.iload_n 2, 1) := by decide +kernel
theorem dX0_newVoucher_49 : decode cX0_newVoucher 49 = .ok (.iconst 1, 1) := by decide +kernel
theorem dX0_newVoucher_50 : decode cX0_newVoucher 50 = .ok (.iload_n 1, 1) := by decide +kernel
theorem dX0_newVoucher_51 : decode cX0_newVoucher 51 = .ok (.invokevirtual 48, 3) := by decide +kernel
theorem dX0_newVoucher_54 : decode cX0_newVoucher 54 = .ok (.aload_n 0, 1) := by decide +kernel
theorem dX0_newVoucher_55 : decode cX0_newVoucher 55 = .ok (.getfield 9, 3) := by decide +kernel
theorem dX0_newVoucher_58 : decode cX0_newVoucher 58 = .ok (.dup, 1) := by decide +kernel
theorem dX0_newVoucher_59 : decode cX0_newVoucher 59 = .ok (.getfield 71, 3) := by decide +kernel
theorem dX0_newVoucher_62 : decode cX0_newVoucher 62 = .ok (.iload_n 1, 1) := by decide +kernel
theorem dX0_newVoucher_63 : decode cX0_newVoucher 63 = .ok (.iadd, 1) := by decide +kernel
theorem dX0_newVoucher_64 : decode cX0_newVoucher 64 = .ok (.putfield 71, 3) := by decide +kernel
theorem dX0_newVoucher_67 : decode cX0_newVoucher 67 = .ok (.iload_n 2, 1) := by decide +kernel
theorem dX0_newVoucher_68 : decode cX0_newVoucher 68 = .ok (.ireturn, 1) := by decide +kernel
theorem dX0_newBooking_0 : decode cX0_newBooking 0 = .ok (.aload_n 0, 1) := by decide +kernel
theorem dX0_newBooking_1 : decode cX0_newBooking 1 = .ok (.getfield 21, 3) := by decide +kernel
theorem dX0_newBooking_4 : decode cX0_newBooking 4 = .ok (.iload_n 1, 1) := by decide +kernel
theorem dX0_newBooking_5 : decode cX0_newBooking 5 = .ok (.invokevirtual 52, 3) := by decide +kernel
theorem dX0_newBooking_8 : decode cX0_newBooking 8 = .ok (.ifCond .eq 49, 3) := by decide +kernel
theorem dX0_newBooking_11 : decode cX0_newBooking 11 = .ok (.iload_n 2, 1) := by decide +kernel
theorem dX0_newBooking_12 : decode cX0_newBooking 12 = .ok (.iconst 0, 1) := by decide +kernel
theorem dX0_newBooking_13 : decode cX0_newBooking 13 = .ok (.sipush 720, 3) := by decide +kernel
theorem dX0_newBooking_16 : decode cX0_newBooking 16 = .ok (.invokestatic 34, 3) := by decide +kernel
theorem dX0_newBooking_19 : decode cX0_newBooking 19 = .ok (.ifCond .eq 38, 3) := by decide +kernel
theorem dX0_newBooking_22 : decode cX0_newBooking 22 = .ok (.iload_n 3, 1) := by decide +kernel
theorem dX0_newBooking_23 : decode cX0_newBooking 23 = .ok (.iconst 2, 1) := by decide +kernel
theorem dX0_newBooking_24 : decode cX0_newBooking 24 = .ok (.aload_n 0, 1) := by decide +kernel
theorem dX0_newBooking_25 : decode cX0_newBooking 25 = .ok (.getfield 21, 3) := by decide +kernel
theorem dX0_newBooking_28 : decode cX0_newBooking 28 = .ok (.iload_n 1, 1) := by decide +kernel
theorem dX0_newBooking_29 : decode cX0_newBooking 29 = .ok (.iconst 3, 1) := by decide +kernel
theorem dX0_newBooking_30 : decode cX0_newBooking 30 = .ok (.invokevirtual 56, 3) := by decide +kernel
theorem dX0_newBooking_33 : decode cX0_newBooking 33 = .ok (.invokestatic 34, 3) := by decide +kernel
theorem dX0_newBooking_36 : decode cX0_newBooking 36 = .ok (.ifCond .eq 21, 3) := by decide +kernel
theorem dX0_newBooking_39 : decode cX0_newBooking 39 = .ok (.iload 4, 2) := by decide +kernel
theorem dX0_newBooking_41 : decode cX0_newBooking 41 = .ok (.iconst (-1), 1) := by decide +kernel
theorem dX0_newBooking_42 : decode cX0_newBooking 42 = .ok (.if_icmp .eq 17, 3) := by decide +kernel
theorem dX0_newBooking_45 : decode cX0_newBooking 45 = .ok (.aload_n 0, 1) := by decide +kernel
theorem dX0_newBooking_46 : decode cX0_newBooking 46 = .ok (.getfield 29, 3) := by decide +kernel
theorem dX0_newBooking_49 : decode cX0_newBooking 49 = .ok (.iload 4, 2) := by decide +kernel
theorem dX0_newBooking_51 : decode cX0_newBooking 51 = .ok (.invokevirtual 52, 3) := by decide +kernel
theorem dX0_newBooking_54 : decode cX0_newBooking 54 = .ok (.ifCond .ne 5, 3) := by decide +kernel
theorem dX0_newBooking_57 : decode cX0_newBooking 57 = .ok (.iconst (-1), 1) := by decide +kernel
theorem dX0_newBooking_58 : decode cX0_newBooking 58 = .ok (.ireturn, 1) := by decide +kernel
theorem dX0_newBooking_59 : decode cX0_newBooking 59 = .ok (.aload_n 0, 1) := by decide +kernel
theorem dX0_newBooking_60 : decode cX0_newBooking 60 = .ok (.getfield 9, 3) := by decide +kernel
theorem dX0_newBooking_63 : decode cX0_newBooking 63 = .ok (.iload_n 1, 1) := by decide +kernel
theorem dX0_newBooking_64 : decode cX0_newBooking 64 = .ok (.iload_n 2, 1) := by decide +kernel
theorem dX0_newBooking_65 : decode cX0_newBooking 65 = .ok (.bipush (-9), 2) := by decide +kernel
theorem dX0_newBooking_67 : decode cX0_newBooking 67 = .ok (.invokevirtual 75, 3) := by decide +kernel
theorem dX0_newBooking_70 : decode cX0_newBooking 70 = .ok (.ifCond .ne 6, 3) := by decide +kernel
theorem dX0_newBooking_73 : decode cX0_newBooking 73 = .ok (.bipush (-2), 2) := by decide +kernel
theorem dX0_newBooking_75 : decode cX0_newBooking 75 = .ok (.ireturn, 1) := by decide +kernel
theorem dX0_newBooking_76 : decode cX0_newBooking 76 = .ok (.aload_n 0, 1) := by decide +kernel
theorem dX0_newBooking_77 : decode cX0_newBooking 77 = .ok (.getfield 25, 3) := by decide +kernel
theorem dX0_newBooking_80 : decode cX0_newBooking 80 = .ok (.invokevirtual 38, 3) := by decide +kernel
theorem dX0_newBooking_83 : decode cX0_newBooking 83 = .ok (.ifCond .eq 6, 3) := by decide +kernel
theorem dX0_newBooking_86 : decode cX0_newBooking 86 = .ok (.bipush (-3), 2) := by decide +kernel
theorem dX0_newBooking_88 : decode cX0_newBooking 88 = .ok (.ireturn, 1) := by decide +kernel
theorem dX0_newBooking_89 : decode cX0_newBooking 89 = .ok (.aload_n 0, 1) := by decide +kernel
theorem dX0_newBooking_90 : decode cX0_newBooking 90 = .ok (.getfield 25, 3) := by decide +kernel
theorem dX0_newBooking_93 : decode cX0_newBooking 93 = .ok (.invokevirtual 44, 3) := by decide +kernel
theorem dX0_newBooking_96 : decode cX0_newBooking 96 = .ok (.istore 5, 2) := by decide +kernel
theorem dX0_newBooking_98 : decode cX0_newBooking 98 = .ok (.aload_n 0, 1) := by decide +kernel
theorem dX0_newBooking_99 : decode cX0_newBooking 99 = .ok (.getfield 25, 3) := by decide +kernel
theorem dX0_newBooking_102 : decode cX0_newBooking 102 = .ok (.iload 5, 2) := by decide +kernel
theorem dX0_newBooking_104 : decode cX0_newBooking 104 = .ok (.iconst 0, 1) := by decide +kernel
theorem dX0_newBooking_105 : decode cX0_newBooking 105 = .ok (.iload_n 1, 1) := by decide +kernel
theorem dX0_newBooking_106 : decode cX0_newBooking 106 = .ok (.invokevirtual 48, 3) := by decide +kernel
theorem dX0_newBooking_109 : decode cX0_newBooking 109 = .ok (.aload_n 0, 1) := by decide +kernel
theorem dX0_newBooking_110 : decode cX0_newBooking 110 = .ok (.getfield 25, 3) := by decide +kernel
theorem dX0_newBooking_113 : decode cX0_newBooking 113 = .ok (.iload 5, 2) := by decide +kernel
theorem dX0_newBooking_115 : decode cX0_newBooking 115 = .ok (.iconst 1, 1) := by decide +kernel
theorem dX0_newBooking_116 : decode cX0_newBooking 116 = .ok (.iload_n 2, 1) := by decide +kernel
theorem dX0_newBooking_117 : decode cX0_newBooking 117 = .ok (.invokevirtual 48, 3) := by decide +kernel
theorem dX0_newBooking_120 : decode cX0_newBooking 120 = .ok (.aload_n 0, 1) := by decide +kernel
theorem dX0_newBooking_121 : decode cX0_newBooking 121 = .ok (.getfield 25, 3) := by decide +kernel
theorem dX0_newBooking_124 : decode cX0_newBooking 124 = .ok (.iload 5, 2) := by decide +kernel
theorem dX0_newBooking_126 : decode cX0_newBooking 126 = .ok (.iconst 2, 1) := by decide +kernel
theorem dX0_newBooking_127 : decode cX0_newBooking 127 = .ok (.iload_n 3, 1) := by decide +kernel
theorem dX0_newBooking_128 : decode cX0_newBooking 128 = .ok (.invokevirtual 48, 3) := by decide +kernel
theorem dX0_newBooking_131 : decode cX0_newBooking 131 = .ok (.aload_n 0, 1) := by decide +kernel
theorem dX0_newBooking_132 : decode cX0_newBooking 132 = .ok (.getfield 25, 3) := by decide +kernel
theorem dX0_newBooking_135 : decode cX0_newBooking 135 = .ok (.iload 5, 2) := by decide +kernel
theorem dX0_newBooking_137 : decode cX0_newBooking 137 = .ok (.iconst 3, 1) := by decide +kernel
theorem dX0_newBooking_138 : decode cX0_newBooking 138 = .ok (.iconst 0, 1) := by decide +kernel
theorem dX0_newBooking_139 : decode cX0_newBooking 139 = .ok (.invokevirtual 48, 3) := by decide +kernel
theorem dX0_newBooking_142 : decode cX0_newBooking 142 = .ok (.aload_n 0, 1) := by decide +kernel
theorem dX0_newBooking_143 : decode cX0_newBooking 143 = .ok (.getfield 25, 3) := by decide +kernel
theorem dX0_newBooking_146 : decode cX0_newBooking 146 = .ok (.iload 5, 2) := by decide +kernel
theorem dX0_newBooking_148 : decode cX0_newBooking 148 = .ok (.bipush 8, 2) := by decide +kernel
theorem dX0_newBooking_150 : decode cX0_newBooking 150 = .ok (.bipush (-9), 2) := by decide +kernel
theorem dX0_newBooking_152 : decode cX0_newBooking 152 = .ok (.invokevirtual 48, 3) := by decide +kernel
theorem dX0_newBooking_155 : decode cX0_newBooking 155 = .ok (.aload_n 0, 1) := by decide +kernel
theorem dX0_newBooking_156 : decode cX0_newBooking 156 = .ok (.getfield 25, 3) := by decide +kernel
theorem dX0_newBooking_159 : decode cX0_newBooking 159 = .ok (.iload 5, 2) := by decide +kernel
theorem dX0_newBooking_161 : decode cX0_newBooking 161 = .ok (.bipush 9, 2) := by decide +kernel
theorem dX0_newBooking_163 : decode cX0_newBooking 163 = .ok (.bipush (-9), 2) := by decide +kernel
theorem dX0_newBooking_165 : decode cX0_newBooking 165 = .ok (.invokevirtual 48, 3) := by decide +kernel
theorem dX0_newBooking_168 : decode cX0_newBooking 168 = .ok (.aload_n 0, 1) := by decide +kernel
theorem dX0_newBooking_169 : decode cX0_newBooking 169 = .ok (.iload 5, 2) := by decide +kernel
theorem dX0_newBooking_171 : decode cX0_newBooking 171 = .ok (.aload_n 0, 1) := by decide +kernel
theorem dX0_newBooking_172 : decode cX0_newBooking 172 = .ok (.getfield 21, 3) := by decide +kernel
theorem dX0_newBooking_175 : decode cX0_newBooking 175 = .ok (.iload_n 1, 1) := by decide +kernel
theorem dX0_newBooking_176 : decode cX0_newBooking 176 = .ok (.iconst 2, 1) := by decide +kernel
theorem dX0_newBooking_177 : decode cX0_newBooking 177 = .ok (.invokevirtual 56, 3) := by decide +kernel
theorem dX0_newBooking_180 : decode cX0_newBooking 180 = .ok (.iload_n 3, 1) := by decide +kernel
theorem dX0_newBooking_181 : decode cX0_newBooking 181 = .ok (.imul, 1) := by decide +kernel
theorem dX0_newBooking_182 : decode cX0_newBooking 182 = .ok (.iload 4, 2) := by decide +kernel
theorem dX0_newBooking_184 : decode cX0_newBooking 184 = .ok (.invokevirtual 78, 3) := by decide +kernel
theorem dX0_newBooking_187 : decode cX0_newBooking 187 = .ok (.iload 5, 2) := by decide +kernel
theorem dX0_newBooking_189 : decode cX0_newBooking 189 = .ok (.ireturn, 1) := by decide +kernel
theorem dX0_payCharge_0 : decode cX0_payCharge 0 = .ok (.iload_n 2, 1) := by decide +kernel
theorem dX0_payCharge_1 : decode cX0_payCharge 1 = .ok (.aload_n 0, 1) := by decide +kernel
theorem dX0_payCharge_2 : decode cX0_payCharge 2 = .ok (.getfield 29, 3) := by decide +kernel
theorem dX0_payCharge_5 : decode cX0_payCharge 5 = .ok (.iload_n 3, 1) := by decide +kernel
theorem dX0_payCharge_6 : decode cX0_payCharge 6 = .ok (.iconst 1, 1) := by decide +kernel
theorem dX0_payCharge_7 : decode cX0_payCharge 7 = .ok (.invokevirtual 56, 3) := by decide +kernel
theorem dX0_payCharge_10 : decode cX0_payCharge 10 = .ok (.invokestatic 81, 3) := by decide +kernel
theorem dX0_payCharge_13 : decode cX0_payCharge 13 = .ok (.istore 4, 2) := by decide +kernel
theorem dX0_payCharge_15 : decode cX0_payCharge 15 = .ok (.iload 4, 2) := by decide +kernel
theorem dX0_payCharge_17 : decode cX0_payCharge 17 = .ok (.ifCond .le 58, 3) := by decide +kernel
theorem dX0_payCharge_20 : decode cX0_payCharge 20 = .ok (.aload_n 0, 1) := by decide +kernel
theorem dX0_payCharge_21 : decode cX0_payCharge 21 = .ok (.getfield 29, 3) := by decide +kernel
theorem dX0_payCharge_24 : decode cX0_payCharge 24 = .ok (.iload_n 3, 1) := by decide +kernel
theorem dX0_payCharge_25 : decode cX0_payCharge 25 = .ok (.iconst 1, 1) := by decide +kernel
theorem dX0_payCharge_26 : decode cX0_payCharge 26 = .ok (.iload 4, 2) := by decide +kernel
theorem dX0_payCharge_28 : decode cX0_payCharge 28 = .ok (.ineg, 1) := by decide +kernel
theorem dX0_payCharge_29 : decode cX0_payCharge 29 = .ok (.invokevirtual 86, 3) := by decide +kernel
theorem dX0_payCharge_32 : decode cX0_payCharge 32 = .ok (.aload_n 0, 1) := by decide +kernel
theorem dX0_payCharge_33 : decode cX0_payCharge 33 = .ok (.getfield 33, 3) := by decide +kernel
theorem dX0_payCharge_36 : decode cX0_payCharge 36 = .ok (.invokevirtual 44, 3) := by decide +kernel
theorem dX0_payCharge_39 : decode cX0_payCharge 39 = .ok (.istore 5, 2) := by decide +kernel
theorem dX0_payCharge_41 : decode cX0_payCharge 41 = .ok (.aload_n 0, 1) := by decide +kernel
theorem dX0_payCharge_42 : decode cX0_payCharge 42 = .ok (.getfield 33, 3) := by decide +kernel
theorem dX0_payCharge_45 : decode cX0_payCharge 45 = .ok (.iload 5, 2) := by decide +kernel
theorem dX0_payCharge_47 : decode cX0_payCharge 47 = .ok (.iconst 0, 1) := by decide +kernel
theorem dX0_payCharge_48 : decode cX0_payCharge 48 = .ok (.iload_n 1, 1) := by decide +kernel
theorem dX0_payCharge_49 : decode cX0_payCharge 49 = .ok (.invokevirtual 48, 3) := by decide +kernel
theorem dX0_payCharge_52 : decode cX0_payCharge 52 = .ok (.aload_n 0, 1) := by decide +kernel
theorem dX0_payCharge_53 : decode cX0_payCharge 53 = .ok (.getfield 33, 3) := by decide +kernel
theorem dX0_payCharge_56 : decode cX0_payCharge 56 = .ok (.iload 5, 2) := by decide +kernel
theorem dX0_payCharge_58 : decode cX0_payCharge 58 = .ok (.iconst 1, 1) := by decide +kernel
theorem dX0_payCharge_59 : decode cX0_payCharge 59 = .ok (.iload_n 3, 1) := by decide +kernel
theorem dX0_payCharge_60 : decode cX0_payCharge 60 = .ok (.invokevirtual 48, 3) := by decide +kernel
theorem dX0_payCharge_63 : decode cX0_payCharge 63 = .ok (.aload_n 0, 1) := by decide +kernel
theorem dX0_payCharge_64 : decode cX0_payCharge 64 = .ok (.getfield 33, 3) := by decide +kernel
theorem dX0_payCharge_67 : decode cX0_payCharge 67 = .ok (.iload 5, 2) := by decide +kernel
theorem dX0_payCharge_69 : decode cX0_payCharge 69 = .ok (.iconst 2, 1) := by decide +kernel
theorem dX0_payCharge_70 : decode cX0_payCharge 70 = .ok (.iload 4, 2) := by decide +kernel
theorem dX0_payCharge_72 : decode cX0_payCharge 72 = .ok (.invokevirtual 48, 3) := by decide +kernel
theorem dX0_payCharge_75 : decode cX0_payCharge 75 = .ok (.aload_n 0, 1) := by decide +kernel
theorem dX0_payCharge_76 : decode cX0_payCharge 76 = .ok (.getfield 25, 3) := by decide +kernel
theorem dX0_payCharge_79 : decode cX0_payCharge 79 = .ok (.iload_n 1, 1) := by decide +kernel
theorem dX0_payCharge_80 : decode cX0_payCharge 80 = .ok (.iconst 4, 1) := by decide +kernel
theorem dX0_payCharge_81 : decode cX0_payCharge 81 = .ok (.iload_n 2, 1) := by decide +kernel
theorem dX0_payCharge_82 : decode cX0_payCharge 82 = .ok (.invokevirtual 48, 3) := by decide +kernel
theorem dX0_payCharge_85 : decode cX0_payCharge 85 = .ok (.aload_n 0, 1) := by decide +kernel
theorem dX0_payCharge_86 : decode cX0_payCharge 86 = .ok (.getfield 25, 3) := by decide +kernel
theorem dX0_payCharge_89 : decode cX0_payCharge 89 = .ok (.iload_n 1, 1) := by decide +kernel
theorem dX0_payCharge_90 : decode cX0_payCharge 90 = .ok (.iconst 5, 1) := by decide +kernel
theorem dX0_payCharge_91 : decode cX0_payCharge 91 = .ok (.iload_n 2, 1) := by decide +kernel
theorem dX0_payCharge_92 : decode cX0_payCharge 92 = .ok (.iload 4, 2) := by decide +kernel
theorem dX0_payCharge_94 : decode cX0_payCharge 94 = .ok (.isub, 1) := by decide +kernel
theorem dX0_payCharge_95 : decode cX0_payCharge 95 = .ok (.invokevirtual 48, 3) := by decide +kernel
theorem dX0_payCharge_98 : decode cX0_payCharge 98 = .ok (.aload_n 0, 1) := by decide +kernel
theorem dX0_payCharge_99 : decode cX0_payCharge 99 = .ok (.getfield 9, 3) := by decide +kernel
theorem dX0_payCharge_102 : decode cX0_payCharge 102 = .ok (.dup, 1) := by decide +kernel
theorem dX0_payCharge_103 : decode cX0_payCharge 103 = .ok (.getfield 71, 3) := by decide +kernel
theorem dX0_payCharge_106 : decode cX0_payCharge 106 = .ok (.iload_n 2, 1) := by decide +kernel
theorem dX0_payCharge_107 : decode cX0_payCharge 107 = .ok (.iload 4, 2) := by decide +kernel
theorem dX0_payCharge_109 : decode cX0_payCharge 109 = .ok (.isub, 1) := by decide +kernel
theorem dX0_payCharge_110 : decode cX0_payCharge 110 = .ok (.iadd, 1) := by decide +kernel
theorem dX0_payCharge_111 : decode cX0_payCharge 111 = .ok (.putfield 71, 3) := by decide +kernel
theorem dX0_payCharge_114 : decode cX0_payCharge 114 = .ok (.return_, 1) := by decide +kernel
theorem dX0_changeTime_0 : decode cX0_changeTime 0 = .ok (.aload_n 0, 1) := by decide +kernel
theorem dX0_changeTime_1 : decode cX0_changeTime 1 = .ok (.getfield 25, 3) := by decide +kernel
theorem dX0_changeTime_4 : decode cX0_changeTime 4 = .ok (.iload_n 1, 1) := by decide +kernel
theorem dX0_changeTime_5 : decode cX0_changeTime 5 = .ok (.invokevirtual 52, 3) := by decide +kernel
theorem dX0_changeTime_8 : decode cX0_changeTime 8 = .ok (.ifCond .eq 14, 3) := by decide +kernel
theorem dX0_changeTime_11 : decode cX0_changeTime 11 = .ok (.iload_n 2, 1) := by decide +kernel
theorem dX0_changeTime_12 : decode cX0_changeTime 12 = .ok (.iconst 0, 1) := by decide +kernel
theorem dX0_changeTime_13 : decode cX0_changeTime 13 = .ok (.sipush 720, 3) := by decide +kernel
theorem dX0_changeTime_16 : decode cX0_changeTime 16 = .ok (.invokestatic 34, 3) := by decide +kernel
theorem dX0_changeTime_19 : decode cX0_changeTime 19 = .ok (.ifCond .ne 5, 3) := by decide +kernel
theorem dX0_changeTime_22 : decode cX0_changeTime 22 = .ok (.iconst (-1), 1) := by decide +kernel
theorem dX0_changeTime_23 : decode cX0_changeTime 23 = .ok (.ireturn, 1) := by decide +kernel
theorem dX0_changeTime_24 : decode cX0_changeTime 24 = .ok (.aload_n 0, 1) := by decide +kernel
theorem dX0_changeTime_25 : decode cX0_changeTime 25 = .ok (.getfield 25, 3) := by decide +kernel
theorem dX0_changeTime_28 : decode cX0_changeTime 28 = .ok (.iload_n 1, 1) := by decide +kernel
theorem dX0_changeTime_29 : decode cX0_changeTime 29 = .ok (.iconst 0, 1) := by decide +kernel
theorem dX0_changeTime_30 : decode cX0_changeTime 30 = .ok (.invokevirtual 56, 3) := by decide +kernel
theorem dX0_changeTime_33 : decode cX0_changeTime 33 = .ok (.istore_n 3, 1) := by decide +kernel
theorem dX0_changeTime_34 : decode cX0_changeTime 34 = .ok (.aload_n 0, 1) := by decide +kernel
theorem dX0_changeTime_35 : decode cX0_changeTime 35 = .ok (.getfield 9, 3) := by decide +kernel
theorem dX0_changeTime_38 : decode cX0_changeTime 38 = .ok (.iload_n 1, 1) := by decide +kernel
theorem dX0_changeTime_39 : decode cX0_changeTime 39 = .ok (.invokevirtual 89, 3) := by decide +kernel
theorem dX0_changeTime_42 : decode cX0_changeTime 42 = .ok (.ifCond .eq 16, 3) := by decide +kernel
theorem dX0_changeTime_45 : decode cX0_changeTime 45 = .ok (.aload_n 0, 1) := by decide +kernel
theorem dX0_changeTime_46 : decode cX0_changeTime 46 = .ok (.getfield 9, 3) := by decide +kernel
theorem dX0_changeTime_49 : decode cX0_changeTime 49 = .ok (.iload_n 3, 1) := by decide +kernel
theorem dX0_changeTime_50 : decode cX0_changeTime 50 = .ok (.iload_n 2, 1) := by decide +kernel
theorem dX0_changeTime_51 : decode cX0_changeTime 51 = .ok (.iload_n 1, 1) := by decide +kernel
theorem dX0_changeTime_52 : decode cX0_changeTime 52 = .ok (.invokevirtual 75, 3) := by decide +kernel
theorem dX0_changeTime_55 : decode cX0_changeTime 55 = .ok (.ifCond .ne 6, 3) := by decide +kernel
theorem dX0_changeTime_58 : decode cX0_changeTime 58 = .ok (.bipush (-2), 2) := by decide +kernel
theorem dX0_changeTime_60 : decode cX0_changeTime 60 = .ok (.ireturn, 1) := by decide +kernel
theorem dX0_changeTime_61 : decode cX0_changeTime 61 = .ok (.aload_n 0, 1) := by decide +kernel
theorem dX0_changeTime_62 : decode cX0_changeTime 62 = .ok (.getfield 25, 3) := by decide +kernel
theorem dX0_changeTime_65 : decode cX0_changeTime 65 = .ok (.iload_n 1, 1) := by decide +kernel
theorem dX0_changeTime_66 : decode cX0_changeTime 66 = .ok (.iconst 1, 1) := by decide +kernel
theorem dX0_changeTime_67 : decode cX0_changeTime 67 = .ok (.invokevirtual 56, 3) := by decide +kernel
theorem dX0_changeTime_70 : decode cX0_changeTime 70 = .ok (.istore 4, 2) := by decide +kernel
theorem dX0_changeTime_72 : decode cX0_changeTime 72 = .ok (.aload_n 0, 1) := by decide +kernel
theorem dX0_changeTime_73 : decode cX0_changeTime 73 = .ok (.getfield 25, 3) := by decide +kernel
theorem dX0_changeTime_76 : decode cX0_changeTime 76 = .ok (.iload_n 1, 1) := by decide +kernel
theorem dX0_changeTime_77 : decode cX0_changeTime 77 = .ok (.iconst 1, 1) := by decide +kernel
theorem dX0_changeTime_78 : decode cX0_changeTime 78 = .ok (.iload_n 2, 1) := by decide +kernel
theorem dX0_changeTime_79 : decode cX0_changeTime 79 = .ok (.invokevirtual 48, 3) := by decide +kernel
theorem dX0_changeTime_82 : decode cX0_changeTime 82 = .ok (.iload 4, 2) := by decide +kernel
theorem dX0_changeTime_84 : decode cX0_changeTime 84 = .ok (.ireturn, 1) := by decide +kernel
theorem dX0_callOff_0 : decode cX0_callOff 0 = .ok (.aload_n 0, 1) := by decide +kernel
theorem dX0_callOff_1 : decode cX0_callOff 1 = .ok (.getfield 25, 3) := by decide +kernel
theorem dX0_callOff_4 : decode cX0_callOff 4 = .ok (.iload_n 1, 1) := by decide +kernel
theorem dX0_callOff_5 : decode cX0_callOff 5 = .ok (.invokevirtual 52, 3) := by decide +kernel
theorem dX0_callOff_8 : decode cX0_callOff 8 = .ok (.ifCond .ne 5, 3) := by decide +kernel
theorem dX0_callOff_11 : decode cX0_callOff 11 = .ok (.iconst (-1), 1) := by decide +kernel
theorem dX0_callOff_12 : decode cX0_callOff 12 = .ok (.ireturn, 1) := by decide +kernel
theorem dX0_callOff_13 : decode cX0_callOff 13 = .ok (.aload_n 0, 1) := by decide +kernel
theorem dX0_callOff_14 : decode cX0_callOff 14 = .ok (.getfield 9, 3) := by decide +kernel
theorem dX0_callOff_17 : decode cX0_callOff 17 = .ok (.iload_n 1, 1) := by decide +kernel
theorem dX0_callOff_18 : decode cX0_callOff 18 = .ok (.invokevirtual 89, 3) := by decide +kernel
theorem dX0_callOff_21 : decode cX0_callOff 21 = .ok (.ifCond .ne 6, 3) := by decide +kernel
theorem dX0_callOff_24 : decode cX0_callOff 24 = .ok (.bipush (-2), 2) := by decide +kernel
theorem dX0_callOff_26 : decode cX0_callOff 26 = .ok (.ireturn, 1) := by decide +kernel
theorem dX0_callOff_27 : decode cX0_callOff 27 = .ok (.aload_n 0, 1) := by decide +kernel
theorem dX0_callOff_28 : decode cX0_callOff 28 = .ok (.getfield 9, 3) := by decide +kernel
theorem dX0_callOff_31 : decode cX0_callOff 31 = .ok (.iload_n 1, 1) := by decide +kernel
theorem dX0_callOff_32 : decode cX0_callOff 32 = .ok (.invokevirtual 92, 3) := by decide +kernel
theorem dX0_callOff_35 : decode cX0_callOff 35 = .ok (.aload_n 0, 1) := by decide +kernel
theorem dX0_callOff_36 : decode cX0_callOff 36 = .ok (.getfield 25, 3) := by decide +kernel
theorem dX0_callOff_39 : decode cX0_callOff 39 = .ok (.iload_n 1, 1) := by decide +kernel
theorem dX0_callOff_40 : decode cX0_callOff 40 = .ok (.iconst 1, 1) := by decide +kernel
theorem dX0_callOff_41 : decode cX0_callOff 41 = .ok (.invokevirtual 56, 3) := by decide +kernel
theorem dX0_callOff_44 : decode cX0_callOff 44 = .ok (.isub, 1) := by decide +kernel
theorem dX0_callOff_45 : decode cX0_callOff 45 = .ok (.istore_n 2, 1) := by decide +kernel
theorem dX0_callOff_46 : decode cX0_callOff 46 = .ok (.aload_n 0, 1) := by decide +kernel
theorem dX0_callOff_47 : decode cX0_callOff 47 = .ok (.getfield 25, 3) := by decide +kernel
theorem dX0_callOff_50 : decode cX0_callOff 50 = .ok (.iload_n 1, 1) := by decide +kernel
theorem dX0_callOff_51 : decode cX0_callOff 51 = .ok (.iconst 5, 1) := by decide +kernel
theorem dX0_callOff_52 : decode cX0_callOff 52 = .ok (.invokevirtual 56, 3) := by decide +kernel
theorem dX0_callOff_55 : decode cX0_callOff 55 = .ok (.aload_n 0, 1) := by decide +kernel
theorem dX0_callOff_56 : decode cX0_callOff 56 = .ok (.getfield 9, 3) := by decide +kernel
theorem dX0_callOff_59 : decode cX0_callOff 59 = .ok (.iload_n 1, 1) := by decide +kernel
theorem dX0_callOff_60 : decode cX0_callOff 60 = .ok (.invokevirtual 95, 3) := by decide +kernel
theorem dX0_callOff_63 : decode cX0_callOff 63 = .ok (.iadd, 1) := by decide +kernel
theorem dX0_callOff_64 : decode cX0_callOff 64 = .ok (.istore_n 3, 1) := by decide +kernel
theorem dX0_callOff_65 : decode cX0_callOff 65 = .ok (.iload_n 2, 1) := by decide +kernel
theorem dX0_callOff_66 : decode cX0_callOff 66 = .ok (.aload_n 0, 1) := by decide +kernel
theorem dX0_callOff_67 : decode cX0_callOff 67 = .ok (.getfield 9, 3) := by decide +kernel
theorem dX0_callOff_70 : decode cX0_callOff 70 = .ok (.iconst 3, 1) := by decide +kernel
theorem dX0_callOff_71 : decode cX0_callOff 71 = .ok (.invokevirtual 64, 3) := by decide +kernel
theorem dX0_callOff_74 : decode cX0_callOff 74 = .ok (.if_icmp .le 7, 3) := by decide +kernel
theorem dX0_callOff_77 : decode cX0_callOff 77 = .ok (.iload_n 3, 1) := by decide +kernel
theorem dX0_callOff_78 : decode cX0_callOff 78 = .ok (.goto 6, 3) := by decide +kernel
theorem dX0_callOff_81 : decode cX0_callOff 81 = .ok (.iload_n 3, 1) := by decide +kernel
theorem dX0_callOff_82 : decode cX0_callOff 82 = .ok (.iconst 2, 1) := by decide +kernel
theorem dX0_callOff_83 : decode cX0_callOff 83 = .ok (.idiv, 1) := by decide +kernel
theorem dX0_callOff_84 : decode cX0_callOff 84 = .ok (.istore 4, 2) := by decide +kernel
theorem dX0_callOff_86 : decode cX0_callOff 86 = .ok (.aload_n 0, 1) := by decide +kernel
theorem dX0_callOff_87 : decode cX0_callOff 87 = .ok (.getfield 25, 3) := by decide +kernel
theorem dX0_callOff_90 : decode cX0_callOff 90 = .ok (.iload_n 1, 1) := by decide +kernel
theorem dX0_callOff_91 : decode cX0_callOff 91 = .ok (.iconst 3, 1) := by decide +kernel
theorem dX0_callOff_92 : decode cX0_callOff 92 = .ok (.iconst 2, 1) := by decide +kernel
theorem dX0_callOff_93 : decode cX0_callOff 93 = .ok (.invokevirtual 48, 3) := by decide +kernel
theorem dX0_callOff_96 : decode cX0_callOff 96 = .ok (.aload_n 0, 1) := by decide +kernel
theorem dX0_callOff_97 : decode cX0_callOff 97 = .ok (.iload_n 1, 1) := by decide +kernel
theorem dX0_callOff_98 : decode cX0_callOff 98 = .ok (.iload 4, 2) := by decide +kernel
theorem dX0_callOff_100 : decode cX0_callOff 100 = .ok (.invokevirtual 98, 3) := by decide +kernel
theorem dX0_callOff_103 : decode cX0_callOff 103 = .ok (.iload 4, 2) := by decide +kernel
theorem dX0_callOff_105 : decode cX0_callOff 105 = .ok (.ireturn, 1) := by decide +kernel
theorem dX0_refund_0 : decode cX0_refund 0 = .ok (.iload_n 2, 1) := by decide +kernel
theorem dX0_refund_1 : decode cX0_refund 1 = .ok (.aload_n 0, 1) := by decide +kernel
theorem dX0_refund_2 : decode cX0_refund 2 = .ok (.getfield 25, 3) := by decide +kernel
theorem dX0_refund_5 : decode cX0_refund 5 = .ok (.iload_n 1, 1) := by decide +kernel
theorem dX0_refund_6 : decode cX0_refund 6 = .ok (.iconst 5, 1) := by decide +kernel
theorem dX0_refund_7 : decode cX0_refund 7 = .ok (.invokevirtual 56, 3) := by decide +kernel
theorem dX0_refund_10 : decode cX0_refund 10 = .ok (.invokestatic 81, 3) := by decide +kernel
theorem dX0_refund_13 : decode cX0_refund 13 = .ok (.istore_n 3, 1) := by decide +kernel
theorem dX0_refund_14 : decode cX0_refund 14 = .ok (.aload_n 0, 1) := by decide +kernel
theorem dX0_refund_15 : decode cX0_refund 15 = .ok (.getfield 25, 3) := by decide +kernel
theorem dX0_refund_18 : decode cX0_refund 18 = .ok (.iload_n 1, 1) := by decide +kernel
theorem dX0_refund_19 : decode cX0_refund 19 = .ok (.iconst 5, 1) := by decide +kernel
theorem dX0_refund_20 : decode cX0_refund 20 = .ok (.iload_n 3, 1) := by decide +kernel
theorem dX0_refund_21 : decode cX0_refund 21 = .ok (.ineg, 1) := by decide +kernel
theorem dX0_refund_22 : decode cX0_refund 22 = .ok (.invokevirtual 86, 3) := by decide +kernel
theorem dX0_refund_25 : decode cX0_refund 25 = .ok (.aload_n 0, 1) := by decide +kernel
theorem dX0_refund_26 : decode cX0_refund 26 = .ok (.getfield 9, 3) := by decide +kernel
theorem dX0_refund_29 : decode cX0_refund 29 = .ok (.dup, 1) := by decide +kernel
theorem dX0_refund_30 : decode cX0_refund 30 = .ok (.getfield 71, 3) := by decide +kernel
theorem dX0_refund_33 : decode cX0_refund 33 = .ok (.iload_n 3, 1) := by decide +kernel
theorem dX0_refund_34 : decode cX0_refund 34 = .ok (.isub, 1) := by decide +kernel
theorem dX0_refund_35 : decode cX0_refund 35 = .ok (.putfield 71, 3) := by decide +kernel
theorem dX0_refund_38 : decode cX0_refund 38 = .ok (.iload_n 2, 1) := by decide +kernel
theorem dX0_refund_39 : decode cX0_refund 39 = .ok (.iload_n 3, 1) := by decide +kernel
theorem dX0_refund_40 : decode cX0_refund 40 = .ok (.isub, 1) := by decide +kernel
theorem dX0_refund_41 : decode cX0_refund 41 = .ok (.istore 4, 2) := by decide +kernel
theorem dX0_refund_43 : decode cX0_refund 43 = .ok (.bipush 15, 2) := by decide +kernel
theorem dX0_refund_45 : decode cX0_refund 45 = .ok (.istore 5, 2) := by decide +kernel
theorem dX0_refund_47 : decode cX0_refund 47 = .ok (.iload 5, 2) := by decide +kernel
theorem dX0_refund_49 : decode cX0_refund 49 = .ok (.ifCond .lt 35, 3) := by decide +kernel
theorem dX0_refund_52 : decode cX0_refund 52 = .ok (.iload 4, 2) := by decide +kernel
theorem dX0_refund_54 : decode cX0_refund 54 = .ok (.ifCond .le 30, 3) := by decide +kernel
theorem dX0_refund_57 : decode cX0_refund 57 = .ok (.iload 4, 2) := by decide +kernel
theorem dX0_refund_59 : decode cX0_refund 59 = .ok (.aload_n 0, 1) := by decide +kernel
theorem dX0_refund_60 : decode cX0_refund 60 = .ok (.aload_n 0, 1) := by decide +kernel
theorem dX0_refund_61 : decode cX0_refund 61 = .ok (.getfield 9, 3) := by decide +kernel
theorem dX0_refund_64 : decode cX0_refund 64 = .ok (.iload_n 1, 1) := by decide +kernel
theorem dX0_refund_65 : decode cX0_refund 65 = .ok (.iload 5, 2) := by decide +kernel
theorem dX0_refund_67 : decode cX0_refund 67 = .ok (.invokevirtual 102, 3) := by decide +kernel
theorem dX0_refund_70 : decode cX0_refund 70 = .ok (.iload 4, 2) := by decide +kernel
theorem dX0_refund_72 : decode cX0_refund 72 = .ok (.invokevirtual 105, 3) := by decide +kernel
theorem dX0_refund_75 : decode cX0_refund 75 = .ok (.isub, 1) := by decide +kernel
theorem dX0_refund_76 : decode cX0_refund 76 = .ok (.istore 4, 2) := by decide +kernel
theorem dX0_refund_78 : decode cX0_refund 78 = .ok (.iinc 5 (-1), 3) := by decide +kernel
theorem dX0_refund_81 : decode cX0_refund 81 = .ok (.goto (-34), 3) := by decide +kernel
theorem dX0_refund_84 : decode cX0_refund 84 = .ok (.aload_n 0, 1) := by decide +kernel
theorem dX0_refund_85 : decode cX0_refund 85 = .ok (.getfield 25, 3) := by decide +kernel
theorem dX0_refund_88 : decode cX0_refund 88 = .ok (.iload_n 1, 1) := by decide +kernel
theorem dX0_refund_89 : decode cX0_refund 89 = .ok (.bipush 7, 2) := by decide +kernel
theorem dX0_refund_91 : decode cX0_refund 91 = .ok (.iload_n 2, 1) := by decide +kernel
theorem dX0_refund_92 : decode cX0_refund 92 = .ok (.iload 4, 2) := by decide +kernel
theorem dX0_refund_94 : decode cX0_refund 94 = .ok (.isub, 1) := by decide +kernel
theorem dX0_refund_95 : decode cX0_refund 95 = .ok (.invokevirtual 86, 3) := by decide +kernel
theorem dX0_refund_98 : decode cX0_refund 98 = .ok (.return_, 1) := by decide +kernel
theorem dX0_refundPayment_0 : decode cX0_refundPayment 0 = .ok (.iload_n 2, 1) := by decide +kernel
theorem dX0_refundPayment_1 : decode cX0_refundPayment 1 = .ok (.aload_n 0, 1) := by decide +kernel
theorem dX0_refundPayment_2 : decode cX0_refundPayment 2 = .ok (.getfield 33, 3) := by decide +kernel
theorem dX0_refundPayment_5 : decode cX0_refundPayment 5 = .ok (.iload_n 1, 1) := by decide +kernel
theorem dX0_refundPayment_6 : decode cX0_refundPayment 6 = .ok (.iconst 2, 1) := by decide +kernel
theorem dX0_refundPayment_7 : decode cX0_refundPayment 7 = .ok (.invokevirtual 56, 3) := by decide +kernel
theorem dX0_refundPayment_10 : decode cX0_refundPayment 10 = .ok (.invokestatic 81, 3) := by decide +kernel
theorem dX0_refundPayment_13 : decode cX0_refundPayment 13 = .ok (.istore_n 3, 1) := by decide +kernel
theorem dX0_refundPayment_14 : decode cX0_refundPayment 14 = .ok (.iload_n 3, 1) := by decide +kernel
theorem dX0_refundPayment_15 : decode cX0_refundPayment 15 = .ok (.ifCond .le 32, 3) := by decide +kernel
theorem dX0_refundPayment_18 : decode cX0_refundPayment 18 = .ok (.aload_n 0, 1) := by decide +kernel
theorem dX0_refundPayment_19 : decode cX0_refundPayment 19 = .ok (.getfield 33, 3) := by decide +kernel
theorem dX0_refundPayment_22 : decode cX0_refundPayment 22 = .ok (.iload_n 1, 1) := by decide +kernel
theorem dX0_refundPayment_23 : decode cX0_refundPayment 23 = .ok (.iconst 2, 1) := by decide +kernel
theorem dX0_refundPayment_24 : decode cX0_refundPayment 24 = .ok (.iload_n 3, 1) := by decide +kernel
theorem dX0_refundPayment_25 : decode cX0_refundPayment 25 = .ok (.ineg, 1) := by decide +kernel
theorem dX0_refundPayment_26 : decode cX0_refundPayment 26 = .ok (.invokevirtual 86, 3) := by decide +kernel
theorem dX0_refundPayment_29 : decode cX0_refundPayment 29 = .ok (.aload_n 0, 1) := by decide +kernel
theorem dX0_refundPayment_30 : decode cX0_refundPayment 30 = .ok (.getfield 29, 3) := by decide +kernel
theorem dX0_refundPayment_33 : decode cX0_refundPayment 33 = .ok (.aload_n 0, 1) := by decide +kernel
theorem dX0_refundPayment_34 : decode cX0_refundPayment 34 = .ok (.getfield 33, 3) := by decide +kernel
theorem dX0_refundPayment_37 : decode cX0_refundPayment 37 = .ok (.iload_n 1, 1) := by decide +kernel
theorem dX0_refundPayment_38 : decode cX0_refundPayment 38 = .ok (.iconst 1, 1) := by decide +kernel
theorem dX0_refundPayment_39 : decode cX0_refundPayment 39 = .ok (.invokevirtual 56, 3) := by decide +kernel
theorem dX0_refundPayment_42 : decode cX0_refundPayment 42 = .ok (.iconst 1, 1) := by decide +kernel
theorem dX0_refundPayment_43 : decode cX0_refundPayment 43 = .ok (.iload_n 3, 1) := by decide +kernel
theorem dX0_refundPayment_44 : decode cX0_refundPayment 44 = .ok (.invokevirtual 86, 3) := by decide +kernel
theorem dX0_refundPayment_47 : decode cX0_refundPayment 47 = .ok (.iload_n 3, 1) := by decide +kernel
theorem dX0_refundPayment_48 : decode cX0_refundPayment 48 = .ok (.ireturn, 1) := by decide +kernel
theorem dX0_joinTeams_0 : decode cX0_joinTeams 0 = .ok (.aload_n 0, 1) := by decide +kernel
theorem dX0_joinTeams_1 : decode cX0_joinTeams 1 = .ok (.getfield 25, 3) := by decide +kernel
theorem dX0_joinTeams_4 : decode cX0_joinTeams 4 = .ok (.iload_n 1, 1) := by decide +kernel
theorem dX0_joinTeams_5 : decode cX0_joinTeams 5 = .ok (.invokevirtual 52, 3) := by decide +kernel
theorem dX0_joinTeams_8 : decode cX0_joinTeams 8 = .ok (.ifCond .eq 19, 3) := by decide +kernel
theorem dX0_joinTeams_11 : decode cX0_joinTeams 11 = .ok (.aload_n 0, 1) := by decide +kernel
theorem dX0_joinTeams_12 : decode cX0_joinTeams 12 = .ok (.getfield 25, 3) := by decide +kernel
theorem dX0_joinTeams_15 : decode cX0_joinTeams 15 = .ok (.iload_n 2, 1) := by decide +kernel
theorem dX0_joinTeams_16 : decode cX0_joinTeams 16 = .ok (.invokevirtual 52, 3) := by decide +kernel
theorem dX0_joinTeams_19 : decode cX0_joinTeams 19 = .ok (.ifCond .eq 8, 3) := by decide +kernel
theorem dX0_joinTeams_22 : decode cX0_joinTeams 22 = .ok (.iload_n 1, 1) := by decide +kernel
theorem dX0_joinTeams_23 : decode cX0_joinTeams 23 = .ok (.iload_n 2, 1) := by decide +kernel
theorem dX0_joinTeams_24 : decode cX0_joinTeams 24 = .ok (.if_icmp .ne 5, 3) := by decide +kernel
theorem dX0_joinTeams_27 : decode cX0_joinTeams 27 = .ok (.iconst (-1), 1) := by decide +kernel
theorem dX0_joinTeams_28 : decode cX0_joinTeams 28 = .ok (.ireturn, 1) := by decide +kernel
theorem dX0_joinTeams_29 : decode cX0_joinTeams 29 = .ok (.aload_n 0, 1) := by decide +kernel
theorem dX0_joinTeams_30 : decode cX0_joinTeams 30 = .ok (.getfield 25, 3) := by decide +kernel
theorem dX0_joinTeams_33 : decode cX0_joinTeams 33 = .ok (.iload_n 2, 1) := by decide +kernel
theorem dX0_joinTeams_34 : decode cX0_joinTeams 34 = .ok (.iconst 0, 1) := by decide +kernel
theorem dX0_joinTeams_35 : decode cX0_joinTeams 35 = .ok (.invokevirtual 56, 3) := by decide +kernel
theorem dX0_joinTeams_38 : decode cX0_joinTeams 38 = .ok (.istore_n 3, 1) := by decide +kernel
theorem dX0_joinTeams_39 : decode cX0_joinTeams 39 = .ok (.aload_n 0, 1) := by decide +kernel
theorem dX0_joinTeams_40 : decode cX0_joinTeams 40 = .ok (.getfield 9, 3) := by decide +kernel
theorem dX0_joinTeams_43 : decode cX0_joinTeams 43 = .ok (.iload_n 1, 1) := by decide +kernel
theorem dX0_joinTeams_44 : decode cX0_joinTeams 44 = .ok (.invokevirtual 89, 3) := by decide +kernel
theorem dX0_joinTeams_47 : decode cX0_joinTeams 47 = .ok (.ifCond .eq 27, 3) := by decide +kernel
theorem dX0_joinTeams_50 : decode cX0_joinTeams 50 = .ok (.aload_n 0, 1) := by decide +kernel
theorem dX0_joinTeams_51 : decode cX0_joinTeams 51 = .ok (.getfield 9, 3) := by decide +kernel
theorem dX0_joinTeams_54 : decode cX0_joinTeams 54 = .ok (.iload_n 2, 1) := by decide +kernel
theorem dX0_joinTeams_55 : decode cX0_joinTeams 55 = .ok (.invokevirtual 89, 3) := by decide +kernel
theorem dX0_joinTeams_58 : decode cX0_joinTeams 58 = .ok (.ifCond .eq 16, 3) := by decide +kernel
theorem dX0_joinTeams_61 : decode cX0_joinTeams 61 = .ok (.aload_n 0, 1) := by decide +kernel
theorem dX0_joinTeams_62 : decode cX0_joinTeams 62 = .ok (.getfield 25, 3) := by decide +kernel
theorem dX0_joinTeams_65 : decode cX0_joinTeams 65 = .ok (.iload_n 1, 1) := by decide +kernel
theorem dX0_joinTeams_66 : decode cX0_joinTeams 66 = .ok (.iconst 0, 1) := by decide +kernel
theorem dX0_joinTeams_67 : decode cX0_joinTeams 67 = .ok (.invokevirtual 56, 3) := by decide +kernel
theorem dX0_joinTeams_70 : decode cX0_joinTeams 70 = .ok (.iload_n 3, 1) := by decide +kernel
theorem dX0_joinTeams_71 : decode cX0_joinTeams 71 = .ok (.if_icmp .eq 6, 3) := by decide +kernel
theorem dX0_joinTeams_74 : decode cX0_joinTeams 74 = .ok (.bipush (-2), 2) := by decide +kernel
theorem dX0_joinTeams_76 : decode cX0_joinTeams 76 = .ok (.ireturn, 1) := by decide +kernel
theorem dX0_joinTeams_77 : decode cX0_joinTeams 77 = .ok (.aload_n 0, 1) := by decide +kernel
theorem dX0_joinTeams_78 : decode cX0_joinTeams 78 = .ok (.getfield 25, 3) := by decide +kernel
theorem dX0_joinTeams_81 : decode cX0_joinTeams 81 = .ok (.iload_n 1, 1) := by decide +kernel
theorem dX0_joinTeams_82 : decode cX0_joinTeams 82 = .ok (.iconst 2, 1) := by decide +kernel
theorem dX0_joinTeams_83 : decode cX0_joinTeams 83 = .ok (.invokevirtual 56, 3) := by decide +kernel
theorem dX0_joinTeams_86 : decode cX0_joinTeams 86 = .ok (.aload_n 0, 1) := by decide +kernel
theorem dX0_joinTeams_87 : decode cX0_joinTeams 87 = .ok (.getfield 25, 3) := by decide +kernel
theorem dX0_joinTeams_90 : decode cX0_joinTeams 90 = .ok (.iload_n 2, 1) := by decide +kernel
theorem dX0_joinTeams_91 : decode cX0_joinTeams 91 = .ok (.iconst 2, 1) := by decide +kernel
theorem dX0_joinTeams_92 : decode cX0_joinTeams 92 = .ok (.invokevirtual 56, 3) := by decide +kernel
theorem dX0_joinTeams_95 : decode cX0_joinTeams 95 = .ok (.iadd, 1) := by decide +kernel
theorem dX0_joinTeams_96 : decode cX0_joinTeams 96 = .ok (.istore 4, 2) := by decide +kernel
theorem dX0_joinTeams_98 : decode cX0_joinTeams 98 = .ok (.iload 4, 2) := by decide +kernel
theorem dX0_joinTeams_100 : decode cX0_joinTeams 100 = .ok (.aload_n 0, 1) := by decide +kernel
theorem dX0_joinTeams_101 : decode cX0_joinTeams 101 = .ok (.getfield 21, 3) := by decide +kernel
theorem dX0_joinTeams_104 : decode cX0_joinTeams 104 = .ok (.iload_n 3, 1) := by decide +kernel
theorem dX0_joinTeams_105 : decode cX0_joinTeams 105 = .ok (.iconst 3, 1) := by decide +kernel
theorem dX0_joinTeams_106 : decode cX0_joinTeams 106 = .ok (.invokevirtual 56, 3) := by decide +kernel
theorem dX0_joinTeams_109 : decode cX0_joinTeams 109 = .ok (.if_icmp .le 6, 3) := by decide +kernel
theorem dX0_joinTeams_112 : decode cX0_joinTeams 112 = .ok (.bipush (-3), 2) := by decide +kernel
theorem dX0_joinTeams_114 : decode cX0_joinTeams 114 = .ok (.ireturn, 1) := by decide +kernel
theorem dX0_joinTeams_115 : decode cX0_joinTeams 115 = .ok (.aload_n 0, 1) := by decide +kernel
theorem dX0_joinTeams_116 : decode cX0_joinTeams 116 = .ok (.iload_n 1, 1) := by decide +kernel
theorem dX0_joinTeams_117 : decode cX0_joinTeams 117 = .ok (.iload_n 2, 1) := by decide +kernel
theorem dX0_joinTeams_118 : decode cX0_joinTeams 118 = .ok (.iconst 2, 1) := by decide +kernel
theorem dX0_joinTeams_119 : decode cX0_joinTeams 119 = .ok (.invokevirtual 108, 3) := by decide +kernel
theorem dX0_joinTeams_122 : decode cX0_joinTeams 122 = .ok (.aload_n 0, 1) := by decide +kernel
theorem dX0_joinTeams_123 : decode cX0_joinTeams 123 = .ok (.iload_n 1, 1) := by decide +kernel
theorem dX0_joinTeams_124 : decode cX0_joinTeams 124 = .ok (.iload_n 2, 1) := by decide +kernel
theorem dX0_joinTeams_125 : decode cX0_joinTeams 125 = .ok (.iconst 4, 1) := by decide +kernel
theorem dX0_joinTeams_126 : decode cX0_joinTeams 126 = .ok (.invokevirtual 108, 3) := by decide +kernel
theorem dX0_joinTeams_129 : decode cX0_joinTeams 129 = .ok (.aload_n 0, 1) := by decide +kernel
theorem dX0_joinTeams_130 : decode cX0_joinTeams 130 = .ok (.iload_n 1, 1) := by decide +kernel
theorem dX0_joinTeams_131 : decode cX0_joinTeams 131 = .ok (.iload_n 2, 1) := by decide +kernel
theorem dX0_joinTeams_132 : decode cX0_joinTeams 132 = .ok (.iconst 5, 1) := by decide +kernel
theorem dX0_joinTeams_133 : decode cX0_joinTeams 133 = .ok (.invokevirtual 108, 3) := by decide +kernel
theorem dX0_joinTeams_136 : decode cX0_joinTeams 136 = .ok (.aload_n 0, 1) := by decide +kernel
theorem dX0_joinTeams_137 : decode cX0_joinTeams 137 = .ok (.iload_n 1, 1) := by decide +kernel
theorem dX0_joinTeams_138 : decode cX0_joinTeams 138 = .ok (.iload_n 2, 1) := by decide +kernel
theorem dX0_joinTeams_139 : decode cX0_joinTeams 139 = .ok (.invokevirtual 111, 3) := by decide +kernel
theorem dX0_joinTeams_142 : decode cX0_joinTeams 142 = .ok (.aload_n 0, 1) := by decide +kernel
theorem dX0_joinTeams_143 : decode cX0_joinTeams 143 = .ok (.getfield 25, 3) := by decide +kernel
theorem dX0_joinTeams_146 : decode cX0_joinTeams 146 = .ok (.iload_n 1, 1) := by decide +kernel
theorem dX0_joinTeams_147 : decode cX0_joinTeams 147 = .ok (.iconst 3, 1) := by decide +kernel
theorem dX0_joinTeams_148 : decode cX0_joinTeams 148 = .ok (.iconst 3, 1) := by decide +kernel
theorem dX0_joinTeams_149 : decode cX0_joinTeams 149 = .ok (.invokevirtual 48, 3) := by decide +kernel
theorem dX0_joinTeams_152 : decode cX0_joinTeams 152 = .ok (.iload 4, 2) := by decide +kernel
theorem dX0_joinTeams_154 : decode cX0_joinTeams 154 = .ok (.ireturn, 1) := by decide +kernel
theorem dX0_handOver_0 : decode cX0_handOver 0 = .ok (.aload_n 0, 1) := by decide +kernel
theorem dX0_handOver_1 : decode cX0_handOver 1 = .ok (.getfield 25, 3) := by decide +kernel
theorem dX0_handOver_4 : decode cX0_handOver 4 = .ok (.iload_n 2, 1) := by decide +kernel
theorem dX0_handOver_5 : decode cX0_handOver 5 = .ok (.iload_n 3, 1) := by decide +kernel
theorem dX0_handOver_6 : decode cX0_handOver 6 = .ok (.aload_n 0, 1) := by decide +kernel
theorem dX0_handOver_7 : decode cX0_handOver 7 = .ok (.getfield 25, 3) := by decide +kernel
theorem dX0_handOver_10 : decode cX0_handOver 10 = .ok (.iload_n 1, 1) := by decide +kernel
theorem dX0_handOver_11 : decode cX0_handOver 11 = .ok (.iload_n 3, 1) := by decide +kernel
theorem dX0_handOver_12 : decode cX0_handOver 12 = .ok (.invokevirtual 56, 3) := by decide +kernel
theorem dX0_handOver_15 : decode cX0_handOver 15 = .ok (.invokevirtual 86, 3) := by decide +kernel
theorem dX0_handOver_18 : decode cX0_handOver 18 = .ok (.aload_n 0, 1) := by decide +kernel
theorem dX0_handOver_19 : decode cX0_handOver 19 = .ok (.getfield 25, 3) := by decide +kernel
theorem dX0_handOver_22 : decode cX0_handOver 22 = .ok (.iload_n 1, 1) := by decide +kernel
theorem dX0_handOver_23 : decode cX0_handOver 23 = .ok (.iload_n 3, 1) := by decide +kernel
theorem dX0_handOver_24 : decode cX0_handOver 24 = .ok (.iconst 0, 1) := by decide +kernel
theorem dX0_handOver_25 : decode cX0_handOver 25 = .ok (.invokevirtual 48, 3) := by decide +kernel
theorem dX0_handOver_28 : decode cX0_handOver 28 = .ok (.return_, 1) := by decide +kernel
theorem dX0_handOverPayments_0 : decode cX0_handOverPayments 0 = .ok (.aload_n 0, 1) := by decide +kernel
theorem dX0_handOverPayments_1 : decode cX0_handOverPayments 1 = .ok (.getfield 9, 3) := by decide +kernel
theorem dX0_handOverPayments_4 : decode cX0_handOverPayments 4 = .ok (.iload_n 2, 1) := by decide +kernel
theorem dX0_handOverPayments_5 : decode cX0_handOverPayments 5 = .ok (.invokevirtual 114, 3) := by decide +kernel
theorem dX0_handOverPayments_8 : decode cX0_handOverPayments 8 = .ok (.istore_n 3, 1) := by decide +kernel
theorem dX0_handOverPayments_9 : decode cX0_handOverPayments 9 = .ok (.iconst 0, 1) := by decide +kernel
theorem dX0_handOverPayments_10 : decode cX0_handOverPayments 10 = .ok (.istore 4, 2) := by decide +kernel
theorem dX0_handOverPayments_12 : decode cX0_handOverPayments 12 = .ok (.iload 4, 2) := by decide +kernel
theorem dX0_handOverPayments_14 : decode cX0_handOverPayments 14 = .ok (.aload_n 0, 1) := by decide +kernel
theorem dX0_handOverPayments_15 : decode cX0_handOverPayments 15 = .ok (.getfield 33, 3) := by decide +kernel
theorem dX0_handOverPayments_18 : decode cX0_handOverPayments 18 = .ok (.invokevirtual 117, 3) := by decide +kernel
theorem dX0_handOverPayments_21 : decode cX0_handOverPayments 21 = .ok (.if_icmp .ge 45, 3) := by decide +kernel
theorem dX0_handOverPayments_24 : decode cX0_handOverPayments 24 = .ok (.aload_n 0, 1) := by decide +kernel
theorem dX0_handOverPayments_25 : decode cX0_handOverPayments 25 = .ok (.getfield 33, 3) := by decide +kernel
theorem dX0_handOverPayments_28 : decode cX0_handOverPayments 28 = .ok (.iload 4, 2) := by decide +kernel
theorem dX0_handOverPayments_30 : decode cX0_handOverPayments 30 = .ok (.iconst 0, 1) := by decide +kernel
theorem dX0_handOverPayments_31 : decode cX0_handOverPayments 31 = .ok (.invokevirtual 56, 3) := by decide +kernel
theorem dX0_handOverPayments_34 : decode cX0_handOverPayments 34 = .ok (.iload_n 1, 1) := by decide +kernel
theorem dX0_handOverPayments_35 : decode cX0_handOverPayments 35 = .ok (.if_icmp .ne 25, 3) := by decide +kernel
theorem dX0_handOverPayments_38 : decode cX0_handOverPayments 38 = .ok (.aload_n 0, 1) := by decide +kernel
theorem dX0_handOverPayments_39 : decode cX0_handOverPayments 39 = .ok (.getfield 33, 3) := by decide +kernel
theorem dX0_handOverPayments_42 : decode cX0_handOverPayments 42 = .ok (.iload 4, 2) := by decide +kernel
theorem dX0_handOverPayments_44 : decode cX0_handOverPayments 44 = .ok (.iconst 0, 1) := by decide +kernel
theorem dX0_handOverPayments_45 : decode cX0_handOverPayments 45 = .ok (.iload_n 2, 1) := by decide +kernel
theorem dX0_handOverPayments_46 : decode cX0_handOverPayments 46 = .ok (.invokevirtual 48, 3) := by decide +kernel
theorem dX0_handOverPayments_49 : decode cX0_handOverPayments 49 = .ok (.aload_n 0, 1) := by decide +kernel
theorem dX0_handOverPayments_50 : decode cX0_handOverPayments 50 = .ok (.getfield 33, 3) := by decide +kernel
theorem dX0_handOverPayments_53 : decode cX0_handOverPayments 53 = .ok (.iload 4, 2) := by decide +kernel
theorem dX0_handOverPayments_55 : decode cX0_handOverPayments 55 = .ok (.iconst 3, 1) := by decide +kernel
theorem dX0_handOverPayments_56 : decode cX0_handOverPayments 56 = .ok (.iload_n 3, 1) := by decide +kernel
theorem dX0_handOverPayments_57 : decode cX0_handOverPayments 57 = .ok (.invokevirtual 86, 3) := by decide +kernel
theorem dX0_handOverPayments_60 : decode cX0_handOverPayments 60 = .ok (.iinc 4 1, 3) := by decide +kernel
theorem dX0_handOverPayments_63 : decode cX0_handOverPayments 63 = .ok (.goto (-51), 3) := by decide +kernel
theorem dX0_handOverPayments_66 : decode cX0_handOverPayments 66 = .ok (.return_, 1) := by decide +kernel
theorem dX0_letPlay_0 : decode cX0_letPlay 0 = .ok (.aload_n 0, 1) := by decide +kernel
theorem dX0_letPlay_1 : decode cX0_letPlay 1 = .ok (.getfield 25, 3) := by decide +kernel
theorem dX0_letPlay_4 : decode cX0_letPlay 4 = .ok (.iload_n 1, 1) := by decide +kernel
theorem dX0_letPlay_5 : decode cX0_letPlay 5 = .ok (.iconst 0, 1) := by decide +kernel
theorem dX0_letPlay_6 : decode cX0_letPlay 6 = .ok (.invokevirtual 56, 3) := by decide +kernel
theorem dX0_letPlay_9 : decode cX0_letPlay 9 = .ok (.istore 5, 2) := by decide +kernel
theorem dX0_letPlay_11 : decode cX0_letPlay 11 = .ok (.aload_n 0, 1) := by decide +kernel
theorem dX0_letPlay_12 : decode cX0_letPlay 12 = .ok (.getfield 25, 3) := by decide +kernel
theorem dX0_letPlay_15 : decode cX0_letPlay 15 = .ok (.iload_n 1, 1) := by decide +kernel
theorem dX0_letPlay_16 : decode cX0_letPlay 16 = .ok (.invokevirtual 52, 3) := by decide +kernel
theorem dX0_letPlay_19 : decode cX0_letPlay 19 = .ok (.ifCond .eq 42, 3) := by decide +kernel
theorem dX0_letPlay_22 : decode cX0_letPlay 22 = .ok (.iload_n 2, 1) := by decide +kernel
theorem dX0_letPlay_23 : decode cX0_letPlay 23 = .ok (.iconst 0, 1) := by decide +kernel
theorem dX0_letPlay_24 : decode cX0_letPlay 24 = .ok (.aload_n 0, 1) := by decide +kernel
theorem dX0_letPlay_25 : decode cX0_letPlay 25 = .ok (.getfield 21, 3) := by decide +kernel
theorem dX0_letPlay_28 : decode cX0_letPlay 28 = .ok (.iload 5, 2) := by decide +kernel
theorem dX0_letPlay_30 : decode cX0_letPlay 30 = .ok (.iconst 0, 1) := by decide +kernel
theorem dX0_letPlay_31 : decode cX0_letPlay 31 = .ok (.invokevirtual 56, 3) := by decide +kernel
theorem dX0_letPlay_34 : decode cX0_letPlay 34 = .ok (.invokestatic 34, 3) := by decide +kernel
theorem dX0_letPlay_37 : decode cX0_letPlay 37 = .ok (.ifCond .eq 24, 3) := by decide +kernel
theorem dX0_letPlay_40 : decode cX0_letPlay 40 = .ok (.iload_n 3, 1) := by decide +kernel
theorem dX0_letPlay_41 : decode cX0_letPlay 41 = .ok (.iconst 0, 1) := by decide +kernel
theorem dX0_letPlay_42 : decode cX0_letPlay 42 = .ok (.bipush 20, 2) := by decide +kernel
theorem dX0_letPlay_44 : decode cX0_letPlay 44 = .ok (.invokestatic 34, 3) := by decide +kernel
theorem dX0_letPlay_47 : decode cX0_letPlay 47 = .ok (.ifCond .eq 14, 3) := by decide +kernel
theorem dX0_letPlay_50 : decode cX0_letPlay 50 = .ok (.iload 4, 2) := by decide +kernel
theorem dX0_letPlay_52 : decode cX0_letPlay 52 = .ok (.iconst 0, 1) := by decide +kernel
theorem dX0_letPlay_53 : decode cX0_letPlay 53 = .ok (.bipush 9, 2) := by decide +kernel
theorem dX0_letPlay_55 : decode cX0_letPlay 55 = .ok (.invokestatic 34, 3) := by decide +kernel
theorem dX0_letPlay_58 : decode cX0_letPlay 58 = .ok (.ifCond .ne 5, 3) := by decide +kernel
theorem dX0_letPlay_61 : decode cX0_letPlay 61 = .ok (.iconst (-1), 1) := by decide +kernel
theorem dX0_letPlay_62 : decode cX0_letPlay 62 = .ok (.ireturn, 1) := by decide +kernel
theorem dX0_letPlay_63 : decode cX0_letPlay 63 = .ok (.aload_n 0, 1) := by decide +kernel
theorem dX0_letPlay_64 : decode cX0_letPlay 64 = .ok (.getfield 9, 3) := by decide +kernel
theorem dX0_letPlay_67 : decode cX0_letPlay 67 = .ok (.iload_n 1, 1) := by decide +kernel
theorem dX0_letPlay_68 : decode cX0_letPlay 68 = .ok (.invokevirtual 89, 3) := by decide +kernel
theorem dX0_letPlay_71 : decode cX0_letPlay 71 = .ok (.ifCond .eq 17, 3) := by decide +kernel
theorem dX0_letPlay_74 : decode cX0_letPlay 74 = .ok (.aload_n 0, 1) := by decide +kernel
theorem dX0_letPlay_75 : decode cX0_letPlay 75 = .ok (.getfield 9, 3) := by decide +kernel
theorem dX0_letPlay_78 : decode cX0_letPlay 78 = .ok (.iload 5, 2) := by decide +kernel
theorem dX0_letPlay_80 : decode cX0_letPlay 80 = .ok (.iconst (-1), 1) := by decide +kernel
theorem dX0_letPlay_81 : decode cX0_letPlay 81 = .ok (.invokevirtual 120, 3) := by decide +kernel
theorem dX0_letPlay_84 : decode cX0_letPlay 84 = .ok (.iload_n 1, 1) := by decide +kernel
theorem dX0_letPlay_85 : decode cX0_letPlay 85 = .ok (.if_icmp .eq 6, 3) := by decide +kernel
theorem dX0_letPlay_88 : decode cX0_letPlay 88 = .ok (.bipush (-2), 2) := by decide +kernel
theorem dX0_letPlay_90 : decode cX0_letPlay 90 = .ok (.ireturn, 1) := by decide +kernel
theorem dX0_letPlay_91 : decode cX0_letPlay 91 = .ok (.aload_n 0, 1) := by decide +kernel
theorem dX0_letPlay_92 : decode cX0_letPlay 92 = .ok (.getfield 21, 3) := by decide +kernel
theorem dX0_letPlay_95 : decode cX0_letPlay 95 = .ok (.iload 5, 2) := by decide +kernel
theorem dX0_letPlay_97 : decode cX0_letPlay 97 = .ok (.iconst 0, 1) := by decide +kernel
theorem dX0_letPlay_98 : decode cX0_letPlay 98 = .ok (.invokevirtual 56, 3) := by decide +kernel
theorem dX0_letPlay_101 : decode cX0_letPlay 101 = .ok (.istore 6, 2) := by decide +kernel
theorem dX0_letPlay_103 : decode cX0_letPlay 103 = .ok (.iload 6, 2) := by decide +kernel
theorem dX0_letPlay_105 : decode cX0_letPlay 105 = .ok (.aload_n 0, 1) := by decide +kernel
theorem dX0_letPlay_106 : decode cX0_letPlay 106 = .ok (.getfield 9, 3) := by decide +kernel
theorem dX0_letPlay_109 : decode cX0_letPlay 109 = .ok (.iconst 1, 1) := by decide +kernel
theorem dX0_letPlay_110 : decode cX0_letPlay 110 = .ok (.invokevirtual 64, 3) := by decide +kernel
theorem dX0_letPlay_113 : decode cX0_letPlay 113 = .ok (.iadd, 1) := by decide +kernel
theorem dX0_letPlay_114 : decode cX0_letPlay 114 = .ok (.istore 7, 2) := by decide +kernel
theorem dX0_letPlay_116 : decode cX0_letPlay 116 = .ok (.iload_n 2, 1) := by decide +kernel
theorem dX0_letPlay_117 : decode cX0_letPlay 117 = .ok (.iload_n 3, 1) := by decide +kernel
theorem dX0_letPlay_118 : decode cX0_letPlay 118 = .ok (.aload_n 0, 1) := by decide +kernel
theorem dX0_letPlay_119 : decode cX0_letPlay 119 = .ok (.getfield 9, 3) := by decide +kernel
theorem dX0_letPlay_122 : decode cX0_letPlay 122 = .ok (.iconst 0, 1) := by decide +kernel
theorem dX0_letPlay_123 : decode cX0_letPlay 123 = .ok (.invokevirtual 64, 3) := by decide +kernel
theorem dX0_letPlay_126 : decode cX0_letPlay 126 = .ok (.imul, 1) := by decide +kernel
theorem dX0_letPlay_127 : decode cX0_letPlay 127 = .ok (.iadd, 1) := by decide +kernel
theorem dX0_letPlay_128 : decode cX0_letPlay 128 = .ok (.istore 8, 2) := by decide +kernel
theorem dX0_letPlay_130 : decode cX0_letPlay 130 = .ok (.iload_n 2, 1) := by decide +kernel
theorem dX0_letPlay_131 : decode cX0_letPlay 131 = .ok (.ifCond .ne 8, 3) := by decide +kernel
theorem dX0_letPlay_134 : decode cX0_letPlay 134 = .ok (.iload 6, 2) := by decide +kernel
theorem dX0_letPlay_136 : decode cX0_letPlay 136 = .ok (.goto 10, 3) := by decide +kernel
theorem dX0_letPlay_139 : decode cX0_letPlay 139 = .ok (.iload 8, 2) := by decide +kernel
theorem dX0_letPlay_141 : decode cX0_letPlay 141 = .ok (.iload 7, 2) := by decide +kernel
theorem dX0_letPlay_143 : decode cX0_letPlay 143 = .ok (.invokestatic 81, 3) := by decide +kernel
theorem dX0_letPlay_146 : decode cX0_letPlay 146 = .ok (.istore 9, 2) := by decide +kernel
theorem dX0_letPlay_148 : decode cX0_letPlay 148 = .ok (.aload_n 0, 1) := by decide +kernel
theorem dX0_letPlay_149 : decode cX0_letPlay 149 = .ok (.getfield 21, 3) := by decide +kernel
theorem dX0_letPlay_152 : decode cX0_letPlay 152 = .ok (.iload 5, 2) := by decide +kernel
theorem dX0_letPlay_154 : decode cX0_letPlay 154 = .ok (.iconst 5, 1) := by decide +kernel
theorem dX0_letPlay_155 : decode cX0_letPlay 155 = .ok (.iconst 1, 1) := by decide +kernel
theorem dX0_letPlay_156 : decode cX0_letPlay 156 = .ok (.invokevirtual 86, 3) := by decide +kernel
theorem dX0_letPlay_159 : decode cX0_letPlay 159 = .ok (.aload_n 0, 1) := by decide +kernel
theorem dX0_letPlay_160 : decode cX0_letPlay 160 = .ok (.getfield 21, 3) := by decide +kernel
theorem dX0_letPlay_163 : decode cX0_letPlay 163 = .ok (.iload 5, 2) := by decide +kernel
theorem dX0_letPlay_165 : decode cX0_letPlay 165 = .ok (.bipush 6, 2) := by decide +kernel
theorem dX0_letPlay_167 : decode cX0_letPlay 167 = .ok (.iload_n 2, 1) := by decide +kernel
theorem dX0_letPlay_168 : decode cX0_letPlay 168 = .ok (.ifCond .le 14, 3) := by decide +kernel
theorem dX0_letPlay_171 : decode cX0_letPlay 171 = .ok (.iload 8, 2) := by decide +kernel
theorem dX0_letPlay_173 : decode cX0_letPlay 173 = .ok (.iload 7, 2) := by decide +kernel
theorem dX0_letPlay_175 : decode cX0_letPlay 175 = .ok (.if_icmp .gt 7, 3) := by decide +kernel
theorem dX0_letPlay_178 : decode cX0_letPlay 178 = .ok (.iconst 1, 1) := by decide +kernel
theorem dX0_letPlay_179 : decode cX0_letPlay 179 = .ok (.goto 4, 3) := by decide +kernel
theorem dX0_letPlay_182 : decode cX0_letPlay 182 = .ok (.iconst 0, 1) := by decide +kernel
theorem dX0_letPlay_183 : decode cX0_letPlay 183 = .ok (.invokevirtual 86, 3) := by decide +kernel
theorem dX0_letPlay_186 : decode cX0_letPlay 186 = .ok (.aload_n 0, 1) := by decide +kernel
theorem dX0_letPlay_187 : decode cX0_letPlay 187 = .ok (.getfield 21, 3) := by decide +kernel
theorem dX0_letPlay_190 : decode cX0_letPlay 190 = .ok (.iload 5, 2) := by decide +kernel
theorem dX0_letPlay_192 : decode cX0_letPlay 192 = .ok (.bipush 7, 2) := by decide +kernel
theorem dX0_letPlay_194 : decode cX0_letPlay 194 = .ok (.iload_n 3, 1) := by decide +kernel
theorem dX0_letPlay_195 : decode cX0_letPlay 195 = .ok (.invokevirtual 86, 3) := by decide +kernel
theorem dX0_letPlay_198 : decode cX0_letPlay 198 = .ok (.aload_n 0, 1) := by decide +kernel
theorem dX0_letPlay_199 : decode cX0_letPlay 199 = .ok (.getfield 21, 3) := by decide +kernel
theorem dX0_letPlay_202 : decode cX0_letPlay 202 = .ok (.iload 5, 2) := by decide +kernel
theorem dX0_letPlay_204 : decode cX0_letPlay 204 = .ok (.bipush 8, 2) := by decide +kernel
theorem dX0_letPlay_206 : decode cX0_letPlay 206 = .ok (.iload 9, 2) := by decide +kernel
theorem dX0_letPlay_208 : decode cX0_letPlay 208 = .ok (.invokevirtual 86, 3) := by decide +kernel
theorem dX0_letPlay_211 : decode cX0_letPlay 211 = .ok (.aload_n 0, 1) := by decide +kernel
theorem dX0_letPlay_212 : decode cX0_letPlay 212 = .ok (.getfield 21, 3) := by decide +kernel
theorem dX0_letPlay_215 : decode cX0_letPlay 215 = .ok (.iload 5, 2) := by decide +kernel
theorem dX0_letPlay_217 : decode cX0_letPlay 217 = .ok (.bipush 10, 2) := by decide +kernel
theorem dX0_letPlay_219 : decode cX0_letPlay 219 = .ok (.iload_n 2, 1) := by decide +kernel
theorem dX0_letPlay_220 : decode cX0_letPlay 220 = .ok (.ifCond .le 14, 3) := by decide +kernel
theorem dX0_letPlay_223 : decode cX0_letPlay 223 = .ok (.iload 8, 2) := by decide +kernel
theorem dX0_letPlay_225 : decode cX0_letPlay 225 = .ok (.iload 6, 2) := by decide +kernel
theorem dX0_letPlay_227 : decode cX0_letPlay 227 = .ok (.if_icmp .le 7, 3) := by decide +kernel
theorem dX0_letPlay_230 : decode cX0_letPlay 230 = .ok (.iconst 1, 1) := by decide +kernel
theorem dX0_letPlay_231 : decode cX0_letPlay 231 = .ok (.goto 4, 3) := by decide +kernel
theorem dX0_letPlay_234 : decode cX0_letPlay 234 = .ok (.iconst 0, 1) := by decide +kernel
theorem dX0_letPlay_235 : decode cX0_letPlay 235 = .ok (.invokevirtual 86, 3) := by decide +kernel
theorem dX0_letPlay_238 : decode cX0_letPlay 238 = .ok (.aload_n 0, 1) := by decide +kernel
theorem dX0_letPlay_239 : decode cX0_letPlay 239 = .ok (.iload_n 1, 1) := by decide +kernel
theorem dX0_letPlay_240 : decode cX0_letPlay 240 = .ok (.iload 9, 2) := by decide +kernel
theorem dX0_letPlay_242 : decode cX0_letPlay 242 = .ok (.iload 4, 2) := by decide +kernel
theorem dX0_letPlay_244 : decode cX0_letPlay 244 = .ok (.invokevirtual 123, 3) := by decide +kernel
theorem dX0_letPlay_247 : decode cX0_letPlay 247 = .ok (.istore 10, 2) := by decide +kernel
theorem dX0_letPlay_249 : decode cX0_letPlay 249 = .ok (.aload_n 0, 1) := by decide +kernel
theorem dX0_letPlay_250 : decode cX0_letPlay 250 = .ok (.iload_n 1, 1) := by decide +kernel
theorem dX0_letPlay_251 : decode cX0_letPlay 251 = .ok (.aload_n 0, 1) := by decide +kernel
theorem dX0_letPlay_252 : decode cX0_letPlay 252 = .ok (.getfield 9, 3) := by decide +kernel
theorem dX0_letPlay_255 : decode cX0_letPlay 255 = .ok (.iload_n 1, 1) := by decide +kernel
theorem dX0_letPlay_256 : decode cX0_letPlay 256 = .ok (.iload 10, 2) := by decide +kernel
theorem dX0_letPlay_258 : decode cX0_letPlay 258 = .ok (.invokevirtual 127, 3) := by decide +kernel
theorem dX0_letPlay_261 : decode cX0_letPlay 261 = .ok (.invokevirtual 98, 3) := by decide +kernel
theorem dX0_letPlay_264 : decode cX0_letPlay 264 = .ok (.iload 9, 2) := by decide +kernel
theorem dX0_letPlay_266 : decode cX0_letPlay 266 = .ok (.ireturn, 1) := by decide +kernel
theorem dX0_occupy_0 : decode cX0_occupy 0 = .ok (.aload_n 0, 1) := by decide +kernel
theorem dX0_occupy_1 : decode cX0_occupy 1 = .ok (.getfield 25, 3) := by decide +kernel
theorem dX0_occupy_4 : decode cX0_occupy 4 = .ok (.iload_n 1, 1) := by decide +kernel
theorem dX0_occupy_5 : decode cX0_occupy 5 = .ok (.iconst 0, 1) := by decide +kernel
theorem dX0_occupy_6 : decode cX0_occupy 6 = .ok (.invokevirtual 56, 3) := by decide +kernel
theorem dX0_occupy_9 : decode cX0_occupy 9 = .ok (.istore 4, 2) := by decide +kernel
theorem dX0_occupy_11 : decode cX0_occupy 11 = .ok (.aload_n 0, 1) := by decide +kernel
theorem dX0_occupy_12 : decode cX0_occupy 12 = .ok (.getfield 25, 3) := by decide +kernel
theorem dX0_occupy_15 : decode cX0_occupy 15 = .ok (.iload_n 1, 1) := by decide +kernel
theorem dX0_occupy_16 : decode cX0_occupy 16 = .ok (.iconst 1, 1) := by decide +kernel
theorem dX0_occupy_17 : decode cX0_occupy 17 = .ok (.invokevirtual 56, 3) := by decide +kernel
theorem dX0_occupy_20 : decode cX0_occupy 20 = .ok (.istore 5, 2) := by decide +kernel
theorem dX0_occupy_22 : decode cX0_occupy 22 = .ok (.iload 5, 2) := by decide +kernel
theorem dX0_occupy_24 : decode cX0_occupy 24 = .ok (.aload_n 0, 1) := by decide +kernel
theorem dX0_occupy_25 : decode cX0_occupy 25 = .ok (.getfield 21, 3) := by decide +kernel
theorem dX0_occupy_28 : decode cX0_occupy 28 = .ok (.iload 4, 2) := by decide +kernel
theorem dX0_occupy_30 : decode cX0_occupy 30 = .ok (.iconst 4, 1) := by decide +kernel
theorem dX0_occupy_31 : decode cX0_occupy 31 = .ok (.invokevirtual 56, 3) := by decide +kernel
theorem dX0_occupy_34 : decode cX0_occupy 34 = .ok (.invokestatic 130, 3) := by decide +kernel
theorem dX0_occupy_37 : decode cX0_occupy 37 = .ok (.istore 6, 2) := by decide +kernel
theorem dX0_occupy_39 : decode cX0_occupy 39 = .ok (.iload 6, 2) := by decide +kernel
theorem dX0_occupy_41 : decode cX0_occupy 41 = .ok (.iload 5, 2) := by decide +kernel
theorem dX0_occupy_43 : decode cX0_occupy 43 = .ok (.isub, 1) := by decide +kernel
theorem dX0_occupy_44 : decode cX0_occupy 44 = .ok (.istore 7, 2) := by decide +kernel
theorem dX0_occupy_46 : decode cX0_occupy 46 = .ok (.aload_n 0, 1) := by decide +kernel
theorem dX0_occupy_47 : decode cX0_occupy 47 = .ok (.getfield 21, 3) := by decide +kernel
theorem dX0_occupy_50 : decode cX0_occupy 50 = .ok (.iload 4, 2) := by decide +kernel
theorem dX0_occupy_52 : decode cX0_occupy 52 = .ok (.iconst 1, 1) := by decide +kernel
theorem dX0_occupy_53 : decode cX0_occupy 53 = .ok (.invokevirtual 56, 3) := by decide +kernel
theorem dX0_occupy_56 : decode cX0_occupy 56 = .ok (.iload_n 3, 1) := by decide +kernel
theorem dX0_occupy_57 : decode cX0_occupy 57 = .ok (.aload_n 0, 1) := by decide +kernel
theorem dX0_occupy_58 : decode cX0_occupy 58 = .ok (.getfield 9, 3) := by decide +kernel
theorem dX0_occupy_61 : decode cX0_occupy 61 = .ok (.iconst 2, 1) := by decide +kernel
theorem dX0_occupy_62 : decode cX0_occupy 62 = .ok (.invokevirtual 64, 3) := by decide +kernel
theorem dX0_occupy_65 : decode cX0_occupy 65 = .ok (.imul, 1) := by decide +kernel
theorem dX0_occupy_66 : decode cX0_occupy 66 = .ok (.iadd, 1) := by decide +kernel
theorem dX0_occupy_67 : decode cX0_occupy 67 = .ok (.istore 8, 2) := by decide +kernel
theorem dX0_occupy_69 : decode cX0_occupy 69 = .ok (.aload_n 0, 1) := by decide +kernel
theorem dX0_occupy_70 : decode cX0_occupy 70 = .ok (.getfield 21, 3) := by decide +kernel
theorem dX0_occupy_73 : decode cX0_occupy 73 = .ok (.iload 4, 2) := by decide +kernel
theorem dX0_occupy_75 : decode cX0_occupy 75 = .ok (.iconst 4, 1) := by decide +kernel
theorem dX0_occupy_76 : decode cX0_occupy 76 = .ok (.iload 6, 2) := by decide +kernel
theorem dX0_occupy_78 : decode cX0_occupy 78 = .ok (.iload_n 2, 1) := by decide +kernel
theorem dX0_occupy_79 : decode cX0_occupy 79 = .ok (.iadd, 1) := by decide +kernel
theorem dX0_occupy_80 : decode cX0_occupy 80 = .ok (.iload 8, 2) := by decide +kernel
theorem dX0_occupy_82 : decode cX0_occupy 82 = .ok (.iadd, 1) := by decide +kernel
theorem dX0_occupy_83 : decode cX0_occupy 83 = .ok (.invokevirtual 48, 3) := by decide +kernel
theorem dX0_occupy_86 : decode cX0_occupy 86 = .ok (.aload_n 0, 1) := by decide +kernel
theorem dX0_occupy_87 : decode cX0_occupy 87 = .ok (.getfield 21, 3) := by decide +kernel
theorem dX0_occupy_90 : decode cX0_occupy 90 = .ok (.iload 4, 2) := by decide +kernel
theorem dX0_occupy_92 : decode cX0_occupy 92 = .ok (.bipush 9, 2) := by decide +kernel
theorem dX0_occupy_94 : decode cX0_occupy 94 = .ok (.iload 7, 2) := by decide +kernel
theorem dX0_occupy_96 : decode cX0_occupy 96 = .ok (.aload_n 0, 1) := by decide +kernel
theorem dX0_occupy_97 : decode cX0_occupy 97 = .ok (.getfield 21, 3) := by decide +kernel
theorem dX0_occupy_100 : decode cX0_occupy 100 = .ok (.iload 4, 2) := by decide +kernel
theorem dX0_occupy_102 : decode cX0_occupy 102 = .ok (.bipush 9, 2) := by decide +kernel
theorem dX0_occupy_104 : decode cX0_occupy 104 = .ok (.invokevirtual 56, 3) := by decide +kernel
theorem dX0_occupy_107 : decode cX0_occupy 107 = .ok (.invokestatic 130, 3) := by decide +kernel
theorem dX0_occupy_110 : decode cX0_occupy 110 = .ok (.invokevirtual 48, 3) := by decide +kernel
theorem dX0_occupy_113 : decode cX0_occupy 113 = .ok (.aload_n 0, 1) := by decide +kernel
theorem dX0_occupy_114 : decode cX0_occupy 114 = .ok (.getfield 25, 3) := by decide +kernel
theorem dX0_occupy_117 : decode cX0_occupy 117 = .ok (.iload_n 1, 1) := by decide +kernel
theorem dX0_occupy_118 : decode cX0_occupy 118 = .ok (.iconst 3, 1) := by decide +kernel
theorem dX0_occupy_119 : decode cX0_occupy 119 = .ok (.iconst 1, 1) := by decide +kernel
theorem dX0_occupy_120 : decode cX0_occupy 120 = .ok (.invokevirtual 48, 3) := by decide +kernel
theorem dX0_occupy_123 : decode cX0_occupy 123 = .ok (.aload_n 0, 1) := by decide +kernel
theorem dX0_occupy_124 : decode cX0_occupy 124 = .ok (.getfield 25, 3) := by decide +kernel
theorem dX0_occupy_127 : decode cX0_occupy 127 = .ok (.iload_n 1, 1) := by decide +kernel
theorem dX0_occupy_128 : decode cX0_occupy 128 = .ok (.bipush 8, 2) := by decide +kernel
theorem dX0_occupy_130 : decode cX0_occupy 130 = .ok (.iload 6, 2) := by decide +kernel
theorem dX0_occupy_132 : decode cX0_occupy 132 = .ok (.invokevirtual 48, 3) := by decide +kernel
theorem dX0_occupy_135 : decode cX0_occupy 135 = .ok (.aload_n 0, 1) := by decide +kernel
theorem dX0_occupy_136 : decode cX0_occupy 136 = .ok (.getfield 25, 3) := by decide +kernel
theorem dX0_occupy_139 : decode cX0_occupy 139 = .ok (.iload_n 1, 1) := by decide +kernel
theorem dX0_occupy_140 : decode cX0_occupy 140 = .ok (.bipush 9, 2) := by decide +kernel
theorem dX0_occupy_142 : decode cX0_occupy 142 = .ok (.iload_n 2, 1) := by decide +kernel
theorem dX0_occupy_143 : decode cX0_occupy 143 = .ok (.invokevirtual 48, 3) := by decide +kernel
theorem dX0_occupy_146 : decode cX0_occupy 146 = .ok (.iload 7, 2) := by decide +kernel
theorem dX0_occupy_148 : decode cX0_occupy 148 = .ok (.ireturn, 1) := by decide +kernel
theorem dX1_init_0 : decode cX1_init 0 = .ok (.aload_n 0, 1) := by decide +kernel
theorem dX1_init_1 : decode cX1_init 1 = .ok (.invokespecial 3, 3) := by decide +kernel
theorem dX1_init_4 : decode cX1_init 4 = .ok (.aload_n 0, 1) := by decide +kernel
theorem dX1_init_5 : decode cX1_init 5 = .ok (.bipush 6, 2) := by decide +kernel
theorem dX1_init_7 : decode cX1_init 7 = .ok (.anewarray 9, 3) := by decide +kernel
theorem dX1_init_10 : decode cX1_init 10 = .ok (.putfield 11, 3) := by decide +kernel
theorem dX1_init_13 : decode cX1_init 13 = .ok (.iconst 0, 1) := by decide +kernel
theorem dX1_init_14 : decode cX1_init 14 = .ok (.istore_n 1, 1) := by decide +kernel
theorem dX1_init_15 : decode cX1_init 15 = .ok (.iload_n 1, 1) := by decide +kernel
theorem dX1_init_16 : decode cX1_init 16 = .ok (.aload_n 0, 1) := by decide +kernel
theorem dX1_init_17 : decode cX1_init 17 = .ok (.getfield 11, 3) := by decide +kernel
theorem dX1_init_20 : decode cX1_init 20 = .ok (.arraylength, 1) := by decide +kernel
theorem dX1_init_21 : decode cX1_init 21 = .ok (.if_icmp .ge 22, 3) := by decide +kernel
theorem dX1_init_24 : decode cX1_init 24 = .ok (.aload_n 0, 1) := by decide +kernel
theorem dX1_init_25 : decode cX1_init 25 = .ok (.getfield 11, 3) := by decide +kernel
theorem dX1_init_28 : decode cX1_init 28 = .ok (.iload_n 1, 1) := by decide +kernel
theorem dX1_init_29 : decode cX1_init 29 = .ok (.new 9, 3) := by decide +kernel
theorem dX1_init_32 : decode cX1_init 32 = .ok (.dup, 1) := by decide +kernel
theorem dX1_init_33 : decode cX1_init 33 = .ok (.invokespecial 17, 3) := by decide +kernel
theorem dX1_init_36 : decode cX1_init 36 = .ok (.aastore, 1) := by decide +kernel
theorem dX1_init_37 : decode cX1_init 37 = .ok (.iinc 1 1, 3) := by decide +kernel
theorem dX1_init_40 : decode cX1_init 40 = .ok (.goto (-25), 3) := by decide +kernel
theorem dX1_init_43 : decode cX1_init 43 = .ok (.return_, 1) := by decide +kernel
theorem dX1_size_0 : decode cX1_size 0 = .ok (.aload_n 0, 1) := by decide +kernel
theorem dX1_size_1 : decode cX1_size 1 = .ok (.getfield 18, 3) := by decide +kernel
theorem dX1_size_4 : decode cX1_size 4 = .ok (.ireturn, 1) := by decide +kernel
theorem dX1_prepare_0 : decode cX1_prepare 0 = .ok (.aload_n 0, 1) := by decide +kernel
theorem dX1_prepare_1 : decode cX1_prepare 1 = .ok (.aload_n 0, 1) := by decide +kernel
theorem dX1_prepare_2 : decode cX1_prepare 2 = .ok (.getfield 18, 3) := by decide +kernel
theorem dX1_prepare_5 : decode cX1_prepare 5 = .ok (.invokevirtual 22, 3) := by decide +kernel
theorem dX1_prepare_8 : decode cX1_prepare 8 = .ok (.astore_n 2, 1) := by decide +kernel
theorem dX1_prepare_9 : decode cX1_prepare 9 = .ok (.aload_n 2, 1) := by decide +kernel
theorem dX1_prepare_10 : decode cX1_prepare 10 = .ok (.ifnull 8, 3) := by decide +kernel
theorem dX1_prepare_13 : decode cX1_prepare 13 = .ok (.aload_n 2, 1) := by decide +kernel
theorem dX1_prepare_14 : decode cX1_prepare 14 = .ok (.aload_n 1, 1) := by decide +kernel
theorem dX1_prepare_15 : decode cX1_prepare 15 = .ok (.invokevirtual 26, 3) := by decide +kernel
theorem dX1_prepare_18 : decode cX1_prepare 18 = .ok (.return_, 1) := by decide +kernel
theorem dX1_giveBack_0 : decode cX1_giveBack 0 = .ok (.aload_n 0, 1) := by decide +kernel
theorem dX1_giveBack_1 : decode cX1_giveBack 1 = .ok (.aload_n 0, 1) := by decide +kernel
theorem dX1_giveBack_2 : decode cX1_giveBack 2 = .ok (.getfield 18, 3) := by decide +kernel
theorem dX1_giveBack_5 : decode cX1_giveBack 5 = .ok (.invokevirtual 22, 3) := by decide +kernel
theorem dX1_giveBack_8 : decode cX1_giveBack 8 = .ok (.astore_n 2, 1) := by decide +kernel
theorem dX1_giveBack_9 : decode cX1_giveBack 9 = .ok (.aload_n 2, 1) := by decide +kernel
theorem dX1_giveBack_10 : decode cX1_giveBack 10 = .ok (.ifnull 8, 3) := by decide +kernel
theorem dX1_giveBack_13 : decode cX1_giveBack 13 = .ok (.aload_n 1, 1) := by decide +kernel
theorem dX1_giveBack_14 : decode cX1_giveBack 14 = .ok (.aload_n 2, 1) := by decide +kernel
theorem dX1_giveBack_15 : decode cX1_giveBack 15 = .ok (.invokevirtual 26, 3) := by decide +kernel
theorem dX1_giveBack_18 : decode cX1_giveBack 18 = .ok (.return_, 1) := by decide +kernel
theorem dX1_settle_0 : decode cX1_settle 0 = .ok (.iload_n 1, 1) := by decide +kernel
theorem dX1_settle_1 : decode cX1_settle 1 = .ok (.ifCond .lt 7, 3) := by decide +kernel
theorem dX1_settle_4 : decode cX1_settle 4 = .ok (.aload_n 0, 1) := by decide +kernel
theorem dX1_settle_5 : decode cX1_settle 5 = .ok (.invokevirtual 30, 3) := by decide +kernel
theorem dX1_settle_8 : decode cX1_settle 8 = .ok (.iload_n 1, 1) := by decide +kernel
theorem dX1_settle_9 : decode cX1_settle 9 = .ok (.ireturn, 1) := by decide +kernel
theorem dX1_stepBack_0 : decode cX1_stepBack 0 = .ok (.aload_n 0, 1) := by decide +kernel
theorem dX1_stepBack_1 : decode cX1_stepBack 1 = .ok (.getfield 18, 3) := by decide +kernel
theorem dX1_stepBack_4 : decode cX1_stepBack 4 = .ok (.ifCond .gt 6, 3) := by decide +kernel
theorem dX1_stepBack_7 : decode cX1_stepBack 7 = .ok (.bipush (-2), 2) := by decide +kernel
theorem dX1_stepBack_9 : decode cX1_stepBack 9 = .ok (.ireturn, 1) := by decide +kernel
theorem dX1_stepBack_10 : decode cX1_stepBack 10 = .ok (.aload_n 0, 1) := by decide +kernel
theorem dX1_stepBack_11 : decode cX1_stepBack 11 = .ok (.dup, 1) := by decide +kernel
theorem dX1_stepBack_12 : decode cX1_stepBack 12 = .ok (.getfield 18, 3) := by decide +kernel
theorem dX1_stepBack_15 : decode cX1_stepBack 15 = .ok (.iconst 1, 1) := by decide +kernel
theorem dX1_stepBack_16 : decode cX1_stepBack 16 = .ok (.isub, 1) := by decide +kernel
theorem dX1_stepBack_17 : decode cX1_stepBack 17 = .ok (.putfield 18, 3) := by decide +kernel
theorem dX1_stepBack_20 : decode cX1_stepBack 20 = .ok (.aload_n 0, 1) := by decide +kernel
theorem dX1_stepBack_21 : decode cX1_stepBack 21 = .ok (.aload_n 1, 1) := by decide +kernel
theorem dX1_stepBack_22 : decode cX1_stepBack 22 = .ok (.invokevirtual 33, 3) := by decide +kernel
theorem dX1_stepBack_25 : decode cX1_stepBack 25 = .ok (.aload_n 0, 1) := by decide +kernel
theorem dX1_stepBack_26 : decode cX1_stepBack 26 = .ok (.getfield 18, 3) := by decide +kernel
theorem dX1_stepBack_29 : decode cX1_stepBack 29 = .ok (.ireturn, 1) := by decide +kernel
theorem dX1_record_0 : decode cX1_record 0 = .ok (.aload_n 0, 1) := by decide +kernel
theorem dX1_record_1 : decode cX1_record 1 = .ok (.getfield 18, 3) := by decide +kernel
theorem dX1_record_4 : decode cX1_record 4 = .ok (.iconst 5, 1) := by decide +kernel
theorem dX1_record_5 : decode cX1_record 5 = .ok (.if_icmp .ge 14, 3) := by decide +kernel
theorem dX1_record_8 : decode cX1_record 8 = .ok (.aload_n 0, 1) := by decide +kernel
theorem dX1_record_9 : decode cX1_record 9 = .ok (.dup, 1) := by decide +kernel
theorem dX1_record_10 : decode cX1_record 10 = .ok (.getfield 18, 3) := by decide +kernel
theorem dX1_record_13 : decode cX1_record 13 = .ok (.iconst 1, 1) := by decide +kernel
theorem dX1_record_14 : decode cX1_record 14 = .ok (.iadd, 1) := by decide +kernel
theorem dX1_record_15 : decode cX1_record 15 = .ok (.putfield 18, 3) := by decide +kernel
theorem dX1_record_18 : decode cX1_record 18 = .ok (.return_, 1) := by decide +kernel
theorem dX1_record_19 : decode cX1_record 19 = .ok (.aload_n 0, 1) := by decide +kernel
theorem dX1_record_20 : decode cX1_record 20 = .ok (.iconst 0, 1) := by decide +kernel
theorem dX1_record_21 : decode cX1_record 21 = .ok (.invokevirtual 22, 3) := by decide +kernel
theorem dX1_record_24 : decode cX1_record 24 = .ok (.astore_n 1, 1) := by decide +kernel
theorem dX1_record_25 : decode cX1_record 25 = .ok (.iconst 1, 1) := by decide +kernel
theorem dX1_record_26 : decode cX1_record 26 = .ok (.istore_n 2, 1) := by decide +kernel
theorem dX1_record_27 : decode cX1_record 27 = .ok (.iload_n 2, 1) := by decide +kernel
theorem dX1_record_28 : decode cX1_record 28 = .ok (.aload_n 0, 1) := by decide +kernel
theorem dX1_record_29 : decode cX1_record 29 = .ok (.getfield 11, 3) := by decide +kernel
theorem dX1_record_32 : decode cX1_record 32 = .ok (.arraylength, 1) := by decide +kernel
theorem dX1_record_33 : decode cX1_record 33 = .ok (.if_icmp .ge 23, 3) := by decide +kernel
theorem dX1_record_36 : decode cX1_record 36 = .ok (.aload_n 0, 1) := by decide +kernel
theorem dX1_record_37 : decode cX1_record 37 = .ok (.getfield 11, 3) := by decide +kernel
theorem dX1_record_40 : decode cX1_record 40 = .ok (.iload_n 2, 1) := by decide +kernel
theorem dX1_record_41 : decode cX1_record 41 = .ok (.iconst 1, 1) := by decide +kernel
theorem dX1_record_42 : decode cX1_record 42 = .ok (.isub, 1) := by decide +kernel
theorem dX1_record_43 : decode cX1_record 43 = .ok (.aload_n 0, 1) := by decide +kernel
theorem dX1_record_44 : decode cX1_record 44 = .ok (.getfield 11, 3) := by decide +kernel
theorem dX1_record_47 : decode cX1_record 47 = .ok (.iload_n 2, 1) := by decide +kernel
theorem dX1_record_48 : decode cX1_record 48 = .ok (.aaload, 1) := by decide +kernel
theorem dX1_record_49 : decode cX1_record 49 = .ok (.aastore, 1) := by decide +kernel
theorem dX1_record_50 : decode cX1_record 50 = .ok (.iinc 2 1, 3) := by decide +kernel
theorem dX1_record_53 : decode cX1_record 53 = .ok (.goto (-26), 3) := by decide +kernel
theorem dX1_record_56 : decode cX1_record 56 = .ok (.aload_n 0, 1) := by decide +kernel
theorem dX1_record_57 : decode cX1_record 57 = .ok (.getfield 11, 3) := by decide +kernel
theorem dX1_record_60 : decode cX1_record 60 = .ok (.arraylength, 1) := by decide +kernel
theorem dX1_record_61 : decode cX1_record 61 = .ok (.ifCond .le 16, 3) := by decide +kernel
theorem dX1_record_64 : decode cX1_record 64 = .ok (.aload_n 0, 1) := by decide +kernel
theorem dX1_record_65 : decode cX1_record 65 = .ok (.getfield 11, 3) := by decide +kernel
theorem dX1_record_68 : decode cX1_record 68 = .ok (.aload_n 0, 1) := by decide +kernel
theorem dX1_record_69 : decode cX1_record 69 = .ok (.getfield 11, 3) := by decide +kernel
theorem dX1_record_72 : decode cX1_record 72 = .ok (.arraylength, 1) := by decide +kernel
theorem dX1_record_73 : decode cX1_record 73 = .ok (.iconst 1, 1) := by decide +kernel
theorem dX1_record_74 : decode cX1_record 74 = .ok (.isub, 1) := by decide +kernel
theorem dX1_record_75 : decode cX1_record 75 = .ok (.aload_n 1, 1) := by decide +kernel
theorem dX1_record_76 : decode cX1_record 76 = .ok (.aastore, 1) := by decide +kernel
theorem dX1_record_77 : decode cX1_record 77 = .ok (.return_, 1) := by decide +kernel
theorem dX1_stateAt_0 : decode cX1_stateAt 0 = .ok (.iload_n 1, 1) := by decide +kernel
theorem dX1_stateAt_1 : decode cX1_stateAt 1 = .ok (.ifCond .lt 21, 3) := by decide +kernel
theorem dX1_stateAt_4 : decode cX1_stateAt 4 = .ok (.iload_n 1, 1) := by decide +kernel
theorem dX1_stateAt_5 : decode cX1_stateAt 5 = .ok (.aload_n 0, 1) := by decide +kernel
theorem dX1_stateAt_6 : decode cX1_stateAt 6 = .ok (.getfield 11, 3) := by decide +kernel
theorem dX1_stateAt_9 : decode cX1_stateAt 9 = .ok (.arraylength, 1) := by decide +kernel
theorem dX1_stateAt_10 : decode cX1_stateAt 10 = .ok (.if_icmp .ge 12, 3) := by decide +kernel
theorem dX1_stateAt_13 : decode cX1_stateAt 13 = .ok (.aload_n 0, 1) := by decide +kernel
theorem dX1_stateAt_14 : decode cX1_stateAt 14 = .ok (.getfield 11, 3) := by decide +kernel
theorem dX1_stateAt_17 : decode cX1_stateAt 17 = .ok (.iload_n 1, 1) := by decide +kernel
theorem dX1_stateAt_18 : decode cX1_stateAt 18 = .ok (.aaload, 1) := by decide +kernel
theorem dX1_stateAt_19 : decode cX1_stateAt 19 = .ok (.goto 4, 3) := by decide +kernel
theorem dX1_stateAt_22 : decode cX1_stateAt 22 = .ok (.aconst_null, 1) := by decide +kernel
theorem dX1_stateAt_23 : decode cX1_stateAt 23 = .ok (.areturn, 1) := by decide +kernel
theorem dX2_init_0 : decode cX2_init 0 = .ok (.aload_n 0, 1) := by decide +kernel
theorem dX2_init_1 : decode cX2_init 1 = .ok (.invokespecial 3, 3) := by decide +kernel
theorem dX2_init_4 : decode cX2_init 4 = .ok (.aload_n 0, 1) := by decide +kernel
theorem dX2_init_5 : decode cX2_init 5 = .ok (.aload_n 1, 1) := by decide +kernel
theorem dX2_init_6 : decode cX2_init 6 = .ok (.putfield 9, 3) := by decide +kernel
theorem dX2_init_9 : decode cX2_init 9 = .ok (.aload_n 0, 1) := by decide +kernel
theorem dX2_init_10 : decode cX2_init 10 = .ok (.aload_n 1, 1) := by decide +kernel
theorem dX2_init_11 : decode cX2_init 11 = .ok (.getfield 15, 3) := by decide +kernel
theorem dX2_init_14 : decode cX2_init 14 = .ok (.putfield 21, 3) := by decide +kernel
theorem dX2_init_17 : decode cX2_init 17 = .ok (.aload_n 0, 1) := by decide +kernel
theorem dX2_init_18 : decode cX2_init 18 = .ok (.aload_n 1, 1) := by decide +kernel
theorem dX2_init_19 : decode cX2_init 19 = .ok (.getfield 22, 3) := by decide +kernel
theorem dX2_init_22 : decode cX2_init 22 = .ok (.putfield 25, 3) := by decide +kernel
theorem dX2_init_25 : decode cX2_init 25 = .ok (.return_, 1) := by decide +kernel
theorem dX2_partOfForecast_0 : decode cX2_partOfForecast 0 = .ok (.aload_n 0, 1) := by decide +kernel
theorem dX2_partOfForecast_1 : decode cX2_partOfForecast 1 = .ok (.getfield 25, 3) := by decide +kernel
theorem dX2_partOfForecast_4 : decode cX2_partOfForecast 4 = .ok (.iload_n 1, 1) := by decide +kernel
theorem dX2_partOfForecast_5 : decode cX2_partOfForecast 5 = .ok (.invokevirtual 26, 3) := by decide +kernel
theorem dX2_partOfForecast_8 : decode cX2_partOfForecast 8 = .ok (.ifCond .eq 12, 3) := by decide +kernel
theorem dX2_partOfForecast_11 : decode cX2_partOfForecast 11 = .ok (.iload_n 2, 1) := by decide +kernel
theorem dX2_partOfForecast_12 : decode cX2_partOfForecast 12 = .ok (.iconst 0, 1) := by decide +kernel
theorem dX2_partOfForecast_13 : decode cX2_partOfForecast 13 = .ok (.iconst 2, 1) := by decide +kernel
theorem dX2_partOfForecast_14 : decode cX2_partOfForecast 14 = .ok (.invokestatic 32, 3) := by decide +kernel
theorem dX2_partOfForecast_17 : decode cX2_partOfForecast 17 = .ok (.ifCond .ne 5, 3) := by decide +kernel
theorem dX2_partOfForecast_20 : decode cX2_partOfForecast 20 = .ok (.iconst (-1), 1) := by decide +kernel
theorem dX2_partOfForecast_21 : decode cX2_partOfForecast 21 = .ok (.ireturn, 1) := by decide +kernel
theorem dX2_partOfForecast_22 : decode cX2_partOfForecast 22 = .ok (.aload_n 0, 1) := by decide +kernel
theorem dX2_partOfForecast_23 : decode cX2_partOfForecast 23 = .ok (.getfield 9, 3) := by decide +kernel
theorem dX2_partOfForecast_26 : decode cX2_partOfForecast 26 = .ok (.iload_n 1, 1) := by decide +kernel
theorem dX2_partOfForecast_27 : decode cX2_partOfForecast 27 = .ok (.invokevirtual 36, 3) := by decide +kernel
theorem dX2_partOfForecast_30 : decode cX2_partOfForecast 30 = .ok (.ifCond .ne 6, 3) := by decide +kernel
theorem dX2_partOfForecast_33 : decode cX2_partOfForecast 33 = .ok (.bipush (-9), 2) := by decide +kernel
theorem dX2_partOfForecast_35 : decode cX2_partOfForecast 35 = .ok (.ireturn, 1) := by decide +kernel
theorem dX2_partOfForecast_36 : decode cX2_partOfForecast 36 = .ok (.aload_n 0, 1) := by decide +kernel
theorem dX2_partOfForecast_37 : decode cX2_partOfForecast 37 = .ok (.getfield 9, 3) := by decide +kernel
theorem dX2_partOfForecast_40 : decode cX2_partOfForecast 40 = .ok (.iload_n 1, 1) := by decide +kernel
theorem dX2_partOfForecast_41 : decode cX2_partOfForecast 41 = .ok (.invokevirtual 39, 3) := by decide +kernel
theorem dX2_partOfForecast_44 : decode cX2_partOfForecast 44 = .ok (.istore_n 3, 1) := by decide +kernel
theorem dX2_partOfForecast_45 : decode cX2_partOfForecast 45 = .ok (.iload_n 3, 1) := by decide +kernel
theorem dX2_partOfForecast_46 : decode cX2_partOfForecast 46 = .ok (.aload_n 0, 1) := by decide +kernel
theorem dX2_partOfForecast_47 : decode cX2_partOfForecast 47 = .ok (.getfield 25, 3) := by decide +kernel
theorem dX2_partOfForecast_50 : decode cX2_partOfForecast 50 = .ok (.iload_n 1, 1) := by decide +kernel
theorem dX2_partOfForecast_51 : decode cX2_partOfForecast 51 = .ok (.iconst 1, 1) := by decide +kernel
theorem dX2_partOfForecast_52 : decode cX2_partOfForecast 52 = .ok (.invokevirtual 43, 3) := by decide +kernel
theorem dX2_partOfForecast_55 : decode cX2_partOfForecast 55 = .ok (.isub, 1) := by decide +kernel
theorem dX2_partOfForecast_56 : decode cX2_partOfForecast 56 = .ok (.istore 4, 2) := by decide +kernel
theorem dX2_partOfForecast_58 : decode cX2_partOfForecast 58 = .ok (.iload_n 2, 1) := by decide +kernel
theorem dX2_partOfForecast_59 : decode cX2_partOfForecast 59 = .ok (.lookupswitch 30 #[(0, 25), (1, 27)], 25) := by decide +kernel
theorem dX2_partOfForecast_84 : decode cX2_partOfForecast 84 = .ok (.iload_n 3, 1) := by decide +kernel
theorem dX2_partOfForecast_85 : decode cX2_partOfForecast 85 = .ok (.ireturn, 1) := by decide +kernel
theorem dX2_partOfForecast_86 : decode cX2_partOfForecast 86 = .ok (.iload 4, 2) := by decide +kernel
theorem dX2_partOfForecast_88 : decode cX2_partOfForecast 88 = .ok (.ireturn, 1) := by decide +kernel
theorem dX2_partOfForecast_89 : decode cX2_partOfForecast 89 = .ok (.aload_n 0, 1) := by decide +kernel
theorem dX2_partOfForecast_90 : decode cX2_partOfForecast 90 = .ok (.getfield 9, 3) := by decide +kernel
theorem dX2_partOfForecast_93 : decode cX2_partOfForecast 93 = .ok (.iload_n 1, 1) := by decide +kernel
theorem dX2_partOfForecast_94 : decode cX2_partOfForecast 94 = .ok (.iload 4, 2) := by decide +kernel
theorem dX2_partOfForecast_96 : decode cX2_partOfForecast 96 = .ok (.invokevirtual 47, 3) := by decide +kernel
theorem dX2_partOfForecast_99 : decode cX2_partOfForecast 99 = .ok (.ireturn, 1) := by decide +kernel
theorem dX2_earliestTime_0 : decode cX2_earliestTime 0 = .ok (.aload_n 0, 1) := by decide +kernel
theorem dX2_earliestTime_1 : decode cX2_earliestTime 1 = .ok (.getfield 21, 3) := by decide +kernel
theorem dX2_earliestTime_4 : decode cX2_earliestTime 4 = .ok (.iload_n 1, 1) := by decide +kernel
theorem dX2_earliestTime_5 : decode cX2_earliestTime 5 = .ok (.invokevirtual 26, 3) := by decide +kernel
theorem dX2_earliestTime_8 : decode cX2_earliestTime 8 = .ok (.ifCond .eq 14, 3) := by decide +kernel
theorem dX2_earliestTime_11 : decode cX2_earliestTime 11 = .ok (.iload_n 2, 1) := by decide +kernel
theorem dX2_earliestTime_12 : decode cX2_earliestTime 12 = .ok (.iconst 0, 1) := by decide +kernel
theorem dX2_earliestTime_13 : decode cX2_earliestTime 13 = .ok (.sipush 720, 3) := by decide +kernel
theorem dX2_earliestTime_16 : decode cX2_earliestTime 16 = .ok (.invokestatic 32, 3) := by decide +kernel
theorem dX2_earliestTime_19 : decode cX2_earliestTime 19 = .ok (.ifCond .ne 5, 3) := by decide +kernel
theorem dX2_earliestTime_22 : decode cX2_earliestTime 22 = .ok (.iconst (-1), 1) := by decide +kernel
theorem dX2_earliestTime_23 : decode cX2_earliestTime 23 = .ok (.ireturn, 1) := by decide +kernel
theorem dX2_earliestTime_24 : decode cX2_earliestTime 24 = .ok (.iload_n 2, 1) := by decide +kernel
theorem dX2_earliestTime_25 : decode cX2_earliestTime 25 = .ok (.aload_n 0, 1) := by decide +kernel
theorem dX2_earliestTime_26 : decode cX2_earliestTime 26 = .ok (.getfield 9, 3) := by decide +kernel
theorem dX2_earliestTime_29 : decode cX2_earliestTime 29 = .ok (.iload_n 1, 1) := by decide +kernel
theorem dX2_earliestTime_30 : decode cX2_earliestTime 30 = .ok (.invokevirtual 50, 3) := by decide +kernel
theorem dX2_earliestTime_33 : decode cX2_earliestTime 33 = .ok (.invokestatic 53, 3) := by decide +kernel
theorem dX2_earliestTime_36 : decode cX2_earliestTime 36 = .ok (.istore_n 3, 1) := by decide +kernel
theorem dX2_earliestTime_37 : decode cX2_earliestTime 37 = .ok (.aload_n 0, 1) := by decide +kernel
theorem dX2_earliestTime_38 : decode cX2_earliestTime 38 = .ok (.getfield 9, 3) := by decide +kernel
theorem dX2_earliestTime_41 : decode cX2_earliestTime 41 = .ok (.iload_n 1, 1) := by decide +kernel
theorem dX2_earliestTime_42 : decode cX2_earliestTime 42 = .ok (.iload_n 3, 1) := by decide +kernel
theorem dX2_earliestTime_43 : decode cX2_earliestTime 43 = .ok (.bipush (-9), 2) := by decide +kernel
theorem dX2_earliestTime_45 : decode cX2_earliestTime 45 = .ok (.invokevirtual 58, 3) := by decide +kernel
theorem dX2_earliestTime_48 : decode cX2_earliestTime 48 = .ok (.istore 4, 2) := by decide +kernel
theorem dX2_earliestTime_50 : decode cX2_earliestTime 50 = .ok (.iconst 0, 1) := by decide +kernel
theorem dX2_earliestTime_51 : decode cX2_earliestTime 51 = .ok (.istore 5, 2) := by decide +kernel
theorem dX2_earliestTime_53 : decode cX2_earliestTime 53 = .ok (.iload 5, 2) := by decide +kernel
theorem dX2_earliestTime_55 : decode cX2_earliestTime 55 = .ok (.bipush 16, 2) := by decide +kernel
theorem dX2_earliestTime_57 : decode cX2_earliestTime 57 = .ok (.if_icmp .ge 49, 3) := by decide +kernel
theorem dX2_earliestTime_60 : decode cX2_earliestTime 60 = .ok (.iload 4, 2) := by decide +kernel
theorem dX2_earliestTime_62 : decode cX2_earliestTime 62 = .ok (.bipush (-9), 2) := by decide +kernel
theorem dX2_earliestTime_64 : decode cX2_earliestTime 64 = .ok (.if_icmp .eq 42, 3) := by decide +kernel
theorem dX2_earliestTime_67 : decode cX2_earliestTime 67 = .ok (.aload_n 0, 1) := by decide +kernel
theorem dX2_earliestTime_68 : decode cX2_earliestTime 68 = .ok (.getfield 25, 3) := by decide +kernel
theorem dX2_earliestTime_71 : decode cX2_earliestTime 71 = .ok (.iload 4, 2) := by decide +kernel
theorem dX2_earliestTime_73 : decode cX2_earliestTime 73 = .ok (.iconst 1, 1) := by decide +kernel
theorem dX2_earliestTime_74 : decode cX2_earliestTime 74 = .ok (.invokevirtual 43, 3) := by decide +kernel
theorem dX2_earliestTime_77 : decode cX2_earliestTime 77 = .ok (.aload_n 0, 1) := by decide +kernel
theorem dX2_earliestTime_78 : decode cX2_earliestTime 78 = .ok (.getfield 9, 3) := by decide +kernel
theorem dX2_earliestTime_81 : decode cX2_earliestTime 81 = .ok (.iload_n 1, 1) := by decide +kernel
theorem dX2_earliestTime_82 : decode cX2_earliestTime 82 = .ok (.invokevirtual 62, 3) := by decide +kernel
theorem dX2_earliestTime_85 : decode cX2_earliestTime 85 = .ok (.iadd, 1) := by decide +kernel
theorem dX2_earliestTime_86 : decode cX2_earliestTime 86 = .ok (.istore_n 3, 1) := by decide +kernel
theorem dX2_earliestTime_87 : decode cX2_earliestTime 87 = .ok (.aload_n 0, 1) := by decide +kernel
theorem dX2_earliestTime_88 : decode cX2_earliestTime 88 = .ok (.getfield 9, 3) := by decide +kernel
theorem dX2_earliestTime_91 : decode cX2_earliestTime 91 = .ok (.iload_n 1, 1) := by decide +kernel
theorem dX2_earliestTime_92 : decode cX2_earliestTime 92 = .ok (.iload_n 3, 1) := by decide +kernel
theorem dX2_earliestTime_93 : decode cX2_earliestTime 93 = .ok (.bipush (-9), 2) := by decide +kernel
theorem dX2_earliestTime_95 : decode cX2_earliestTime 95 = .ok (.invokevirtual 58, 3) := by decide +kernel
theorem dX2_earliestTime_98 : decode cX2_earliestTime 98 = .ok (.istore 4, 2) := by decide +kernel
theorem dX2_earliestTime_100 : decode cX2_earliestTime 100 = .ok (.iinc 5 1, 3) := by decide +kernel
theorem dX2_earliestTime_103 : decode cX2_earliestTime 103 = .ok (.goto (-50), 3) := by decide +kernel
theorem dX2_earliestTime_106 : decode cX2_earliestTime 106 = .ok (.iload_n 3, 1) := by decide +kernel
theorem dX2_earliestTime_107 : decode cX2_earliestTime 107 = .ok (.sipush 720, 3) := by decide +kernel
theorem dX2_earliestTime_110 : decode cX2_earliestTime 110 = .ok (.if_icmp .gt 7, 3) := by decide +kernel
theorem dX2_earliestTime_113 : decode cX2_earliestTime 113 = .ok (.iload_n 3, 1) := by decide +kernel
theorem dX2_earliestTime_114 : decode cX2_earliestTime 114 = .ok (.goto 5, 3) := by decide +kernel
theorem dX2_earliestTime_117 : decode cX2_earliestTime 117 = .ok (.bipush (-9), 2) := by decide +kernel
theorem dX2_earliestTime_119 : decode cX2_earliestTime 119 = .ok (.ireturn, 1) := by decide +kernel
theorem dX2_largestPair_0 : decode cX2_largestPair 0 = .ok (.aload_n 0, 1) := by decide +kernel
theorem dX2_largestPair_1 : decode cX2_largestPair 1 = .ok (.getfield 21, 3) := by decide +kernel
theorem dX2_largestPair_4 : decode cX2_largestPair 4 = .ok (.iload_n 1, 1) := by decide +kernel
theorem dX2_largestPair_5 : decode cX2_largestPair 5 = .ok (.invokevirtual 26, 3) := by decide +kernel
theorem dX2_largestPair_8 : decode cX2_largestPair 8 = .ok (.ifCond .eq 12, 3) := by decide +kernel
theorem dX2_largestPair_11 : decode cX2_largestPair 11 = .ok (.iload_n 2, 1) := by decide +kernel
theorem dX2_largestPair_12 : decode cX2_largestPair 12 = .ok (.iconst 0, 1) := by decide +kernel
theorem dX2_largestPair_13 : decode cX2_largestPair 13 = .ok (.iconst 2, 1) := by decide +kernel
theorem dX2_largestPair_14 : decode cX2_largestPair 14 = .ok (.invokestatic 32, 3) := by decide +kernel
theorem dX2_largestPair_17 : decode cX2_largestPair 17 = .ok (.ifCond .ne 5, 3) := by decide +kernel
theorem dX2_largestPair_20 : decode cX2_largestPair 20 = .ok (.iconst (-1), 1) := by decide +kernel
theorem dX2_largestPair_21 : decode cX2_largestPair 21 = .ok (.ireturn, 1) := by decide +kernel
theorem dX2_largestPair_22 : decode cX2_largestPair 22 = .ok (.bipush (-9), 2) := by decide +kernel
theorem dX2_largestPair_24 : decode cX2_largestPair 24 = .ok (.istore_n 3, 1) := by decide +kernel
theorem dX2_largestPair_25 : decode cX2_largestPair 25 = .ok (.bipush (-9), 2) := by decide +kernel
theorem dX2_largestPair_27 : decode cX2_largestPair 27 = .ok (.istore 4, 2) := by decide +kernel
theorem dX2_largestPair_29 : decode cX2_largestPair 29 = .ok (.bipush (-9), 2) := by decide +kernel
theorem dX2_largestPair_31 : decode cX2_largestPair 31 = .ok (.istore 5, 2) := by decide +kernel
theorem dX2_largestPair_33 : decode cX2_largestPair 33 = .ok (.iconst 0, 1) := by decide +kernel
theorem dX2_largestPair_34 : decode cX2_largestPair 34 = .ok (.istore 6, 2) := by decide +kernel
theorem dX2_largestPair_36 : decode cX2_largestPair 36 = .ok (.iload 6, 2) := by decide +kernel
theorem dX2_largestPair_38 : decode cX2_largestPair 38 = .ok (.aload_n 0, 1) := by decide +kernel
theorem dX2_largestPair_39 : decode cX2_largestPair 39 = .ok (.getfield 25, 3) := by decide +kernel
theorem dX2_largestPair_42 : decode cX2_largestPair 42 = .ok (.invokevirtual 65, 3) := by decide +kernel
theorem dX2_largestPair_45 : decode cX2_largestPair 45 = .ok (.if_icmp .ge 62, 3) := by decide +kernel
theorem dX2_largestPair_48 : decode cX2_largestPair 48 = .ok (.iload 6, 2) := by decide +kernel
theorem dX2_largestPair_50 : decode cX2_largestPair 50 = .ok (.iconst 1, 1) := by decide +kernel
theorem dX2_largestPair_51 : decode cX2_largestPair 51 = .ok (.iadd, 1) := by decide +kernel
theorem dX2_largestPair_52 : decode cX2_largestPair 52 = .ok (.istore 7, 2) := by decide +kernel
theorem dX2_largestPair_54 : decode cX2_largestPair 54 = .ok (.iload 7, 2) := by decide +kernel
theorem dX2_largestPair_56 : decode cX2_largestPair 56 = .ok (.aload_n 0, 1) := by decide +kernel
theorem dX2_largestPair_57 : decode cX2_largestPair 57 = .ok (.getfield 25, 3) := by decide +kernel
theorem dX2_largestPair_60 : decode cX2_largestPair 60 = .ok (.invokevirtual 65, 3) := by decide +kernel
theorem dX2_largestPair_63 : decode cX2_largestPair 63 = .ok (.if_icmp .ge 38, 3) := by decide +kernel
theorem dX2_largestPair_66 : decode cX2_largestPair 66 = .ok (.aload_n 0, 1) := by decide +kernel
theorem dX2_largestPair_67 : decode cX2_largestPair 67 = .ok (.iload_n 1, 1) := by decide +kernel
theorem dX2_largestPair_68 : decode cX2_largestPair 68 = .ok (.iload 6, 2) := by decide +kernel
theorem dX2_largestPair_70 : decode cX2_largestPair 70 = .ok (.iload 7, 2) := by decide +kernel
theorem dX2_largestPair_72 : decode cX2_largestPair 72 = .ok (.invokevirtual 69, 3) := by decide +kernel
theorem dX2_largestPair_75 : decode cX2_largestPair 75 = .ok (.istore 8, 2) := by decide +kernel
theorem dX2_largestPair_77 : decode cX2_largestPair 77 = .ok (.iload 8, 2) := by decide +kernel
theorem dX2_largestPair_79 : decode cX2_largestPair 79 = .ok (.iload 5, 2) := by decide +kernel
theorem dX2_largestPair_81 : decode cX2_largestPair 81 = .ok (.if_icmp .le 14, 3) := by decide +kernel
theorem dX2_largestPair_84 : decode cX2_largestPair 84 = .ok (.iload 6, 2) := by decide +kernel
theorem dX2_largestPair_86 : decode cX2_largestPair 86 = .ok (.istore_n 3, 1) := by decide +kernel
theorem dX2_largestPair_87 : decode cX2_largestPair 87 = .ok (.iload 7, 2) := by decide +kernel
theorem dX2_largestPair_89 : decode cX2_largestPair 89 = .ok (.istore 4, 2) := by decide +kernel
theorem dX2_largestPair_91 : decode cX2_largestPair 91 = .ok (.iload 8, 2) := by decide +kernel
theorem dX2_largestPair_93 : decode cX2_largestPair 93 = .ok (.istore 5, 2) := by decide +kernel
theorem dX2_largestPair_95 : decode cX2_largestPair 95 = .ok (.iinc 7 1, 3) := by decide +kernel
theorem dX2_largestPair_98 : decode cX2_largestPair 98 = .ok (.goto (-44), 3) := by decide +kernel
theorem dX2_largestPair_101 : decode cX2_largestPair 101 = .ok (.iinc 6 1, 3) := by decide +kernel
theorem dX2_largestPair_104 : decode cX2_largestPair 104 = .ok (.goto (-68), 3) := by decide +kernel
theorem dX2_largestPair_107 : decode cX2_largestPair 107 = .ok (.iload_n 2, 1) := by decide +kernel
theorem dX2_largestPair_108 : decode cX2_largestPair 108 = .ok (.lookupswitch 33 #[(0, 28), (1, 30)], 28) := by decide +kernel
theorem dX2_largestPair_136 : decode cX2_largestPair 136 = .ok (.iload_n 3, 1) := by decide +kernel
theorem dX2_largestPair_137 : decode cX2_largestPair 137 = .ok (.ireturn, 1) := by decide +kernel
theorem dX2_largestPair_138 : decode cX2_largestPair 138 = .ok (.iload 4, 2) := by decide +kernel
theorem dX2_largestPair_140 : decode cX2_largestPair 140 = .ok (.ireturn, 1) := by decide +kernel
theorem dX2_largestPair_141 : decode cX2_largestPair 141 = .ok (.iload 5, 2) := by decide +kernel
theorem dX2_largestPair_143 : decode cX2_largestPair 143 = .ok (.ireturn, 1) := by decide +kernel
theorem dX2_playersTogether_0 : decode cX2_playersTogether 0 = .ok (.aload_n 0, 1) := by decide +kernel
theorem dX2_playersTogether_1 : decode cX2_playersTogether 1 = .ok (.getfield 25, 3) := by decide +kernel
theorem dX2_playersTogether_4 : decode cX2_playersTogether 4 = .ok (.iload_n 2, 1) := by decide +kernel
theorem dX2_playersTogether_5 : decode cX2_playersTogether 5 = .ok (.iconst 0, 1) := by decide +kernel
theorem dX2_playersTogether_6 : decode cX2_playersTogether 6 = .ok (.invokevirtual 43, 3) := by decide +kernel
theorem dX2_playersTogether_9 : decode cX2_playersTogether 9 = .ok (.iload_n 1, 1) := by decide +kernel
theorem dX2_playersTogether_10 : decode cX2_playersTogether 10 = .ok (.if_icmp .ne 38, 3) := by decide +kernel
theorem dX2_playersTogether_13 : decode cX2_playersTogether 13 = .ok (.aload_n 0, 1) := by decide +kernel
theorem dX2_playersTogether_14 : decode cX2_playersTogether 14 = .ok (.getfield 25, 3) := by decide +kernel
theorem dX2_playersTogether_17 : decode cX2_playersTogether 17 = .ok (.iload_n 3, 1) := by decide +kernel
theorem dX2_playersTogether_18 : decode cX2_playersTogether 18 = .ok (.iconst 0, 1) := by decide +kernel
theorem dX2_playersTogether_19 : decode cX2_playersTogether 19 = .ok (.invokevirtual 43, 3) := by decide +kernel
theorem dX2_playersTogether_22 : decode cX2_playersTogether 22 = .ok (.iload_n 1, 1) := by decide +kernel
theorem dX2_playersTogether_23 : decode cX2_playersTogether 23 = .ok (.if_icmp .ne 25, 3) := by decide +kernel
theorem dX2_playersTogether_26 : decode cX2_playersTogether 26 = .ok (.aload_n 0, 1) := by decide +kernel
theorem dX2_playersTogether_27 : decode cX2_playersTogether 27 = .ok (.getfield 9, 3) := by decide +kernel
theorem dX2_playersTogether_30 : decode cX2_playersTogether 30 = .ok (.iload_n 2, 1) := by decide +kernel
theorem dX2_playersTogether_31 : decode cX2_playersTogether 31 = .ok (.invokevirtual 36, 3) := by decide +kernel
theorem dX2_playersTogether_34 : decode cX2_playersTogether 34 = .ok (.ifCond .eq 14, 3) := by decide +kernel
theorem dX2_playersTogether_37 : decode cX2_playersTogether 37 = .ok (.aload_n 0, 1) := by decide +kernel
theorem dX2_playersTogether_38 : decode cX2_playersTogether 38 = .ok (.getfield 9, 3) := by decide +kernel
theorem dX2_playersTogether_41 : decode cX2_playersTogether 41 = .ok (.iload_n 3, 1) := by decide +kernel
theorem dX2_playersTogether_42 : decode cX2_playersTogether 42 = .ok (.invokevirtual 36, 3) := by decide +kernel
theorem dX2_playersTogether_45 : decode cX2_playersTogether 45 = .ok (.ifCond .ne 6, 3) := by decide +kernel
theorem dX2_playersTogether_48 : decode cX2_playersTogether 48 = .ok (.bipush (-9), 2) := by decide +kernel
theorem dX2_playersTogether_50 : decode cX2_playersTogether 50 = .ok (.ireturn, 1) := by decide +kernel
theorem dX2_playersTogether_51 : decode cX2_playersTogether 51 = .ok (.aload_n 0, 1) := by decide +kernel
theorem dX2_playersTogether_52 : decode cX2_playersTogether 52 = .ok (.getfield 25, 3) := by decide +kernel
theorem dX2_playersTogether_55 : decode cX2_playersTogether 55 = .ok (.iload_n 2, 1) := by decide +kernel
theorem dX2_playersTogether_56 : decode cX2_playersTogether 56 = .ok (.iconst 2, 1) := by decide +kernel
theorem dX2_playersTogether_57 : decode cX2_playersTogether 57 = .ok (.invokevirtual 43, 3) := by decide +kernel
theorem dX2_playersTogether_60 : decode cX2_playersTogether 60 = .ok (.aload_n 0, 1) := by decide +kernel
theorem dX2_playersTogether_61 : decode cX2_playersTogether 61 = .ok (.getfield 25, 3) := by decide +kernel
theorem dX2_playersTogether_64 : decode cX2_playersTogether 64 = .ok (.iload_n 3, 1) := by decide +kernel
theorem dX2_playersTogether_65 : decode cX2_playersTogether 65 = .ok (.iconst 2, 1) := by decide +kernel
theorem dX2_playersTogether_66 : decode cX2_playersTogether 66 = .ok (.invokevirtual 43, 3) := by decide +kernel
theorem dX2_playersTogether_69 : decode cX2_playersTogether 69 = .ok (.iadd, 1) := by decide +kernel
theorem dX2_playersTogether_70 : decode cX2_playersTogether 70 = .ok (.istore 4, 2) := by decide +kernel
theorem dX2_playersTogether_72 : decode cX2_playersTogether 72 = .ok (.iload 4, 2) := by decide +kernel
theorem dX2_playersTogether_74 : decode cX2_playersTogether 74 = .ok (.aload_n 0, 1) := by decide +kernel
theorem dX2_playersTogether_75 : decode cX2_playersTogether 75 = .ok (.getfield 21, 3) := by decide +kernel
theorem dX2_playersTogether_78 : decode cX2_playersTogether 78 = .ok (.iload_n 1, 1) := by decide +kernel
theorem dX2_playersTogether_79 : decode cX2_playersTogether 79 = .ok (.iconst 3, 1) := by decide +kernel
theorem dX2_playersTogether_80 : decode cX2_playersTogether 80 = .ok (.invokevirtual 43, 3) := by decide +kernel
theorem dX2_playersTogether_83 : decode cX2_playersTogether 83 = .ok (.if_icmp .gt 8, 3) := by decide +kernel
theorem dX2_playersTogether_86 : decode cX2_playersTogether 86 = .ok (.iload 4, 2) := by decide +kernel
theorem dX2_playersTogether_88 : decode cX2_playersTogether 88 = .ok (.goto 5, 3) := by decide +kernel
theorem dX2_playersTogether_91 : decode cX2_playersTogether 91 = .ok (.bipush (-9), 2) := by decide +kernel
theorem dX2_playersTogether_93 : decode cX2_playersTogether 93 = .ok (.ireturn, 1) := by decide +kernel
theorem dX2_delayLeft_0 : decode cX2_delayLeft 0 = .ok (.aload_n 0, 1) := by decide +kernel
theorem dX2_delayLeft_1 : decode cX2_delayLeft 1 = .ok (.getfield 21, 3) := by decide +kernel
theorem dX2_delayLeft_4 : decode cX2_delayLeft 4 = .ok (.iload_n 1, 1) := by decide +kernel
theorem dX2_delayLeft_5 : decode cX2_delayLeft 5 = .ok (.invokevirtual 26, 3) := by decide +kernel
theorem dX2_delayLeft_8 : decode cX2_delayLeft 8 = .ok (.ifCond .ne 5, 3) := by decide +kernel
theorem dX2_delayLeft_11 : decode cX2_delayLeft 11 = .ok (.iconst (-1), 1) := by decide +kernel
theorem dX2_delayLeft_12 : decode cX2_delayLeft 12 = .ok (.ireturn, 1) := by decide +kernel
theorem dX2_delayLeft_13 : decode cX2_delayLeft 13 = .ok (.aload_n 0, 1) := by decide +kernel
theorem dX2_delayLeft_14 : decode cX2_delayLeft 14 = .ok (.getfield 9, 3) := by decide +kernel
theorem dX2_delayLeft_17 : decode cX2_delayLeft 17 = .ok (.iload_n 1, 1) := by decide +kernel
theorem dX2_delayLeft_18 : decode cX2_delayLeft 18 = .ok (.iconst (-1), 1) := by decide +kernel
theorem dX2_delayLeft_19 : decode cX2_delayLeft 19 = .ok (.invokevirtual 72, 3) := by decide +kernel
theorem dX2_delayLeft_22 : decode cX2_delayLeft 22 = .ok (.istore_n 2, 1) := by decide +kernel
theorem dX2_delayLeft_23 : decode cX2_delayLeft 23 = .ok (.iload_n 2, 1) := by decide +kernel
theorem dX2_delayLeft_24 : decode cX2_delayLeft 24 = .ok (.bipush (-9), 2) := by decide +kernel
theorem dX2_delayLeft_26 : decode cX2_delayLeft 26 = .ok (.if_icmp .ne 6, 3) := by decide +kernel
theorem dX2_delayLeft_29 : decode cX2_delayLeft 29 = .ok (.bipush (-9), 2) := by decide +kernel
theorem dX2_delayLeft_31 : decode cX2_delayLeft 31 = .ok (.ireturn, 1) := by decide +kernel
theorem dX2_delayLeft_32 : decode cX2_delayLeft 32 = .ok (.aload_n 0, 1) := by decide +kernel
theorem dX2_delayLeft_33 : decode cX2_delayLeft 33 = .ok (.getfield 25, 3) := by decide +kernel
theorem dX2_delayLeft_36 : decode cX2_delayLeft 36 = .ok (.iload_n 2, 1) := by decide +kernel
theorem dX2_delayLeft_37 : decode cX2_delayLeft 37 = .ok (.iconst 1, 1) := by decide +kernel
theorem dX2_delayLeft_38 : decode cX2_delayLeft 38 = .ok (.invokevirtual 43, 3) := by decide +kernel
theorem dX2_delayLeft_41 : decode cX2_delayLeft 41 = .ok (.aload_n 0, 1) := by decide +kernel
theorem dX2_delayLeft_42 : decode cX2_delayLeft 42 = .ok (.getfield 9, 3) := by decide +kernel
theorem dX2_delayLeft_45 : decode cX2_delayLeft 45 = .ok (.iconst 3, 1) := by decide +kernel
theorem dX2_delayLeft_46 : decode cX2_delayLeft 46 = .ok (.invokevirtual 75, 3) := by decide +kernel
theorem dX2_delayLeft_49 : decode cX2_delayLeft 49 = .ok (.iadd, 1) := by decide +kernel
theorem dX2_delayLeft_50 : decode cX2_delayLeft 50 = .ok (.istore_n 3, 1) := by decide +kernel
theorem dX2_delayLeft_51 : decode cX2_delayLeft 51 = .ok (.iload_n 3, 1) := by decide +kernel
theorem dX2_delayLeft_52 : decode cX2_delayLeft 52 = .ok (.aload_n 0, 1) := by decide +kernel
theorem dX2_delayLeft_53 : decode cX2_delayLeft 53 = .ok (.getfield 21, 3) := by decide +kernel
theorem dX2_delayLeft_56 : decode cX2_delayLeft 56 = .ok (.iload_n 1, 1) := by decide +kernel
theorem dX2_delayLeft_57 : decode cX2_delayLeft 57 = .ok (.iconst 4, 1) := by decide +kernel
theorem dX2_delayLeft_58 : decode cX2_delayLeft 58 = .ok (.invokevirtual 43, 3) := by decide +kernel
theorem dX2_delayLeft_61 : decode cX2_delayLeft 61 = .ok (.isub, 1) := by decide +kernel
theorem dX2_delayLeft_62 : decode cX2_delayLeft 62 = .ok (.istore 4, 2) := by decide +kernel
theorem dX2_delayLeft_64 : decode cX2_delayLeft 64 = .ok (.iload 4, 2) := by decide +kernel
theorem dX2_delayLeft_66 : decode cX2_delayLeft 66 = .ok (.ifCond .lt 14, 3) := by decide +kernel
theorem dX2_delayLeft_69 : decode cX2_delayLeft 69 = .ok (.iload 4, 2) := by decide +kernel
theorem dX2_delayLeft_71 : decode cX2_delayLeft 71 = .ok (.sipush 999, 3) := by decide +kernel
theorem dX2_delayLeft_74 : decode cX2_delayLeft 74 = .ok (.invokestatic 78, 3) := by decide +kernel
theorem dX2_delayLeft_77 : decode cX2_delayLeft 77 = .ok (.goto 5, 3) := by decide +kernel
theorem dX2_delayLeft_80 : decode cX2_delayLeft 80 = .ok (.bipush (-9), 2) := by decide +kernel
theorem dX2_delayLeft_82 : decode cX2_delayLeft 82 = .ok (.ireturn, 1) := by decide +kernel
theorem dX2_hintsLeft_0 : decode cX2_hintsLeft 0 = .ok (.aload_n 0, 1) := by decide +kernel
theorem dX2_hintsLeft_1 : decode cX2_hintsLeft 1 = .ok (.getfield 21, 3) := by decide +kernel
theorem dX2_hintsLeft_4 : decode cX2_hintsLeft 4 = .ok (.aload_n 0, 1) := by decide +kernel
theorem dX2_hintsLeft_5 : decode cX2_hintsLeft 5 = .ok (.getfield 25, 3) := by decide +kernel
theorem dX2_hintsLeft_8 : decode cX2_hintsLeft 8 = .ok (.iload_n 1, 1) := by decide +kernel
theorem dX2_hintsLeft_9 : decode cX2_hintsLeft 9 = .ok (.iconst 0, 1) := by decide +kernel
theorem dX2_hintsLeft_10 : decode cX2_hintsLeft 10 = .ok (.invokevirtual 43, 3) := by decide +kernel
theorem dX2_hintsLeft_13 : decode cX2_hintsLeft 13 = .ok (.iconst 0, 1) := by decide +kernel
theorem dX2_hintsLeft_14 : decode cX2_hintsLeft 14 = .ok (.invokevirtual 43, 3) := by decide +kernel
theorem dX2_hintsLeft_17 : decode cX2_hintsLeft 17 = .ok (.istore_n 3, 1) := by decide +kernel
theorem dX2_hintsLeft_18 : decode cX2_hintsLeft 18 = .ok (.aload_n 0, 1) := by decide +kernel
theorem dX2_hintsLeft_19 : decode cX2_hintsLeft 19 = .ok (.getfield 25, 3) := by decide +kernel
theorem dX2_hintsLeft_22 : decode cX2_hintsLeft 22 = .ok (.iload_n 1, 1) := by decide +kernel
theorem dX2_hintsLeft_23 : decode cX2_hintsLeft 23 = .ok (.invokevirtual 26, 3) := by decide +kernel
theorem dX2_hintsLeft_26 : decode cX2_hintsLeft 26 = .ok (.ifCond .eq 12, 3) := by decide +kernel
theorem dX2_hintsLeft_29 : decode cX2_hintsLeft 29 = .ok (.iload_n 2, 1) := by decide +kernel
theorem dX2_hintsLeft_30 : decode cX2_hintsLeft 30 = .ok (.iconst 1, 1) := by decide +kernel
theorem dX2_hintsLeft_31 : decode cX2_hintsLeft 31 = .ok (.iload_n 3, 1) := by decide +kernel
theorem dX2_hintsLeft_32 : decode cX2_hintsLeft 32 = .ok (.invokestatic 32, 3) := by decide +kernel
theorem dX2_hintsLeft_35 : decode cX2_hintsLeft 35 = .ok (.ifCond .ne 5, 3) := by decide +kernel
theorem dX2_hintsLeft_38 : decode cX2_hintsLeft 38 = .ok (.iconst (-1), 1) := by decide +kernel
theorem dX2_hintsLeft_39 : decode cX2_hintsLeft 39 = .ok (.ireturn, 1) := by decide +kernel
theorem dX2_hintsLeft_40 : decode cX2_hintsLeft 40 = .ok (.aload_n 0, 1) := by decide +kernel
theorem dX2_hintsLeft_41 : decode cX2_hintsLeft 41 = .ok (.getfield 9, 3) := by decide +kernel
theorem dX2_hintsLeft_44 : decode cX2_hintsLeft 44 = .ok (.iload_n 1, 1) := by decide +kernel
theorem dX2_hintsLeft_45 : decode cX2_hintsLeft 45 = .ok (.invokevirtual 36, 3) := by decide +kernel
theorem dX2_hintsLeft_48 : decode cX2_hintsLeft 48 = .ok (.ifCond .ne 6, 3) := by decide +kernel
theorem dX2_hintsLeft_51 : decode cX2_hintsLeft 51 = .ok (.bipush (-2), 2) := by decide +kernel
theorem dX2_hintsLeft_53 : decode cX2_hintsLeft 53 = .ok (.ireturn, 1) := by decide +kernel
theorem dX2_hintsLeft_54 : decode cX2_hintsLeft 54 = .ok (.aload_n 0, 1) := by decide +kernel
theorem dX2_hintsLeft_55 : decode cX2_hintsLeft 55 = .ok (.getfield 9, 3) := by decide +kernel
theorem dX2_hintsLeft_58 : decode cX2_hintsLeft 58 = .ok (.iconst 0, 1) := by decide +kernel
theorem dX2_hintsLeft_59 : decode cX2_hintsLeft 59 = .ok (.invokevirtual 75, 3) := by decide +kernel
theorem dX2_hintsLeft_62 : decode cX2_hintsLeft 62 = .ok (.istore 4, 2) := by decide +kernel
theorem dX2_hintsLeft_64 : decode cX2_hintsLeft 64 = .ok (.iload 4, 2) := by decide +kernel
theorem dX2_hintsLeft_66 : decode cX2_hintsLeft 66 = .ok (.ifCond .gt 6, 3) := by decide +kernel
theorem dX2_hintsLeft_69 : decode cX2_hintsLeft 69 = .ok (.bipush 20, 2) := by decide +kernel
theorem dX2_hintsLeft_71 : decode cX2_hintsLeft 71 = .ok (.ireturn, 1) := by decide +kernel
theorem dX2_hintsLeft_72 : decode cX2_hintsLeft 72 = .ok (.bipush 20, 2) := by decide +kernel
theorem dX2_hintsLeft_74 : decode cX2_hintsLeft 74 = .ok (.iload_n 3, 1) := by decide +kernel
theorem dX2_hintsLeft_75 : decode cX2_hintsLeft 75 = .ok (.aload_n 0, 1) := by decide +kernel
theorem dX2_hintsLeft_76 : decode cX2_hintsLeft 76 = .ok (.getfield 9, 3) := by decide +kernel
theorem dX2_hintsLeft_79 : decode cX2_hintsLeft 79 = .ok (.iconst 1, 1) := by decide +kernel
theorem dX2_hintsLeft_80 : decode cX2_hintsLeft 80 = .ok (.invokevirtual 75, 3) := by decide +kernel
theorem dX2_hintsLeft_83 : decode cX2_hintsLeft 83 = .ok (.iadd, 1) := by decide +kernel
theorem dX2_hintsLeft_84 : decode cX2_hintsLeft 84 = .ok (.iload_n 2, 1) := by decide +kernel
theorem dX2_hintsLeft_85 : decode cX2_hintsLeft 85 = .ok (.isub, 1) := by decide +kernel
theorem dX2_hintsLeft_86 : decode cX2_hintsLeft 86 = .ok (.iload 4, 2) := by decide +kernel
theorem dX2_hintsLeft_88 : decode cX2_hintsLeft 88 = .ok (.idiv, 1) := by decide +kernel
theorem dX2_hintsLeft_89 : decode cX2_hintsLeft 89 = .ok (.invokestatic 78, 3) := by decide +kernel
theorem dX2_hintsLeft_92 : decode cX2_hintsLeft 92 = .ok (.ireturn, 1) := by decide +kernel
theorem dX2_roomByUse_0 : decode cX2_roomByUse 0 = .ok (.iload_n 1, 1) := by decide +kernel
theorem dX2_roomByUse_1 : decode cX2_roomByUse 1 = .ok (.ifCond .ge 5, 3) := by decide +kernel
theorem dX2_roomByUse_4 : decode cX2_roomByUse 4 = .ok (.iconst (-1), 1) := by decide +kernel
theorem dX2_roomByUse_5 : decode cX2_roomByUse 5 = .ok (.ireturn, 1) := by decide +kernel
theorem dX2_roomByUse_6 : decode cX2_roomByUse 6 = .ok (.iconst 0, 1) := by decide +kernel
theorem dX2_roomByUse_7 : decode cX2_roomByUse 7 = .ok (.istore_n 2, 1) := by decide +kernel
theorem dX2_roomByUse_8 : decode cX2_roomByUse 8 = .ok (.iload_n 2, 1) := by decide +kernel
theorem dX2_roomByUse_9 : decode cX2_roomByUse 9 = .ok (.aload_n 0, 1) := by decide +kernel
theorem dX2_roomByUse_10 : decode cX2_roomByUse 10 = .ok (.getfield 21, 3) := by decide +kernel
theorem dX2_roomByUse_13 : decode cX2_roomByUse 13 = .ok (.invokevirtual 65, 3) := by decide +kernel
theorem dX2_roomByUse_16 : decode cX2_roomByUse 16 = .ok (.if_icmp .ge 20, 3) := by decide +kernel
theorem dX2_roomByUse_19 : decode cX2_roomByUse 19 = .ok (.aload_n 0, 1) := by decide +kernel
theorem dX2_roomByUse_20 : decode cX2_roomByUse 20 = .ok (.iload_n 2, 1) := by decide +kernel
theorem dX2_roomByUse_21 : decode cX2_roomByUse 21 = .ok (.invokevirtual 81, 3) := by decide +kernel
theorem dX2_roomByUse_24 : decode cX2_roomByUse 24 = .ok (.iload_n 1, 1) := by decide +kernel
theorem dX2_roomByUse_25 : decode cX2_roomByUse 25 = .ok (.if_icmp .ne 5, 3) := by decide +kernel
theorem dX2_roomByUse_28 : decode cX2_roomByUse 28 = .ok (.iload_n 2, 1) := by decide +kernel
theorem dX2_roomByUse_29 : decode cX2_roomByUse 29 = .ok (.ireturn, 1) := by decide +kernel
theorem dX2_roomByUse_30 : decode cX2_roomByUse 30 = .ok (.iinc 2 1, 3) := by decide +kernel
theorem dX2_roomByUse_33 : decode cX2_roomByUse 33 = .ok (.goto (-25), 3) := by decide +kernel
theorem dX2_roomByUse_36 : decode cX2_roomByUse 36 = .ok (.bipush (-9), 2) := by decide +kernel
theorem dX2_roomByUse_38 : decode cX2_roomByUse 38 = .ok (.ireturn, 1) := by decide +kernel
theorem dX2_roomsAheadOf_0 : decode cX2_roomsAheadOf 0 = .ok (.aload_n 0, 1) := by decide +kernel
theorem dX2_roomsAheadOf_1 : decode cX2_roomsAheadOf 1 = .ok (.getfield 21, 3) := by decide +kernel
theorem dX2_roomsAheadOf_4 : decode cX2_roomsAheadOf 4 = .ok (.iload_n 1, 1) := by decide +kernel
theorem dX2_roomsAheadOf_5 : decode cX2_roomsAheadOf 5 = .ok (.bipush 8, 2) := by decide +kernel
theorem dX2_roomsAheadOf_7 : decode cX2_roomsAheadOf 7 = .ok (.invokevirtual 43, 3) := by decide +kernel
theorem dX2_roomsAheadOf_10 : decode cX2_roomsAheadOf 10 = .ok (.istore_n 2, 1) := by decide +kernel
theorem dX2_roomsAheadOf_11 : decode cX2_roomsAheadOf 11 = .ok (.iconst 0, 1) := by decide +kernel
theorem dX2_roomsAheadOf_12 : decode cX2_roomsAheadOf 12 = .ok (.istore_n 3, 1) := by decide +kernel
theorem dX2_roomsAheadOf_13 : decode cX2_roomsAheadOf 13 = .ok (.iconst 0, 1) := by decide +kernel
theorem dX2_roomsAheadOf_14 : decode cX2_roomsAheadOf 14 = .ok (.istore 4, 2) := by decide +kernel
theorem dX2_roomsAheadOf_16 : decode cX2_roomsAheadOf 16 = .ok (.iload 4, 2) := by decide +kernel
theorem dX2_roomsAheadOf_18 : decode cX2_roomsAheadOf 18 = .ok (.aload_n 0, 1) := by decide +kernel
theorem dX2_roomsAheadOf_19 : decode cX2_roomsAheadOf 19 = .ok (.getfield 21, 3) := by decide +kernel
theorem dX2_roomsAheadOf_22 : decode cX2_roomsAheadOf 22 = .ok (.invokevirtual 65, 3) := by decide +kernel
theorem dX2_roomsAheadOf_25 : decode cX2_roomsAheadOf 25 = .ok (.if_icmp .ge 43, 3) := by decide +kernel
theorem dX2_roomsAheadOf_28 : decode cX2_roomsAheadOf 28 = .ok (.aload_n 0, 1) := by decide +kernel
theorem dX2_roomsAheadOf_29 : decode cX2_roomsAheadOf 29 = .ok (.getfield 21, 3) := by decide +kernel
theorem dX2_roomsAheadOf_32 : decode cX2_roomsAheadOf 32 = .ok (.iload 4, 2) := by decide +kernel
theorem dX2_roomsAheadOf_34 : decode cX2_roomsAheadOf 34 = .ok (.bipush 8, 2) := by decide +kernel
theorem dX2_roomsAheadOf_36 : decode cX2_roomsAheadOf 36 = .ok (.invokevirtual 43, 3) := by decide +kernel
theorem dX2_roomsAheadOf_39 : decode cX2_roomsAheadOf 39 = .ok (.istore 5, 2) := by decide +kernel
theorem dX2_roomsAheadOf_41 : decode cX2_roomsAheadOf 41 = .ok (.iload 5, 2) := by decide +kernel
theorem dX2_roomsAheadOf_43 : decode cX2_roomsAheadOf 43 = .ok (.iload_n 2, 1) := by decide +kernel
theorem dX2_roomsAheadOf_44 : decode cX2_roomsAheadOf 44 = .ok (.if_icmp .gt 15, 3) := by decide +kernel
theorem dX2_roomsAheadOf_47 : decode cX2_roomsAheadOf 47 = .ok (.iload 5, 2) := by decide +kernel
theorem dX2_roomsAheadOf_49 : decode cX2_roomsAheadOf 49 = .ok (.iload_n 2, 1) := by decide +kernel
theorem dX2_roomsAheadOf_50 : decode cX2_roomsAheadOf 50 = .ok (.if_icmp .ne 12, 3) := by decide +kernel
theorem dX2_roomsAheadOf_53 : decode cX2_roomsAheadOf 53 = .ok (.iload 4, 2) := by decide +kernel
theorem dX2_roomsAheadOf_55 : decode cX2_roomsAheadOf 55 = .ok (.iload_n 1, 1) := by decide +kernel
theorem dX2_roomsAheadOf_56 : decode cX2_roomsAheadOf 56 = .ok (.if_icmp .ge 6, 3) := by decide +kernel
theorem dX2_roomsAheadOf_59 : decode cX2_roomsAheadOf 59 = .ok (.iinc 3 1, 3) := by decide +kernel
theorem dX2_roomsAheadOf_62 : decode cX2_roomsAheadOf 62 = .ok (.iinc 4 1, 3) := by decide +kernel
theorem dX2_roomsAheadOf_65 : decode cX2_roomsAheadOf 65 = .ok (.goto (-49), 3) := by decide +kernel
theorem dX2_roomsAheadOf_68 : decode cX2_roomsAheadOf 68 = .ok (.iload_n 3, 1) := by decide +kernel
theorem dX2_roomsAheadOf_69 : decode cX2_roomsAheadOf 69 = .ok (.ireturn, 1) := by decide +kernel
theorem dX3_init_0 : decode cX3_init 0 = .ok (.aload_n 0, 1) := by decide +kernel
theorem dX3_init_1 : decode cX3_init 1 = .ok (.invokespecial 3, 3) := by decide +kernel
theorem dX3_init_4 : decode cX3_init 4 = .ok (.aload_n 0, 1) := by decide +kernel
theorem dX3_init_5 : decode cX3_init 5 = .ok (.sipush 140, 3) := by decide +kernel
theorem dX3_init_8 : decode cX3_init 8 = .ok (.newarray .int, 2) := by decide +kernel
theorem dX3_init_10 : decode cX3_init 10 = .ok (.putfield 9, 3) := by decide +kernel
theorem dX3_init_13 : decode cX3_init 13 = .ok (.aload_n 0, 1) := by decide +kernel
theorem dX3_init_14 : decode cX3_init 14 = .ok (.iconst 4, 1) := by decide +kernel
theorem dX3_init_15 : decode cX3_init 15 = .ok (.newarray .int, 2) := by decide +kernel
theorem dX3_init_17 : decode cX3_init 17 = .ok (.putfield 15, 3) := by decide +kernel
theorem dX3_init_20 : decode cX3_init 20 = .ok (.return_, 1) := by decide +kernel
theorem dX3_size_0 : decode cX3_size 0 = .ok (.aload_n 0, 1) := by decide +kernel
theorem dX3_size_1 : decode cX3_size 1 = .ok (.getfield 18, 3) := by decide +kernel
theorem dX3_size_4 : decode cX3_size 4 = .ok (.ireturn, 1) := by decide +kernel
theorem dX3_add_0 : decode cX3_add 0 = .ok (.iload_n 1, 1) := by decide +kernel
theorem dX3_add_1 : decode cX3_add 1 = .ok (.iconst 1, 1) := by decide +kernel
theorem dX3_add_2 : decode cX3_add 2 = .ok (.sipush 255, 3) := by decide +kernel
theorem dX3_add_5 : decode cX3_add 5 = .ok (.invokestatic 22, 3) := by decide +kernel
theorem dX3_add_8 : decode cX3_add 8 = .ok (.ifCond .ne 5, 3) := by decide +kernel
theorem dX3_add_11 : decode cX3_add 11 = .ok (.iconst (-1), 1) := by decide +kernel
theorem dX3_add_12 : decode cX3_add 12 = .ok (.ireturn, 1) := by decide +kernel
theorem dX3_add_13 : decode cX3_add 13 = .ok (.aload_n 0, 1) := by decide +kernel
theorem dX3_add_14 : decode cX3_add 14 = .ok (.getfield 18, 3) := by decide +kernel
theorem dX3_add_17 : decode cX3_add 17 = .ok (.ifCond .lt 15, 3) := by decide +kernel
theorem dX3_add_20 : decode cX3_add 20 = .ok (.aload_n 0, 1) := by decide +kernel
theorem dX3_add_21 : decode cX3_add 21 = .ok (.getfield 18, 3) := by decide +kernel
theorem dX3_add_24 : decode cX3_add 24 = .ok (.aload_n 0, 1) := by decide +kernel
theorem dX3_add_25 : decode cX3_add 25 = .ok (.getfield 9, 3) := by decide +kernel
theorem dX3_add_28 : decode cX3_add 28 = .ok (.arraylength, 1) := by decide +kernel
theorem dX3_add_29 : decode cX3_add 29 = .ok (.if_icmp .lt 6, 3) := by decide +kernel
theorem dX3_add_32 : decode cX3_add 32 = .ok (.bipush (-3), 2) := by decide +kernel
theorem dX3_add_34 : decode cX3_add 34 = .ok (.ireturn, 1) := by decide +kernel
theorem dX3_add_35 : decode cX3_add 35 = .ok (.aload_n 0, 1) := by decide +kernel
theorem dX3_add_36 : decode cX3_add 36 = .ok (.getfield 9, 3) := by decide +kernel
theorem dX3_add_39 : decode cX3_add 39 = .ok (.aload_n 0, 1) := by decide +kernel
theorem dX3_add_40 : decode cX3_add 40 = .ok (.getfield 18, 3) := by decide +kernel
theorem dX3_add_43 : decode cX3_add 43 = .ok (.iload_n 1, 1) := by decide +kernel
theorem dX3_add_44 : decode cX3_add 44 = .ok (.iastore, 1) := by decide +kernel
theorem dX3_add_45 : decode cX3_add 45 = .ok (.aload_n 0, 1) := by decide +kernel
theorem dX3_add_46 : decode cX3_add 46 = .ok (.dup, 1) := by decide +kernel
theorem dX3_add_47 : decode cX3_add 47 = .ok (.getfield 18, 3) := by decide +kernel
theorem dX3_add_50 : decode cX3_add 50 = .ok (.iconst 1, 1) := by decide +kernel
theorem dX3_add_51 : decode cX3_add 51 = .ok (.iadd, 1) := by decide +kernel
theorem dX3_add_52 : decode cX3_add 52 = .ok (.putfield 18, 3) := by decide +kernel
theorem dX3_add_55 : decode cX3_add 55 = .ok (.aload_n 0, 1) := by decide +kernel
theorem dX3_add_56 : decode cX3_add 56 = .ok (.getfield 18, 3) := by decide +kernel
theorem dX3_add_59 : decode cX3_add 59 = .ok (.ireturn, 1) := by decide +kernel
theorem dX3_empty_0 : decode cX3_empty 0 = .ok (.aload_n 0, 1) := by decide +kernel
theorem dX3_empty_1 : decode cX3_empty 1 = .ok (.getfield 18, 3) := by decide +kernel
theorem dX3_empty_4 : decode cX3_empty 4 = .ok (.istore_n 1, 1) := by decide +kernel
theorem dX3_empty_5 : decode cX3_empty 5 = .ok (.aload_n 0, 1) := by decide +kernel
theorem dX3_empty_6 : decode cX3_empty 6 = .ok (.iconst 0, 1) := by decide +kernel
theorem dX3_empty_7 : decode cX3_empty 7 = .ok (.putfield 18, 3) := by decide +kernel
theorem dX3_empty_10 : decode cX3_empty 10 = .ok (.iload_n 1, 1) := by decide +kernel
theorem dX3_empty_11 : decode cX3_empty 11 = .ok (.ireturn, 1) := by decide +kernel
theorem dX3_perform_0 : decode cX3_perform 0 = .ok (.aload_n 0, 1) := by decide +kernel
theorem dX3_perform_1 : decode cX3_perform 1 = .ok (.iconst 0, 1) := by decide +kernel
theorem dX3_perform_2 : decode cX3_perform 2 = .ok (.putfield 26, 3) := by decide +kernel
theorem dX3_perform_5 : decode cX3_perform 5 = .ok (.iconst 0, 1) := by decide +kernel
theorem dX3_perform_6 : decode cX3_perform 6 = .ok (.istore_n 2, 1) := by decide +kernel
theorem dX3_perform_7 : decode cX3_perform 7 = .ok (.iload_n 2, 1) := by decide +kernel
theorem dX3_perform_8 : decode cX3_perform 8 = .ok (.sipush 140, 3) := by decide +kernel
theorem dX3_perform_11 : decode cX3_perform 11 = .ok (.if_icmp .gt 93, 3) := by decide +kernel
theorem dX3_perform_14 : decode cX3_perform 14 = .ok (.aload_n 0, 1) := by decide +kernel
theorem dX3_perform_15 : decode cX3_perform 15 = .ok (.invokevirtual 29, 3) := by decide +kernel
theorem dX3_perform_18 : decode cX3_perform 18 = .ok (.aload_n 0, 1) := by decide +kernel
theorem dX3_perform_19 : decode cX3_perform 19 = .ok (.getfield 32, 3) := by decide +kernel
theorem dX3_perform_22 : decode cX3_perform 22 = .ok (.ifCond .ne 5, 3) := by decide +kernel
theorem dX3_perform_25 : decode cX3_perform 25 = .ok (.iload_n 2, 1) := by decide +kernel
theorem dX3_perform_26 : decode cX3_perform 26 = .ok (.ireturn, 1) := by decide +kernel
theorem dX3_perform_27 : decode cX3_perform 27 = .ok (.aload_n 0, 1) := by decide +kernel
theorem dX3_perform_28 : decode cX3_perform 28 = .ok (.getfield 35, 3) := by decide +kernel
theorem dX3_perform_31 : decode cX3_perform 31 = .ok (.istore_n 3, 1) := by decide +kernel
theorem dX3_perform_32 : decode cX3_perform 32 = .ok (.aload_n 0, 1) := by decide +kernel
theorem dX3_perform_33 : decode cX3_perform 33 = .ok (.invokevirtual 38, 3) := by decide +kernel
theorem dX3_perform_36 : decode cX3_perform 36 = .ok (.istore 4, 2) := by decide +kernel
theorem dX3_perform_38 : decode cX3_perform 38 = .ok (.iload 4, 2) := by decide +kernel
theorem dX3_perform_40 : decode cX3_perform 40 = .ok (.iconst (-1), 1) := by decide +kernel
theorem dX3_perform_41 : decode cX3_perform 41 = .ok (.if_icmp .eq 12, 3) := by decide +kernel
theorem dX3_perform_44 : decode cX3_perform 44 = .ok (.aload_n 0, 1) := by decide +kernel
theorem dX3_perform_45 : decode cX3_perform 45 = .ok (.iload 4, 2) := by decide +kernel
theorem dX3_perform_47 : decode cX3_perform 47 = .ok (.invokevirtual 42, 3) := by decide +kernel
theorem dX3_perform_50 : decode cX3_perform 50 = .ok (.ifCond .ne 12, 3) := by decide +kernel
theorem dX3_perform_53 : decode cX3_perform 53 = .ok (.sipush (-1000), 3) := by decide +kernel
theorem dX3_perform_56 : decode cX3_perform 56 = .ok (.aload_n 0, 1) := by decide +kernel
theorem dX3_perform_57 : decode cX3_perform 57 = .ok (.getfield 35, 3) := by decide +kernel
theorem dX3_perform_60 : decode cX3_perform 60 = .ok (.isub, 1) := by decide +kernel
theorem dX3_perform_61 : decode cX3_perform 61 = .ok (.ireturn, 1) := by decide +kernel
theorem dX3_perform_62 : decode cX3_perform 62 = .ok (.aload_n 0, 1) := by decide +kernel
theorem dX3_perform_63 : decode cX3_perform 63 = .ok (.invokevirtual 29, 3) := by decide +kernel
theorem dX3_perform_66 : decode cX3_perform 66 = .ok (.aload_n 0, 1) := by decide +kernel
theorem dX3_perform_67 : decode cX3_perform 67 = .ok (.invokevirtual 46, 3) := by decide +kernel
theorem dX3_perform_70 : decode cX3_perform 70 = .ok (.ifCond .ne 12, 3) := by decide +kernel
theorem dX3_perform_73 : decode cX3_perform 73 = .ok (.sipush (-1000), 3) := by decide +kernel
theorem dX3_perform_76 : decode cX3_perform 76 = .ok (.aload_n 0, 1) := by decide +kernel
theorem dX3_perform_77 : decode cX3_perform 77 = .ok (.getfield 35, 3) := by decide +kernel
theorem dX3_perform_80 : decode cX3_perform 80 = .ok (.isub, 1) := by decide +kernel
theorem dX3_perform_81 : decode cX3_perform 81 = .ok (.ireturn, 1) := by decide +kernel
theorem dX3_perform_82 : decode cX3_perform 82 = .ok (.aload_n 0, 1) := by decide +kernel
theorem dX3_perform_83 : decode cX3_perform 83 = .ok (.aload_n 1, 1) := by decide +kernel
theorem dX3_perform_84 : decode cX3_perform 84 = .ok (.iload 4, 2) := by decide +kernel
theorem dX3_perform_86 : decode cX3_perform 86 = .ok (.invokevirtual 50, 3) := by decide +kernel
theorem dX3_perform_89 : decode cX3_perform 89 = .ok (.ifCond .ge 9, 3) := by decide +kernel
theorem dX3_perform_92 : decode cX3_perform 92 = .ok (.sipush (-1000), 3) := by decide +kernel
theorem dX3_perform_95 : decode cX3_perform 95 = .ok (.iload_n 3, 1) := by decide +kernel
theorem dX3_perform_96 : decode cX3_perform 96 = .ok (.isub, 1) := by decide +kernel
theorem dX3_perform_97 : decode cX3_perform 97 = .ok (.ireturn, 1) := by decide +kernel
theorem dX3_perform_98 : decode cX3_perform 98 = .ok (.iinc 2 1, 3) := by decide +kernel
theorem dX3_perform_101 : decode cX3_perform 101 = .ok (.goto (-94), 3) := by decide +kernel
theorem dX3_perform_104 : decode cX3_perform 104 = .ok (.sipush (-1000), 3) := by decide +kernel
theorem dX3_perform_107 : decode cX3_perform 107 = .ok (.aload_n 0, 1) := by decide +kernel
theorem dX3_perform_108 : decode cX3_perform 108 = .ok (.getfield 18, 3) := by decide +kernel
theorem dX3_perform_111 : decode cX3_perform 111 = .ok (.isub, 1) := by decide +kernel
theorem dX3_perform_112 : decode cX3_perform 112 = .ok (.ireturn, 1) := by decide +kernel
theorem dX3_obey_0 : decode cX3_obey 0 = .ok (.aload_n 0, 1) := by decide +kernel
theorem dX3_obey_1 : decode cX3_obey 1 = .ok (.getfield 15, 3) := by decide +kernel
theorem dX3_obey_4 : decode cX3_obey 4 = .ok (.arraylength, 1) := by decide +kernel
theorem dX3_obey_5 : decode cX3_obey 5 = .ok (.ifCond .le 12, 3) := by decide +kernel
theorem dX3_obey_8 : decode cX3_obey 8 = .ok (.aload_n 0, 1) := by decide +kernel
theorem dX3_obey_9 : decode cX3_obey 9 = .ok (.getfield 15, 3) := by decide +kernel
theorem dX3_obey_12 : decode cX3_obey 12 = .ok (.iconst 0, 1) := by decide +kernel
theorem dX3_obey_13 : decode cX3_obey 13 = .ok (.iaload, 1) := by decide +kernel
theorem dX3_obey_14 : decode cX3_obey 14 = .ok (.goto 4, 3) := by decide +kernel
theorem dX3_obey_17 : decode cX3_obey 17 = .ok (.iconst 0, 1) := by decide +kernel
theorem dX3_obey_18 : decode cX3_obey 18 = .ok (.istore_n 3, 1) := by decide +kernel
theorem dX3_obey_19 : decode cX3_obey 19 = .ok (.aload_n 0, 1) := by decide +kernel
theorem dX3_obey_20 : decode cX3_obey 20 = .ok (.getfield 15, 3) := by decide +kernel
theorem dX3_obey_23 : decode cX3_obey 23 = .ok (.arraylength, 1) := by decide +kernel
theorem dX3_obey_24 : decode cX3_obey 24 = .ok (.iconst 1, 1) := by decide +kernel
theorem dX3_obey_25 : decode cX3_obey 25 = .ok (.if_icmp .le 12, 3) := by decide +kernel
theorem dX3_obey_28 : decode cX3_obey 28 = .ok (.aload_n 0, 1) := by decide +kernel
theorem dX3_obey_29 : decode cX3_obey 29 = .ok (.getfield 15, 3) := by decide +kernel
theorem dX3_obey_32 : decode cX3_obey 32 = .ok (.iconst 1, 1) := by decide +kernel
theorem dX3_obey_33 : decode cX3_obey 33 = .ok (.iaload, 1) := by decide +kernel
theorem dX3_obey_34 : decode cX3_obey 34 = .ok (.goto 4, 3) := by decide +kernel
theorem dX3_obey_37 : decode cX3_obey 37 = .ok (.iconst 0, 1) := by decide +kernel
theorem dX3_obey_38 : decode cX3_obey 38 = .ok (.istore 4, 2) := by decide +kernel
theorem dX3_obey_40 : decode cX3_obey 40 = .ok (.aload_n 0, 1) := by decide +kernel
theorem dX3_obey_41 : decode cX3_obey 41 = .ok (.getfield 15, 3) := by decide +kernel
theorem dX3_obey_44 : decode cX3_obey 44 = .ok (.arraylength, 1) := by decide +kernel
theorem dX3_obey_45 : decode cX3_obey 45 = .ok (.iconst 2, 1) := by decide +kernel
theorem dX3_obey_46 : decode cX3_obey 46 = .ok (.if_icmp .le 12, 3) := by decide +kernel
theorem dX3_obey_49 : decode cX3_obey 49 = .ok (.aload_n 0, 1) := by decide +kernel
theorem dX3_obey_50 : decode cX3_obey 50 = .ok (.getfield 15, 3) := by decide +kernel
theorem dX3_obey_53 : decode cX3_obey 53 = .ok (.iconst 2, 1) := by decide +kernel
theorem dX3_obey_54 : decode cX3_obey 54 = .ok (.iaload, 1) := by decide +kernel
theorem dX3_obey_55 : decode cX3_obey 55 = .ok (.goto 4, 3) := by decide +kernel
theorem dX3_obey_58 : decode cX3_obey 58 = .ok (.iconst 0, 1) := by decide +kernel
theorem dX3_obey_59 : decode cX3_obey 59 = .ok (.istore 5, 2) := by decide +kernel
theorem dX3_obey_61 : decode cX3_obey 61 = .ok (.aload_n 0, 1) := by decide +kernel
theorem dX3_obey_62 : decode cX3_obey 62 = .ok (.getfield 15, 3) := by decide +kernel
theorem dX3_obey_65 : decode cX3_obey 65 = .ok (.arraylength, 1) := by decide +kernel
theorem dX3_obey_66 : decode cX3_obey 66 = .ok (.iconst 3, 1) := by decide +kernel
theorem dX3_obey_67 : decode cX3_obey 67 = .ok (.if_icmp .le 12, 3) := by decide +kernel
theorem dX3_obey_70 : decode cX3_obey 70 = .ok (.aload_n 0, 1) := by decide +kernel
theorem dX3_obey_71 : decode cX3_obey 71 = .ok (.getfield 15, 3) := by decide +kernel
theorem dX3_obey_74 : decode cX3_obey 74 = .ok (.iconst 3, 1) := by decide +kernel
theorem dX3_obey_75 : decode cX3_obey 75 = .ok (.iaload, 1) := by decide +kernel
theorem dX3_obey_76 : decode cX3_obey 76 = .ok (.goto 4, 3) := by decide +kernel
theorem dX3_obey_79 : decode cX3_obey 79 = .ok (.iconst 0, 1) := by decide +kernel
theorem dX3_obey_80 : decode cX3_obey 80 = .ok (.istore 6, 2) := by decide +kernel
theorem dX3_obey_82 : decode cX3_obey 82 = .ok (.iload_n 2, 1) := by decide +kernel
theorem dX3_obey_83 : decode cX3_obey 83 = .ok (.tableswitch 108 0 6 #[41, 53, 59, 70, 82, 94, 100], 41) := by decide +kernel
theorem dX3_obey_124 : decode cX3_obey 124 = .ok (.aload_n 1, 1) := by decide +kernel
theorem dX3_obey_125 : decode cX3_obey 125 = .ok (.iload_n 3, 1) := by decide +kernel
theorem dX3_obey_126 : decode cX3_obey 126 = .ok (.iload 4, 2) := by decide +kernel
theorem dX3_obey_128 : decode cX3_obey 128 = .ok (.iload 5, 2) := by decide +kernel
theorem dX3_obey_130 : decode cX3_obey 130 = .ok (.iload 6, 2) := by decide +kernel
theorem dX3_obey_132 : decode cX3_obey 132 = .ok (.invokevirtual 54, 3) := by decide +kernel
theorem dX3_obey_135 : decode cX3_obey 135 = .ok (.ireturn, 1) := by decide +kernel
theorem dX3_obey_136 : decode cX3_obey 136 = .ok (.aload_n 1, 1) := by decide +kernel
theorem dX3_obey_137 : decode cX3_obey 137 = .ok (.iload_n 3, 1) := by decide +kernel
theorem dX3_obey_138 : decode cX3_obey 138 = .ok (.invokevirtual 60, 3) := by decide +kernel
theorem dX3_obey_141 : decode cX3_obey 141 = .ok (.ireturn, 1) := by decide +kernel
theorem dX3_obey_142 : decode cX3_obey 142 = .ok (.aload_n 1, 1) := by decide +kernel
theorem dX3_obey_143 : decode cX3_obey 143 = .ok (.iload_n 3, 1) := by decide +kernel
theorem dX3_obey_144 : decode cX3_obey 144 = .ok (.iload 4, 2) := by decide +kernel
theorem dX3_obey_146 : decode cX3_obey 146 = .ok (.iload 5, 2) := by decide +kernel
theorem dX3_obey_148 : decode cX3_obey 148 = .ok (.iconst (-1), 1) := by decide +kernel
theorem dX3_obey_149 : decode cX3_obey 149 = .ok (.invokevirtual 64, 3) := by decide +kernel
theorem dX3_obey_152 : decode cX3_obey 152 = .ok (.ireturn, 1) := by decide +kernel
theorem dX3_obey_153 : decode cX3_obey 153 = .ok (.aload_n 1, 1) := by decide +kernel
theorem dX3_obey_154 : decode cX3_obey 154 = .ok (.iload_n 3, 1) := by decide +kernel
theorem dX3_obey_155 : decode cX3_obey 155 = .ok (.iload 4, 2) := by decide +kernel
theorem dX3_obey_157 : decode cX3_obey 157 = .ok (.iload 5, 2) := by decide +kernel
theorem dX3_obey_159 : decode cX3_obey 159 = .ok (.iload 6, 2) := by decide +kernel
theorem dX3_obey_161 : decode cX3_obey 161 = .ok (.invokevirtual 64, 3) := by decide +kernel
theorem dX3_obey_164 : decode cX3_obey 164 = .ok (.ireturn, 1) := by decide +kernel
theorem dX3_obey_165 : decode cX3_obey 165 = .ok (.aload_n 1, 1) := by decide +kernel
theorem dX3_obey_166 : decode cX3_obey 166 = .ok (.iload_n 3, 1) := by decide +kernel
theorem dX3_obey_167 : decode cX3_obey 167 = .ok (.iload 4, 2) := by decide +kernel
theorem dX3_obey_169 : decode cX3_obey 169 = .ok (.iload 5, 2) := by decide +kernel
theorem dX3_obey_171 : decode cX3_obey 171 = .ok (.iload 6, 2) := by decide +kernel
theorem dX3_obey_173 : decode cX3_obey 173 = .ok (.invokevirtual 67, 3) := by decide +kernel
theorem dX3_obey_176 : decode cX3_obey 176 = .ok (.ireturn, 1) := by decide +kernel
theorem dX3_obey_177 : decode cX3_obey 177 = .ok (.aload_n 1, 1) := by decide +kernel
theorem dX3_obey_178 : decode cX3_obey 178 = .ok (.iload_n 3, 1) := by decide +kernel
theorem dX3_obey_179 : decode cX3_obey 179 = .ok (.invokevirtual 70, 3) := by decide +kernel
theorem dX3_obey_182 : decode cX3_obey 182 = .ok (.ireturn, 1) := by decide +kernel
theorem dX3_obey_183 : decode cX3_obey 183 = .ok (.aload_n 1, 1) := by decide +kernel
theorem dX3_obey_184 : decode cX3_obey 184 = .ok (.iload_n 3, 1) := by decide +kernel
theorem dX3_obey_185 : decode cX3_obey 185 = .ok (.iload 4, 2) := by decide +kernel
theorem dX3_obey_187 : decode cX3_obey 187 = .ok (.invokevirtual 73, 3) := by decide +kernel
theorem dX3_obey_190 : decode cX3_obey 190 = .ok (.ireturn, 1) := by decide +kernel
theorem dX3_obey_191 : decode cX3_obey 191 = .ok (.iconst (-1), 1) := by decide +kernel
theorem dX3_obey_192 : decode cX3_obey 192 = .ok (.ireturn, 1) := by decide +kernel
theorem dX3_readNumbers_0 : decode cX3_readNumbers 0 = .ok (.iload_n 1, 1) := by decide +kernel
theorem dX3_readNumbers_1 : decode cX3_readNumbers 1 = .ok (.ifCond .lt 19, 3) := by decide +kernel
theorem dX3_readNumbers_4 : decode cX3_readNumbers 4 = .ok (.iload_n 1, 1) := by decide +kernel
theorem dX3_readNumbers_5 : decode cX3_readNumbers 5 = .ok (.getstatic 77, 3) := by decide +kernel
theorem dX3_readNumbers_8 : decode cX3_readNumbers 8 = .ok (.arraylength, 1) := by decide +kernel
theorem dX3_readNumbers_9 : decode cX3_readNumbers 9 = .ok (.if_icmp .ge 11, 3) := by decide +kernel
theorem dX3_readNumbers_12 : decode cX3_readNumbers 12 = .ok (.getstatic 77, 3) := by decide +kernel
theorem dX3_readNumbers_15 : decode cX3_readNumbers 15 = .ok (.iload_n 1, 1) := by decide +kernel
theorem dX3_readNumbers_16 : decode cX3_readNumbers 16 = .ok (.iaload, 1) := by decide +kernel
theorem dX3_readNumbers_17 : decode cX3_readNumbers 17 = .ok (.goto 4, 3) := by decide +kernel
theorem dX3_readNumbers_20 : decode cX3_readNumbers 20 = .ok (.iconst 0, 1) := by decide +kernel
theorem dX3_readNumbers_21 : decode cX3_readNumbers 21 = .ok (.istore_n 2, 1) := by decide +kernel
theorem dX3_readNumbers_22 : decode cX3_readNumbers 22 = .ok (.iconst 0, 1) := by decide +kernel
theorem dX3_readNumbers_23 : decode cX3_readNumbers 23 = .ok (.istore_n 3, 1) := by decide +kernel
theorem dX3_readNumbers_24 : decode cX3_readNumbers 24 = .ok (.iload_n 3, 1) := by decide +kernel
theorem dX3_readNumbers_25 : decode cX3_readNumbers 25 = .ok (.iload_n 2, 1) := by decide +kernel
theorem dX3_readNumbers_26 : decode cX3_readNumbers 26 = .ok (.if_icmp .ge 41, 3) := by decide +kernel
theorem dX3_readNumbers_29 : decode cX3_readNumbers 29 = .ok (.iload_n 3, 1) := by decide +kernel
theorem dX3_readNumbers_30 : decode cX3_readNumbers 30 = .ok (.aload_n 0, 1) := by decide +kernel
theorem dX3_readNumbers_31 : decode cX3_readNumbers 31 = .ok (.getfield 15, 3) := by decide +kernel
theorem dX3_readNumbers_34 : decode cX3_readNumbers 34 = .ok (.arraylength, 1) := by decide +kernel
theorem dX3_readNumbers_35 : decode cX3_readNumbers 35 = .ok (.if_icmp .ge 32, 3) := by decide +kernel
theorem dX3_readNumbers_38 : decode cX3_readNumbers 38 = .ok (.aload_n 0, 1) := by decide +kernel
theorem dX3_readNumbers_39 : decode cX3_readNumbers 39 = .ok (.invokevirtual 29, 3) := by decide +kernel
theorem dX3_readNumbers_42 : decode cX3_readNumbers 42 = .ok (.aload_n 0, 1) := by decide +kernel
theorem dX3_readNumbers_43 : decode cX3_readNumbers 43 = .ok (.invokevirtual 80, 3) := by decide +kernel
theorem dX3_readNumbers_46 : decode cX3_readNumbers 46 = .ok (.ifCond .ne 5, 3) := by decide +kernel
theorem dX3_readNumbers_49 : decode cX3_readNumbers 49 = .ok (.iconst 0, 1) := by decide +kernel
theorem dX3_readNumbers_50 : decode cX3_readNumbers 50 = .ok (.ireturn, 1) := by decide +kernel
theorem dX3_readNumbers_51 : decode cX3_readNumbers 51 = .ok (.aload_n 0, 1) := by decide +kernel
theorem dX3_readNumbers_52 : decode cX3_readNumbers 52 = .ok (.getfield 15, 3) := by decide +kernel
theorem dX3_readNumbers_55 : decode cX3_readNumbers 55 = .ok (.iload_n 3, 1) := by decide +kernel
theorem dX3_readNumbers_56 : decode cX3_readNumbers 56 = .ok (.aload_n 0, 1) := by decide +kernel
theorem dX3_readNumbers_57 : decode cX3_readNumbers 57 = .ok (.invokevirtual 83, 3) := by decide +kernel
theorem dX3_readNumbers_60 : decode cX3_readNumbers 60 = .ok (.iastore, 1) := by decide +kernel
theorem dX3_readNumbers_61 : decode cX3_readNumbers 61 = .ok (.iinc 3 1, 3) := by decide +kernel
theorem dX3_readNumbers_64 : decode cX3_readNumbers 64 = .ok (.goto (-40), 3) := by decide +kernel
theorem dX3_readNumbers_67 : decode cX3_readNumbers 67 = .ok (.iconst 1, 1) := by decide +kernel
theorem dX3_readNumbers_68 : decode cX3_readNumbers 68 = .ok (.ireturn, 1) := by decide +kernel
theorem dX3_readToken_0 : decode cX3_readToken 0 = .ok (.aload_n 0, 1) := by decide +kernel
theorem dX3_readToken_1 : decode cX3_readToken 1 = .ok (.aload_n 0, 1) := by decide +kernel
theorem dX3_readToken_2 : decode cX3_readToken 2 = .ok (.getfield 26, 3) := by decide +kernel
theorem dX3_readToken_5 : decode cX3_readToken 5 = .ok (.putfield 35, 3) := by decide +kernel
theorem dX3_readToken_8 : decode cX3_readToken 8 = .ok (.aload_n 0, 1) := by decide +kernel
theorem dX3_readToken_9 : decode cX3_readToken 9 = .ok (.getfield 35, 3) := by decide +kernel
theorem dX3_readToken_12 : decode cX3_readToken 12 = .ok (.aload_n 0, 1) := by decide +kernel
theorem dX3_readToken_13 : decode cX3_readToken 13 = .ok (.getfield 18, 3) := by decide +kernel
theorem dX3_readToken_16 : decode cX3_readToken 16 = .ok (.if_icmp .ge 29, 3) := by decide +kernel
theorem dX3_readToken_19 : decode cX3_readToken 19 = .ok (.aload_n 0, 1) := by decide +kernel
theorem dX3_readToken_20 : decode cX3_readToken 20 = .ok (.aload_n 0, 1) := by decide +kernel
theorem dX3_readToken_21 : decode cX3_readToken 21 = .ok (.getfield 35, 3) := by decide +kernel
theorem dX3_readToken_24 : decode cX3_readToken 24 = .ok (.invokevirtual 86, 3) := by decide +kernel
theorem dX3_readToken_27 : decode cX3_readToken 27 = .ok (.bipush 32, 2) := by decide +kernel
theorem dX3_readToken_29 : decode cX3_readToken 29 = .ok (.if_icmp .ne 16, 3) := by decide +kernel
theorem dX3_readToken_32 : decode cX3_readToken 32 = .ok (.aload_n 0, 1) := by decide +kernel
theorem dX3_readToken_33 : decode cX3_readToken 33 = .ok (.dup, 1) := by decide +kernel
theorem dX3_readToken_34 : decode cX3_readToken 34 = .ok (.getfield 35, 3) := by decide +kernel
theorem dX3_readToken_37 : decode cX3_readToken 37 = .ok (.iconst 1, 1) := by decide +kernel
theorem dX3_readToken_38 : decode cX3_readToken 38 = .ok (.iadd, 1) := by decide +kernel
theorem dX3_readToken_39 : decode cX3_readToken 39 = .ok (.putfield 35, 3) := by decide +kernel
theorem dX3_readToken_42 : decode cX3_readToken 42 = .ok (.goto (-34), 3) := by decide +kernel
theorem dX3_readToken_45 : decode cX3_readToken 45 = .ok (.aload_n 0, 1) := by decide +kernel
theorem dX3_readToken_46 : decode cX3_readToken 46 = .ok (.aload_n 0, 1) := by decide +kernel
theorem dX3_readToken_47 : decode cX3_readToken 47 = .ok (.getfield 35, 3) := by decide +kernel
theorem dX3_readToken_50 : decode cX3_readToken 50 = .ok (.putfield 26, 3) := by decide +kernel
theorem dX3_readToken_53 : decode cX3_readToken 53 = .ok (.aload_n 0, 1) := by decide +kernel
theorem dX3_readToken_54 : decode cX3_readToken 54 = .ok (.iconst 0, 1) := by decide +kernel
theorem dX3_readToken_55 : decode cX3_readToken 55 = .ok (.putfield 32, 3) := by decide +kernel
theorem dX3_readToken_58 : decode cX3_readToken 58 = .ok (.aload_n 0, 1) := by decide +kernel
theorem dX3_readToken_59 : decode cX3_readToken 59 = .ok (.getfield 35, 3) := by decide +kernel
theorem dX3_readToken_62 : decode cX3_readToken 62 = .ok (.aload_n 0, 1) := by decide +kernel
theorem dX3_readToken_63 : decode cX3_readToken 63 = .ok (.getfield 18, 3) := by decide +kernel
theorem dX3_readToken_66 : decode cX3_readToken 66 = .ok (.if_icmp .ge 80, 3) := by decide +kernel
theorem dX3_readToken_69 : decode cX3_readToken 69 = .ok (.aload_n 0, 1) := by decide +kernel
theorem dX3_readToken_70 : decode cX3_readToken 70 = .ok (.aload_n 0, 1) := by decide +kernel
theorem dX3_readToken_71 : decode cX3_readToken 71 = .ok (.aload_n 0, 1) := by decide +kernel
theorem dX3_readToken_72 : decode cX3_readToken 72 = .ok (.aload_n 0, 1) := by decide +kernel
theorem dX3_readToken_73 : decode cX3_readToken 73 = .ok (.getfield 35, 3) := by decide +kernel
theorem dX3_readToken_76 : decode cX3_readToken 76 = .ok (.invokevirtual 86, 3) := by decide +kernel
theorem dX3_readToken_79 : decode cX3_readToken 79 = .ok (.invokevirtual 89, 3) := by decide +kernel
theorem dX3_readToken_82 : decode cX3_readToken 82 = .ok (.putfield 32, 3) := by decide +kernel
theorem dX3_readToken_85 : decode cX3_readToken 85 = .ok (.aload_n 0, 1) := by decide +kernel
theorem dX3_readToken_86 : decode cX3_readToken 86 = .ok (.aload_n 0, 1) := by decide +kernel
theorem dX3_readToken_87 : decode cX3_readToken 87 = .ok (.getfield 35, 3) := by decide +kernel
theorem dX3_readToken_90 : decode cX3_readToken 90 = .ok (.iconst 1, 1) := by decide +kernel
theorem dX3_readToken_91 : decode cX3_readToken 91 = .ok (.iadd, 1) := by decide +kernel
theorem dX3_readToken_92 : decode cX3_readToken 92 = .ok (.putfield 26, 3) := by decide +kernel
theorem dX3_readToken_95 : decode cX3_readToken 95 = .ok (.aload_n 0, 1) := by decide +kernel
theorem dX3_readToken_96 : decode cX3_readToken 96 = .ok (.getfield 26, 3) := by decide +kernel
theorem dX3_readToken_99 : decode cX3_readToken 99 = .ok (.aload_n 0, 1) := by decide +kernel
theorem dX3_readToken_100 : decode cX3_readToken 100 = .ok (.getfield 18, 3) := by decide +kernel
theorem dX3_readToken_103 : decode cX3_readToken 103 = .ok (.if_icmp .ge 43, 3) := by decide +kernel
theorem dX3_readToken_106 : decode cX3_readToken 106 = .ok (.aload_n 0, 1) := by decide +kernel
theorem dX3_readToken_107 : decode cX3_readToken 107 = .ok (.getfield 32, 3) := by decide +kernel
theorem dX3_readToken_110 : decode cX3_readToken 110 = .ok (.iconst 3, 1) := by decide +kernel
theorem dX3_readToken_111 : decode cX3_readToken 111 = .ok (.if_icmp .eq 35, 3) := by decide +kernel
theorem dX3_readToken_114 : decode cX3_readToken 114 = .ok (.aload_n 0, 1) := by decide +kernel
theorem dX3_readToken_115 : decode cX3_readToken 115 = .ok (.aload_n 0, 1) := by decide +kernel
theorem dX3_readToken_116 : decode cX3_readToken 116 = .ok (.aload_n 0, 1) := by decide +kernel
theorem dX3_readToken_117 : decode cX3_readToken 117 = .ok (.getfield 26, 3) := by decide +kernel
theorem dX3_readToken_120 : decode cX3_readToken 120 = .ok (.invokevirtual 86, 3) := by decide +kernel
theorem dX3_readToken_123 : decode cX3_readToken 123 = .ok (.invokevirtual 89, 3) := by decide +kernel
theorem dX3_readToken_126 : decode cX3_readToken 126 = .ok (.aload_n 0, 1) := by decide +kernel
end
section
theorem dX3_readToken_127 : decode cX3_readToken 127 = .ok (.getfield 32, 3) := by decide +kernel
theorem dX3_readToken_130 : decode cX3_readToken 130 = .ok (.if_icmp .ne 16, 3) := by decide +kernel
theorem dX3_readToken_133 : decode cX3_readToken 133 = .ok (.aload_n 0, 1) := by decide +kernel
theorem dX3_readToken_134 : decode cX3_readToken 134 = .ok (.dup, 1) := by decide +kernel
theorem dX3_readToken_135 : decode cX3_readToken 135 = .ok (.getfield 26, 3) := by decide +kernel
theorem dX3_readToken_138 : decode cX3_readToken 138 = .ok (.iconst 1, 1) := by decide +kernel
theorem dX3_readToken_139 : decode cX3_readToken 139 = .ok (.iadd, 1) := by decide +kernel
theorem dX3_readToken_140 : decode cX3_readToken 140 = .ok (.putfield 26, 3) := by decide +kernel
theorem dX3_readToken_143 : decode cX3_readToken 143 = .ok (.goto (-48), 3) := by decide +kernel
theorem dX3_readToken_146 : decode cX3_readToken 146 = .ok (.return_, 1) := by decide +kernel
theorem dX3_signAt_0 : decode cX3_signAt 0 = .ok (.iload_n 1, 1) := by decide +kernel
theorem dX3_signAt_1 : decode cX3_signAt 1 = .ok (.ifCond .lt 21, 3) := by decide +kernel
theorem dX3_signAt_4 : decode cX3_signAt 4 = .ok (.iload_n 1, 1) := by decide +kernel
theorem dX3_signAt_5 : decode cX3_signAt 5 = .ok (.aload_n 0, 1) := by decide +kernel
theorem dX3_signAt_6 : decode cX3_signAt 6 = .ok (.getfield 9, 3) := by decide +kernel
theorem dX3_signAt_9 : decode cX3_signAt 9 = .ok (.arraylength, 1) := by decide +kernel
theorem dX3_signAt_10 : decode cX3_signAt 10 = .ok (.if_icmp .ge 12, 3) := by decide +kernel
theorem dX3_signAt_13 : decode cX3_signAt 13 = .ok (.aload_n 0, 1) := by decide +kernel
theorem dX3_signAt_14 : decode cX3_signAt 14 = .ok (.getfield 9, 3) := by decide +kernel
theorem dX3_signAt_17 : decode cX3_signAt 17 = .ok (.iload_n 1, 1) := by decide +kernel
theorem dX3_signAt_18 : decode cX3_signAt 18 = .ok (.iaload, 1) := by decide +kernel
theorem dX3_signAt_19 : decode cX3_signAt 19 = .ok (.goto 4, 3) := by decide +kernel
theorem dX3_signAt_22 : decode cX3_signAt 22 = .ok (.iconst 0, 1) := by decide +kernel
theorem dX3_signAt_23 : decode cX3_signAt 23 = .ok (.ireturn, 1) := by decide +kernel
theorem dX3_kindOf_0 : decode cX3_kindOf 0 = .ok (.iload_n 1, 1) := by decide +kernel
theorem dX3_kindOf_1 : decode cX3_kindOf 1 = .ok (.bipush 97, 2) := by decide +kernel
theorem dX3_kindOf_3 : decode cX3_kindOf 3 = .ok (.bipush 122, 2) := by decide +kernel
theorem dX3_kindOf_5 : decode cX3_kindOf 5 = .ok (.invokestatic 22, 3) := by decide +kernel
theorem dX3_kindOf_8 : decode cX3_kindOf 8 = .ok (.ifCond .eq 5, 3) := by decide +kernel
theorem dX3_kindOf_11 : decode cX3_kindOf 11 = .ok (.iconst 1, 1) := by decide +kernel
theorem dX3_kindOf_12 : decode cX3_kindOf 12 = .ok (.ireturn, 1) := by decide +kernel
theorem dX3_kindOf_13 : decode cX3_kindOf 13 = .ok (.iload_n 1, 1) := by decide +kernel
theorem dX3_kindOf_14 : decode cX3_kindOf 14 = .ok (.bipush 48, 2) := by decide +kernel
theorem dX3_kindOf_16 : decode cX3_kindOf 16 = .ok (.bipush 57, 2) := by decide +kernel
theorem dX3_kindOf_18 : decode cX3_kindOf 18 = .ok (.invokestatic 22, 3) := by decide +kernel
theorem dX3_kindOf_21 : decode cX3_kindOf 21 = .ok (.ifCond .eq 7, 3) := by decide +kernel
theorem dX3_kindOf_24 : decode cX3_kindOf 24 = .ok (.iconst 2, 1) := by decide +kernel
theorem dX3_kindOf_25 : decode cX3_kindOf 25 = .ok (.goto 4, 3) := by decide +kernel
theorem dX3_kindOf_28 : decode cX3_kindOf 28 = .ok (.iconst 3, 1) := by decide +kernel
theorem dX3_kindOf_29 : decode cX3_kindOf 29 = .ok (.ireturn, 1) := by decide +kernel
theorem dX3_isSemicolon_0 : decode cX3_isSemicolon 0 = .ok (.aload_n 0, 1) := by decide +kernel
theorem dX3_isSemicolon_1 : decode cX3_isSemicolon 1 = .ok (.getfield 32, 3) := by decide +kernel
theorem dX3_isSemicolon_4 : decode cX3_isSemicolon 4 = .ok (.iconst 3, 1) := by decide +kernel
theorem dX3_isSemicolon_5 : decode cX3_isSemicolon 5 = .ok (.if_icmp .ne 20, 3) := by decide +kernel
theorem dX3_isSemicolon_8 : decode cX3_isSemicolon 8 = .ok (.aload_n 0, 1) := by decide +kernel
theorem dX3_isSemicolon_9 : decode cX3_isSemicolon 9 = .ok (.aload_n 0, 1) := by decide +kernel
theorem dX3_isSemicolon_10 : decode cX3_isSemicolon 10 = .ok (.getfield 35, 3) := by decide +kernel
theorem dX3_isSemicolon_13 : decode cX3_isSemicolon 13 = .ok (.invokevirtual 86, 3) := by decide +kernel
theorem dX3_isSemicolon_16 : decode cX3_isSemicolon 16 = .ok (.bipush 59, 2) := by decide +kernel
theorem dX3_isSemicolon_18 : decode cX3_isSemicolon 18 = .ok (.if_icmp .ne 7, 3) := by decide +kernel
theorem dX3_isSemicolon_21 : decode cX3_isSemicolon 21 = .ok (.iconst 1, 1) := by decide +kernel
theorem dX3_isSemicolon_22 : decode cX3_isSemicolon 22 = .ok (.goto 4, 3) := by decide +kernel
theorem dX3_isSemicolon_25 : decode cX3_isSemicolon 25 = .ok (.iconst 0, 1) := by decide +kernel
theorem dX3_isSemicolon_26 : decode cX3_isSemicolon 26 = .ok (.ireturn, 1) := by decide +kernel
theorem dX3_isNumber_0 : decode cX3_isNumber 0 = .ok (.aload_n 0, 1) := by decide +kernel
theorem dX3_isNumber_1 : decode cX3_isNumber 1 = .ok (.getfield 26, 3) := by decide +kernel
theorem dX3_isNumber_4 : decode cX3_isNumber 4 = .ok (.aload_n 0, 1) := by decide +kernel
theorem dX3_isNumber_5 : decode cX3_isNumber 5 = .ok (.getfield 35, 3) := by decide +kernel
theorem dX3_isNumber_8 : decode cX3_isNumber 8 = .ok (.isub, 1) := by decide +kernel
theorem dX3_isNumber_9 : decode cX3_isNumber 9 = .ok (.istore_n 1, 1) := by decide +kernel
theorem dX3_isNumber_10 : decode cX3_isNumber 10 = .ok (.aload_n 0, 1) := by decide +kernel
theorem dX3_isNumber_11 : decode cX3_isNumber 11 = .ok (.getfield 32, 3) := by decide +kernel
theorem dX3_isNumber_14 : decode cX3_isNumber 14 = .ok (.iconst 2, 1) := by decide +kernel
theorem dX3_isNumber_15 : decode cX3_isNumber 15 = .ok (.if_icmp .ne 30, 3) := by decide +kernel
theorem dX3_isNumber_18 : decode cX3_isNumber 18 = .ok (.iload_n 1, 1) := by decide +kernel
theorem dX3_isNumber_19 : decode cX3_isNumber 19 = .ok (.iconst 4, 1) := by decide +kernel
theorem dX3_isNumber_20 : decode cX3_isNumber 20 = .ok (.if_icmp .gt 25, 3) := by decide +kernel
theorem dX3_isNumber_23 : decode cX3_isNumber 23 = .ok (.iload_n 1, 1) := by decide +kernel
theorem dX3_isNumber_24 : decode cX3_isNumber 24 = .ok (.iconst 1, 1) := by decide +kernel
theorem dX3_isNumber_25 : decode cX3_isNumber 25 = .ok (.if_icmp .eq 16, 3) := by decide +kernel
theorem dX3_isNumber_28 : decode cX3_isNumber 28 = .ok (.aload_n 0, 1) := by decide +kernel
theorem dX3_isNumber_29 : decode cX3_isNumber 29 = .ok (.aload_n 0, 1) := by decide +kernel
theorem dX3_isNumber_30 : decode cX3_isNumber 30 = .ok (.getfield 35, 3) := by decide +kernel
theorem dX3_isNumber_33 : decode cX3_isNumber 33 = .ok (.invokevirtual 86, 3) := by decide +kernel
theorem dX3_isNumber_36 : decode cX3_isNumber 36 = .ok (.bipush 48, 2) := by decide +kernel
theorem dX3_isNumber_38 : decode cX3_isNumber 38 = .ok (.if_icmp .eq 7, 3) := by decide +kernel
theorem dX3_isNumber_41 : decode cX3_isNumber 41 = .ok (.iconst 1, 1) := by decide +kernel
theorem dX3_isNumber_42 : decode cX3_isNumber 42 = .ok (.goto 4, 3) := by decide +kernel
theorem dX3_isNumber_45 : decode cX3_isNumber 45 = .ok (.iconst 0, 1) := by decide +kernel
theorem dX3_isNumber_46 : decode cX3_isNumber 46 = .ok (.ireturn, 1) := by decide +kernel
theorem dX3_numberValue_0 : decode cX3_numberValue 0 = .ok (.iconst 0, 1) := by decide +kernel
theorem dX3_numberValue_1 : decode cX3_numberValue 1 = .ok (.istore_n 1, 1) := by decide +kernel
theorem dX3_numberValue_2 : decode cX3_numberValue 2 = .ok (.aload_n 0, 1) := by decide +kernel
theorem dX3_numberValue_3 : decode cX3_numberValue 3 = .ok (.getfield 35, 3) := by decide +kernel
theorem dX3_numberValue_6 : decode cX3_numberValue 6 = .ok (.istore_n 2, 1) := by decide +kernel
theorem dX3_numberValue_7 : decode cX3_numberValue 7 = .ok (.iload_n 2, 1) := by decide +kernel
theorem dX3_numberValue_8 : decode cX3_numberValue 8 = .ok (.aload_n 0, 1) := by decide +kernel
theorem dX3_numberValue_9 : decode cX3_numberValue 9 = .ok (.getfield 26, 3) := by decide +kernel
theorem dX3_numberValue_12 : decode cX3_numberValue 12 = .ok (.if_icmp .ge 23, 3) := by decide +kernel
theorem dX3_numberValue_15 : decode cX3_numberValue 15 = .ok (.iload_n 1, 1) := by decide +kernel
theorem dX3_numberValue_16 : decode cX3_numberValue 16 = .ok (.bipush 10, 2) := by decide +kernel
theorem dX3_numberValue_18 : decode cX3_numberValue 18 = .ok (.imul, 1) := by decide +kernel
theorem dX3_numberValue_19 : decode cX3_numberValue 19 = .ok (.aload_n 0, 1) := by decide +kernel
theorem dX3_numberValue_20 : decode cX3_numberValue 20 = .ok (.iload_n 2, 1) := by decide +kernel
theorem dX3_numberValue_21 : decode cX3_numberValue 21 = .ok (.invokevirtual 86, 3) := by decide +kernel
theorem dX3_numberValue_24 : decode cX3_numberValue 24 = .ok (.iadd, 1) := by decide +kernel
theorem dX3_numberValue_25 : decode cX3_numberValue 25 = .ok (.bipush 48, 2) := by decide +kernel
theorem dX3_numberValue_27 : decode cX3_numberValue 27 = .ok (.isub, 1) := by decide +kernel
theorem dX3_numberValue_28 : decode cX3_numberValue 28 = .ok (.istore_n 1, 1) := by decide +kernel
theorem dX3_numberValue_29 : decode cX3_numberValue 29 = .ok (.iinc 2 1, 3) := by decide +kernel
theorem dX3_numberValue_32 : decode cX3_numberValue 32 = .ok (.goto (-25), 3) := by decide +kernel
theorem dX3_numberValue_35 : decode cX3_numberValue 35 = .ok (.iload_n 1, 1) := by decide +kernel
theorem dX3_numberValue_36 : decode cX3_numberValue 36 = .ok (.ireturn, 1) := by decide +kernel
theorem dX3_commandWord_0 : decode cX3_commandWord 0 = .ok (.aload_n 0, 1) := by decide +kernel
theorem dX3_commandWord_1 : decode cX3_commandWord 1 = .ok (.ldc 92, 2) := by decide +kernel
theorem dX3_commandWord_3 : decode cX3_commandWord 3 = .ok (.invokevirtual 94, 3) := by decide +kernel
theorem dX3_commandWord_6 : decode cX3_commandWord 6 = .ok (.ifCond .eq 5, 3) := by decide +kernel
theorem dX3_commandWord_9 : decode cX3_commandWord 9 = .ok (.iconst 0, 1) := by decide +kernel
theorem dX3_commandWord_10 : decode cX3_commandWord 10 = .ok (.ireturn, 1) := by decide +kernel
theorem dX3_commandWord_11 : decode cX3_commandWord 11 = .ok (.aload_n 0, 1) := by decide +kernel
theorem dX3_commandWord_12 : decode cX3_commandWord 12 = .ok (.ldc 98, 2) := by decide +kernel
theorem dX3_commandWord_14 : decode cX3_commandWord 14 = .ok (.invokevirtual 94, 3) := by decide +kernel
theorem dX3_commandWord_17 : decode cX3_commandWord 17 = .ok (.ifCond .eq 5, 3) := by decide +kernel
theorem dX3_commandWord_20 : decode cX3_commandWord 20 = .ok (.iconst 1, 1) := by decide +kernel
theorem dX3_commandWord_21 : decode cX3_commandWord 21 = .ok (.ireturn, 1) := by decide +kernel
theorem dX3_commandWord_22 : decode cX3_commandWord 22 = .ok (.aload_n 0, 1) := by decide +kernel
theorem dX3_commandWord_23 : decode cX3_commandWord 23 = .ok (.ldc 100, 2) := by decide +kernel
theorem dX3_commandWord_25 : decode cX3_commandWord 25 = .ok (.invokevirtual 94, 3) := by decide +kernel
theorem dX3_commandWord_28 : decode cX3_commandWord 28 = .ok (.ifCond .eq 5, 3) := by decide +kernel
theorem dX3_commandWord_31 : decode cX3_commandWord 31 = .ok (.iconst 2, 1) := by decide +kernel
theorem dX3_commandWord_32 : decode cX3_commandWord 32 = .ok (.ireturn, 1) := by decide +kernel
theorem dX3_commandWord_33 : decode cX3_commandWord 33 = .ok (.aload_n 0, 1) := by decide +kernel
theorem dX3_commandWord_34 : decode cX3_commandWord 34 = .ok (.ldc 102, 2) := by decide +kernel
theorem dX3_commandWord_36 : decode cX3_commandWord 36 = .ok (.invokevirtual 94, 3) := by decide +kernel
theorem dX3_commandWord_39 : decode cX3_commandWord 39 = .ok (.ifCond .eq 5, 3) := by decide +kernel
theorem dX3_commandWord_42 : decode cX3_commandWord 42 = .ok (.iconst 3, 1) := by decide +kernel
theorem dX3_commandWord_43 : decode cX3_commandWord 43 = .ok (.ireturn, 1) := by decide +kernel
theorem dX3_commandWord_44 : decode cX3_commandWord 44 = .ok (.aload_n 0, 1) := by decide +kernel
theorem dX3_commandWord_45 : decode cX3_commandWord 45 = .ok (.ldc 104, 2) := by decide +kernel
theorem dX3_commandWord_47 : decode cX3_commandWord 47 = .ok (.invokevirtual 94, 3) := by decide +kernel
theorem dX3_commandWord_50 : decode cX3_commandWord 50 = .ok (.ifCond .eq 5, 3) := by decide +kernel
theorem dX3_commandWord_53 : decode cX3_commandWord 53 = .ok (.iconst 4, 1) := by decide +kernel
theorem dX3_commandWord_54 : decode cX3_commandWord 54 = .ok (.ireturn, 1) := by decide +kernel
theorem dX3_commandWord_55 : decode cX3_commandWord 55 = .ok (.aload_n 0, 1) := by decide +kernel
theorem dX3_commandWord_56 : decode cX3_commandWord 56 = .ok (.ldc 106, 2) := by decide +kernel
theorem dX3_commandWord_58 : decode cX3_commandWord 58 = .ok (.invokevirtual 94, 3) := by decide +kernel
theorem dX3_commandWord_61 : decode cX3_commandWord 61 = .ok (.ifCond .eq 5, 3) := by decide +kernel
theorem dX3_commandWord_64 : decode cX3_commandWord 64 = .ok (.iconst 5, 1) := by decide +kernel
theorem dX3_commandWord_65 : decode cX3_commandWord 65 = .ok (.ireturn, 1) := by decide +kernel
theorem dX3_commandWord_66 : decode cX3_commandWord 66 = .ok (.aload_n 0, 1) := by decide +kernel
theorem dX3_commandWord_67 : decode cX3_commandWord 67 = .ok (.ldc 108, 2) := by decide +kernel
theorem dX3_commandWord_69 : decode cX3_commandWord 69 = .ok (.invokevirtual 94, 3) := by decide +kernel
theorem dX3_commandWord_72 : decode cX3_commandWord 72 = .ok (.ifCond .eq 8, 3) := by decide +kernel
theorem dX3_commandWord_75 : decode cX3_commandWord 75 = .ok (.bipush 6, 2) := by decide +kernel
theorem dX3_commandWord_77 : decode cX3_commandWord 77 = .ok (.goto 4, 3) := by decide +kernel
theorem dX3_commandWord_80 : decode cX3_commandWord 80 = .ok (.iconst (-1), 1) := by decide +kernel
theorem dX3_commandWord_81 : decode cX3_commandWord 81 = .ok (.ireturn, 1) := by decide +kernel
theorem dX3_isWord_0 : decode cX3_isWord 0 = .ok (.aload_n 1, 1) := by decide +kernel
theorem dX3_isWord_1 : decode cX3_isWord 1 = .ok (.invokevirtual 110, 3) := by decide +kernel
theorem dX3_isWord_4 : decode cX3_isWord 4 = .ok (.aload_n 0, 1) := by decide +kernel
theorem dX3_isWord_5 : decode cX3_isWord 5 = .ok (.getfield 26, 3) := by decide +kernel
theorem dX3_isWord_8 : decode cX3_isWord 8 = .ok (.aload_n 0, 1) := by decide +kernel
theorem dX3_isWord_9 : decode cX3_isWord 9 = .ok (.getfield 35, 3) := by decide +kernel
theorem dX3_isWord_12 : decode cX3_isWord 12 = .ok (.isub, 1) := by decide +kernel
theorem dX3_isWord_13 : decode cX3_isWord 13 = .ok (.if_icmp .eq 5, 3) := by decide +kernel
theorem dX3_isWord_16 : decode cX3_isWord 16 = .ok (.iconst 0, 1) := by decide +kernel
theorem dX3_isWord_17 : decode cX3_isWord 17 = .ok (.ireturn, 1) := by decide +kernel
theorem dX3_isWord_18 : decode cX3_isWord 18 = .ok (.iconst 0, 1) := by decide +kernel
theorem dX3_isWord_19 : decode cX3_isWord 19 = .ok (.istore_n 2, 1) := by decide +kernel
theorem dX3_isWord_20 : decode cX3_isWord 20 = .ok (.iload_n 2, 1) := by decide +kernel
theorem dX3_isWord_21 : decode cX3_isWord 21 = .ok (.aload_n 1, 1) := by decide +kernel
theorem dX3_isWord_22 : decode cX3_isWord 22 = .ok (.invokevirtual 110, 3) := by decide +kernel
theorem dX3_isWord_25 : decode cX3_isWord 25 = .ok (.if_icmp .ge 29, 3) := by decide +kernel
theorem dX3_isWord_28 : decode cX3_isWord 28 = .ok (.aload_n 0, 1) := by decide +kernel
theorem dX3_isWord_29 : decode cX3_isWord 29 = .ok (.aload_n 0, 1) := by decide +kernel
theorem dX3_isWord_30 : decode cX3_isWord 30 = .ok (.getfield 35, 3) := by decide +kernel
theorem dX3_isWord_33 : decode cX3_isWord 33 = .ok (.iload_n 2, 1) := by decide +kernel
theorem dX3_isWord_34 : decode cX3_isWord 34 = .ok (.iadd, 1) := by decide +kernel
theorem dX3_isWord_35 : decode cX3_isWord 35 = .ok (.invokevirtual 86, 3) := by decide +kernel
theorem dX3_isWord_38 : decode cX3_isWord 38 = .ok (.aload_n 1, 1) := by decide +kernel
theorem dX3_isWord_39 : decode cX3_isWord 39 = .ok (.iload_n 2, 1) := by decide +kernel
theorem dX3_isWord_40 : decode cX3_isWord 40 = .ok (.invokevirtual 114, 3) := by decide +kernel
theorem dX3_isWord_43 : decode cX3_isWord 43 = .ok (.if_icmp .eq 5, 3) := by decide +kernel
theorem dX3_isWord_46 : decode cX3_isWord 46 = .ok (.iconst 0, 1) := by decide +kernel
theorem dX3_isWord_47 : decode cX3_isWord 47 = .ok (.ireturn, 1) := by decide +kernel
theorem dX3_isWord_48 : decode cX3_isWord 48 = .ok (.iinc 2 1, 3) := by decide +kernel
theorem dX3_isWord_51 : decode cX3_isWord 51 = .ok (.goto (-31), 3) := by decide +kernel
theorem dX3_isWord_54 : decode cX3_isWord 54 = .ok (.iconst 1, 1) := by decide +kernel
theorem dX3_isWord_55 : decode cX3_isWord 55 = .ok (.ireturn, 1) := by decide +kernel
theorem dX4_init_0 : decode cX4_init 0 = .ok (.aload_n 0, 1) := by decide +kernel
theorem dX4_init_1 : decode cX4_init 1 = .ok (.invokespecial 1, 3) := by decide +kernel
theorem dX4_init_4 : decode cX4_init 4 = .ok (.aload_n 0, 1) := by decide +kernel
theorem dX4_init_5 : decode cX4_init 5 = .ok (.new 7, 3) := by decide +kernel
theorem dX4_init_8 : decode cX4_init 8 = .ok (.dup, 1) := by decide +kernel
theorem dX4_init_9 : decode cX4_init 9 = .ok (.invokespecial 9, 3) := by decide +kernel
theorem dX4_init_12 : decode cX4_init 12 = .ok (.putfield 10, 3) := by decide +kernel
theorem dX4_init_15 : decode cX4_init 15 = .ok (.return_, 1) := by decide +kernel
theorem dX4_keep_0 : decode cX4_keep 0 = .ok (.aload_n 0, 1) := by decide +kernel
theorem dX4_keep_1 : decode cX4_keep 1 = .ok (.getfield 10, 3) := by decide +kernel
theorem dX4_keep_4 : decode cX4_keep 4 = .ok (.aload_n 1, 1) := by decide +kernel
theorem dX4_keep_5 : decode cX4_keep 5 = .ok (.invokevirtual 16, 3) := by decide +kernel
theorem dX4_keep_8 : decode cX4_keep 8 = .ok (.aload_n 0, 1) := by decide +kernel
theorem dX4_keep_9 : decode cX4_keep 9 = .ok (.iconst 1, 1) := by decide +kernel
theorem dX4_keep_10 : decode cX4_keep 10 = .ok (.putfield 20, 3) := by decide +kernel
theorem dX4_keep_13 : decode cX4_keep 13 = .ok (.return_, 1) := by decide +kernel
theorem dX4_copyFrom_0 : decode cX4_copyFrom 0 = .ok (.aload_n 1, 1) := by decide +kernel
theorem dX4_copyFrom_1 : decode cX4_copyFrom 1 = .ok (.getfield 20, 3) := by decide +kernel
theorem dX4_copyFrom_4 : decode cX4_copyFrom 4 = .ok (.ifCond .eq 14, 3) := by decide +kernel
theorem dX4_copyFrom_7 : decode cX4_copyFrom 7 = .ok (.aload_n 0, 1) := by decide +kernel
theorem dX4_copyFrom_8 : decode cX4_copyFrom 8 = .ok (.getfield 10, 3) := by decide +kernel
theorem dX4_copyFrom_11 : decode cX4_copyFrom 11 = .ok (.aload_n 1, 1) := by decide +kernel
theorem dX4_copyFrom_12 : decode cX4_copyFrom 12 = .ok (.getfield 10, 3) := by decide +kernel
theorem dX4_copyFrom_15 : decode cX4_copyFrom 15 = .ok (.invokevirtual 16, 3) := by decide +kernel
theorem dX4_copyFrom_18 : decode cX4_copyFrom 18 = .ok (.aload_n 0, 1) := by decide +kernel
theorem dX4_copyFrom_19 : decode cX4_copyFrom 19 = .ok (.aload_n 1, 1) := by decide +kernel
theorem dX4_copyFrom_20 : decode cX4_copyFrom 20 = .ok (.getfield 20, 3) := by decide +kernel
theorem dX4_copyFrom_23 : decode cX4_copyFrom 23 = .ok (.putfield 20, 3) := by decide +kernel
theorem dX4_copyFrom_26 : decode cX4_copyFrom 26 = .ok (.return_, 1) := by decide +kernel
theorem dX5_init_0 : decode cX5_init 0 = .ok (.aload_n 0, 1) := by decide +kernel
theorem dX5_init_1 : decode cX5_init 1 = .ok (.invokespecial 1, 3) := by decide +kernel
theorem dX5_init_4 : decode cX5_init 4 = .ok (.aload_n 0, 1) := by decide +kernel
theorem dX5_init_5 : decode cX5_init 5 = .ok (.new 7, 3) := by decide +kernel
theorem dX5_init_8 : decode cX5_init 8 = .ok (.dup, 1) := by decide +kernel
theorem dX5_init_9 : decode cX5_init 9 = .ok (.invokespecial 9, 3) := by decide +kernel
theorem dX5_init_12 : decode cX5_init 12 = .ok (.putfield 10, 3) := by decide +kernel
theorem dX5_init_15 : decode cX5_init 15 = .ok (.aload_n 0, 1) := by decide +kernel
theorem dX5_init_16 : decode cX5_init 16 = .ok (.new 16, 3) := by decide +kernel
theorem dX5_init_19 : decode cX5_init 19 = .ok (.dup, 1) := by decide +kernel
theorem dX5_init_20 : decode cX5_init 20 = .ok (.invokespecial 18, 3) := by decide +kernel
theorem dX5_init_23 : decode cX5_init 23 = .ok (.putfield 19, 3) := by decide +kernel
theorem dX5_init_26 : decode cX5_init 26 = .ok (.aload_n 0, 1) := by decide +kernel
theorem dX5_init_27 : decode cX5_init 27 = .ok (.new 16, 3) := by decide +kernel
theorem dX5_init_30 : decode cX5_init 30 = .ok (.dup, 1) := by decide +kernel
theorem dX5_init_31 : decode cX5_init 31 = .ok (.invokespecial 18, 3) := by decide +kernel
theorem dX5_init_34 : decode cX5_init 34 = .ok (.putfield 23, 3) := by decide +kernel
theorem dX5_init_37 : decode cX5_init 37 = .ok (.return_, 1) := by decide +kernel
theorem dX5_slotOf_0 : decode cX5_slotOf 0 = .ok (.iload_n 1, 1) := by decide +kernel
theorem dX5_slotOf_1 : decode cX5_slotOf 1 = .ok (.ifCond .ne 10, 3) := by decide +kernel
theorem dX5_slotOf_4 : decode cX5_slotOf 4 = .ok (.aload_n 0, 1) := by decide +kernel
theorem dX5_slotOf_5 : decode cX5_slotOf 5 = .ok (.getfield 19, 3) := by decide +kernel
theorem dX5_slotOf_8 : decode cX5_slotOf 8 = .ok (.goto 7, 3) := by decide +kernel
theorem dX5_slotOf_11 : decode cX5_slotOf 11 = .ok (.aload_n 0, 1) := by decide +kernel
theorem dX5_slotOf_12 : decode cX5_slotOf 12 = .ok (.getfield 23, 3) := by decide +kernel
theorem dX5_slotOf_15 : decode cX5_slotOf 15 = .ok (.areturn, 1) := by decide +kernel
theorem dX5_snapshots_0 : decode cX5_snapshots 0 = .ok (.aload_n 0, 1) := by decide +kernel
theorem dX5_snapshots_1 : decode cX5_snapshots 1 = .ok (.getfield 19, 3) := by decide +kernel
theorem dX5_snapshots_4 : decode cX5_snapshots 4 = .ok (.getfield 26, 3) := by decide +kernel
theorem dX5_snapshots_7 : decode cX5_snapshots 7 = .ok (.ifCond .eq 7, 3) := by decide +kernel
theorem dX5_snapshots_10 : decode cX5_snapshots 10 = .ok (.iconst 1, 1) := by decide +kernel
theorem dX5_snapshots_11 : decode cX5_snapshots 11 = .ok (.goto 4, 3) := by decide +kernel
theorem dX5_snapshots_14 : decode cX5_snapshots 14 = .ok (.iconst 0, 1) := by decide +kernel
theorem dX5_snapshots_15 : decode cX5_snapshots 15 = .ok (.aload_n 0, 1) := by decide +kernel
theorem dX5_snapshots_16 : decode cX5_snapshots 16 = .ok (.getfield 23, 3) := by decide +kernel
theorem dX5_snapshots_19 : decode cX5_snapshots 19 = .ok (.getfield 26, 3) := by decide +kernel
theorem dX5_snapshots_22 : decode cX5_snapshots 22 = .ok (.ifCond .eq 7, 3) := by decide +kernel
theorem dX5_snapshots_25 : decode cX5_snapshots 25 = .ok (.iconst 1, 1) := by decide +kernel
theorem dX5_snapshots_26 : decode cX5_snapshots 26 = .ok (.goto 4, 3) := by decide +kernel
theorem dX5_snapshots_29 : decode cX5_snapshots 29 = .ok (.iconst 0, 1) := by decide +kernel
theorem dX5_snapshots_30 : decode cX5_snapshots 30 = .ok (.iadd, 1) := by decide +kernel
theorem dX5_snapshots_31 : decode cX5_snapshots 31 = .ok (.ireturn, 1) := by decide +kernel
theorem dX5_copyFrom_0 : decode cX5_copyFrom 0 = .ok (.aload_n 0, 1) := by decide +kernel
theorem dX5_copyFrom_1 : decode cX5_copyFrom 1 = .ok (.getfield 10, 3) := by decide +kernel
theorem dX5_copyFrom_4 : decode cX5_copyFrom 4 = .ok (.aload_n 1, 1) := by decide +kernel
theorem dX5_copyFrom_5 : decode cX5_copyFrom 5 = .ok (.getfield 10, 3) := by decide +kernel
theorem dX5_copyFrom_8 : decode cX5_copyFrom 8 = .ok (.invokevirtual 30, 3) := by decide +kernel
theorem dX5_copyFrom_11 : decode cX5_copyFrom 11 = .ok (.aload_n 0, 1) := by decide +kernel
theorem dX5_copyFrom_12 : decode cX5_copyFrom 12 = .ok (.getfield 19, 3) := by decide +kernel
theorem dX5_copyFrom_15 : decode cX5_copyFrom 15 = .ok (.aload_n 1, 1) := by decide +kernel
theorem dX5_copyFrom_16 : decode cX5_copyFrom 16 = .ok (.getfield 19, 3) := by decide +kernel
theorem dX5_copyFrom_19 : decode cX5_copyFrom 19 = .ok (.invokevirtual 34, 3) := by decide +kernel
theorem dX5_copyFrom_22 : decode cX5_copyFrom 22 = .ok (.aload_n 0, 1) := by decide +kernel
theorem dX5_copyFrom_23 : decode cX5_copyFrom 23 = .ok (.getfield 23, 3) := by decide +kernel
theorem dX5_copyFrom_26 : decode cX5_copyFrom 26 = .ok (.aload_n 1, 1) := by decide +kernel
theorem dX5_copyFrom_27 : decode cX5_copyFrom 27 = .ok (.getfield 23, 3) := by decide +kernel
theorem dX5_copyFrom_30 : decode cX5_copyFrom 30 = .ok (.invokevirtual 34, 3) := by decide +kernel
theorem dX5_copyFrom_33 : decode cX5_copyFrom 33 = .ok (.return_, 1) := by decide +kernel
theorem dX6_init_0 : decode cX6_init 0 = .ok (.aload_n 0, 1) := by decide +kernel
theorem dX6_init_1 : decode cX6_init 1 = .ok (.invokespecial 3, 3) := by decide +kernel
theorem dX6_init_4 : decode cX6_init 4 = .ok (.aload_n 0, 1) := by decide +kernel
theorem dX6_init_5 : decode cX6_init 5 = .ok (.iconst 0, 1) := by decide +kernel
theorem dX6_init_6 : decode cX6_init 6 = .ok (.iload_n 1, 1) := by decide +kernel
theorem dX6_init_7 : decode cX6_init 7 = .ok (.invokestatic 9, 3) := by decide +kernel
theorem dX6_init_10 : decode cX6_init 10 = .ok (.putfield 15, 3) := by decide +kernel
theorem dX6_init_13 : decode cX6_init 13 = .ok (.aload_n 0, 1) := by decide +kernel
theorem dX6_init_14 : decode cX6_init 14 = .ok (.iconst 0, 1) := by decide +kernel
theorem dX6_init_15 : decode cX6_init 15 = .ok (.iload_n 2, 1) := by decide +kernel
theorem dX6_init_16 : decode cX6_init 16 = .ok (.invokestatic 9, 3) := by decide +kernel
theorem dX6_init_19 : decode cX6_init 19 = .ok (.putfield 21, 3) := by decide +kernel
theorem dX6_init_22 : decode cX6_init 22 = .ok (.aload_n 0, 1) := by decide +kernel
theorem dX6_init_23 : decode cX6_init 23 = .ok (.getfield 15, 3) := by decide +kernel
theorem dX6_init_26 : decode cX6_init 26 = .ok (.aload_n 0, 1) := by decide +kernel
theorem dX6_init_27 : decode cX6_init 27 = .ok (.getfield 21, 3) := by decide +kernel
theorem dX6_init_30 : decode cX6_init 30 = .ok (.imul, 1) := by decide +kernel
theorem dX6_init_31 : decode cX6_init 31 = .ok (.istore_n 3, 1) := by decide +kernel
theorem dX6_init_32 : decode cX6_init 32 = .ok (.aload_n 0, 1) := by decide +kernel
theorem dX6_init_33 : decode cX6_init 33 = .ok (.iload_n 3, 1) := by decide +kernel
theorem dX6_init_34 : decode cX6_init 34 = .ok (.ifCond .ge 7, 3) := by decide +kernel
theorem dX6_init_37 : decode cX6_init 37 = .ok (.iconst 0, 1) := by decide +kernel
theorem dX6_init_38 : decode cX6_init 38 = .ok (.goto 4, 3) := by decide +kernel
theorem dX6_init_41 : decode cX6_init 41 = .ok (.iload_n 3, 1) := by decide +kernel
theorem dX6_init_42 : decode cX6_init 42 = .ok (.newarray .int, 2) := by decide +kernel
theorem dX6_init_44 : decode cX6_init 44 = .ok (.putfield 24, 3) := by decide +kernel
theorem dX6_init_47 : decode cX6_init 47 = .ok (.return_, 1) := by decide +kernel
theorem dX6_size_0 : decode cX6_size 0 = .ok (.aload_n 0, 1) := by decide +kernel
theorem dX6_size_1 : decode cX6_size 1 = .ok (.getfield 28, 3) := by decide +kernel
theorem dX6_size_4 : decode cX6_size 4 = .ok (.ireturn, 1) := by decide +kernel
theorem dX6_has_0 : decode cX6_has 0 = .ok (.iload_n 1, 1) := by decide +kernel
theorem dX6_has_1 : decode cX6_has 1 = .ok (.ifCond .lt 15, 3) := by decide +kernel
theorem dX6_has_4 : decode cX6_has 4 = .ok (.iload_n 1, 1) := by decide +kernel
theorem dX6_has_5 : decode cX6_has 5 = .ok (.aload_n 0, 1) := by decide +kernel
theorem dX6_has_6 : decode cX6_has 6 = .ok (.getfield 28, 3) := by decide +kernel
theorem dX6_has_9 : decode cX6_has 9 = .ok (.if_icmp .ge 7, 3) := by decide +kernel
theorem dX6_has_12 : decode cX6_has 12 = .ok (.iconst 1, 1) := by decide +kernel
theorem dX6_has_13 : decode cX6_has 13 = .ok (.goto 4, 3) := by decide +kernel
theorem dX6_has_16 : decode cX6_has 16 = .ok (.iconst 0, 1) := by decide +kernel
theorem dX6_has_17 : decode cX6_has 17 = .ok (.ireturn, 1) := by decide +kernel
theorem dX6_isFull_0 : decode cX6_isFull 0 = .ok (.aload_n 0, 1) := by decide +kernel
theorem dX6_isFull_1 : decode cX6_isFull 1 = .ok (.getfield 28, 3) := by decide +kernel
theorem dX6_isFull_4 : decode cX6_isFull 4 = .ok (.aload_n 0, 1) := by decide +kernel
theorem dX6_isFull_5 : decode cX6_isFull 5 = .ok (.getfield 15, 3) := by decide +kernel
theorem dX6_isFull_8 : decode cX6_isFull 8 = .ok (.if_icmp .lt 7, 3) := by decide +kernel
theorem dX6_isFull_11 : decode cX6_isFull 11 = .ok (.iconst 1, 1) := by decide +kernel
theorem dX6_isFull_12 : decode cX6_isFull 12 = .ok (.goto 4, 3) := by decide +kernel
theorem dX6_isFull_15 : decode cX6_isFull 15 = .ok (.iconst 0, 1) := by decide +kernel
theorem dX6_isFull_16 : decode cX6_isFull 16 = .ok (.ireturn, 1) := by decide +kernel
theorem dX6_addRow_0 : decode cX6_addRow 0 = .ok (.aload_n 0, 1) := by decide +kernel
theorem dX6_addRow_1 : decode cX6_addRow 1 = .ok (.invokevirtual 31, 3) := by decide +kernel
theorem dX6_addRow_4 : decode cX6_addRow 4 = .ok (.ifCond .eq 6, 3) := by decide +kernel
theorem dX6_addRow_7 : decode cX6_addRow 7 = .ok (.bipush (-9), 2) := by decide +kernel
theorem dX6_addRow_9 : decode cX6_addRow 9 = .ok (.ireturn, 1) := by decide +kernel
theorem dX6_addRow_10 : decode cX6_addRow 10 = .ok (.aload_n 0, 1) := by decide +kernel
theorem dX6_addRow_11 : decode cX6_addRow 11 = .ok (.getfield 28, 3) := by decide +kernel
theorem dX6_addRow_14 : decode cX6_addRow 14 = .ok (.istore_n 1, 1) := by decide +kernel
theorem dX6_addRow_15 : decode cX6_addRow 15 = .ok (.aload_n 0, 1) := by decide +kernel
theorem dX6_addRow_16 : decode cX6_addRow 16 = .ok (.iload_n 1, 1) := by decide +kernel
theorem dX6_addRow_17 : decode cX6_addRow 17 = .ok (.iconst 1, 1) := by decide +kernel
theorem dX6_addRow_18 : decode cX6_addRow 18 = .ok (.iadd, 1) := by decide +kernel
theorem dX6_addRow_19 : decode cX6_addRow 19 = .ok (.putfield 28, 3) := by decide +kernel
theorem dX6_addRow_22 : decode cX6_addRow 22 = .ok (.iconst 0, 1) := by decide +kernel
theorem dX6_addRow_23 : decode cX6_addRow 23 = .ok (.istore_n 2, 1) := by decide +kernel
theorem dX6_addRow_24 : decode cX6_addRow 24 = .ok (.iload_n 2, 1) := by decide +kernel
theorem dX6_addRow_25 : decode cX6_addRow 25 = .ok (.aload_n 0, 1) := by decide +kernel
theorem dX6_addRow_26 : decode cX6_addRow 26 = .ok (.getfield 21, 3) := by decide +kernel
theorem dX6_addRow_29 : decode cX6_addRow 29 = .ok (.if_icmp .ge 16, 3) := by decide +kernel
theorem dX6_addRow_32 : decode cX6_addRow 32 = .ok (.aload_n 0, 1) := by decide +kernel
theorem dX6_addRow_33 : decode cX6_addRow 33 = .ok (.iload_n 1, 1) := by decide +kernel
theorem dX6_addRow_34 : decode cX6_addRow 34 = .ok (.iload_n 2, 1) := by decide +kernel
theorem dX6_addRow_35 : decode cX6_addRow 35 = .ok (.iconst 0, 1) := by decide +kernel
theorem dX6_addRow_36 : decode cX6_addRow 36 = .ok (.invokevirtual 35, 3) := by decide +kernel
theorem dX6_addRow_39 : decode cX6_addRow 39 = .ok (.iinc 2 1, 3) := by decide +kernel
theorem dX6_addRow_42 : decode cX6_addRow 42 = .ok (.goto (-18), 3) := by decide +kernel
theorem dX6_addRow_45 : decode cX6_addRow 45 = .ok (.iload_n 1, 1) := by decide +kernel
theorem dX6_addRow_46 : decode cX6_addRow 46 = .ok (.ireturn, 1) := by decide +kernel
theorem dX6_cell_0 : decode cX6_cell 0 = .ok (.iload_n 1, 1) := by decide +kernel
theorem dX6_cell_1 : decode cX6_cell 1 = .ok (.aload_n 0, 1) := by decide +kernel
theorem dX6_cell_2 : decode cX6_cell 2 = .ok (.getfield 21, 3) := by decide +kernel
theorem dX6_cell_5 : decode cX6_cell 5 = .ok (.imul, 1) := by decide +kernel
theorem dX6_cell_6 : decode cX6_cell 6 = .ok (.iload_n 2, 1) := by decide +kernel
theorem dX6_cell_7 : decode cX6_cell 7 = .ok (.iadd, 1) := by decide +kernel
theorem dX6_cell_8 : decode cX6_cell 8 = .ok (.istore_n 3, 1) := by decide +kernel
theorem dX6_cell_9 : decode cX6_cell 9 = .ok (.iload_n 1, 1) := by decide +kernel
theorem dX6_cell_10 : decode cX6_cell 10 = .ok (.ifCond .lt 27, 3) := by decide +kernel
theorem dX6_cell_13 : decode cX6_cell 13 = .ok (.iload_n 1, 1) := by decide +kernel
theorem dX6_cell_14 : decode cX6_cell 14 = .ok (.aload_n 0, 1) := by decide +kernel
theorem dX6_cell_15 : decode cX6_cell 15 = .ok (.getfield 28, 3) := by decide +kernel
theorem dX6_cell_18 : decode cX6_cell 18 = .ok (.if_icmp .ge 19, 3) := by decide +kernel
theorem dX6_cell_21 : decode cX6_cell 21 = .ok (.iload_n 2, 1) := by decide +kernel
theorem dX6_cell_22 : decode cX6_cell 22 = .ok (.ifCond .lt 15, 3) := by decide +kernel
theorem dX6_cell_25 : decode cX6_cell 25 = .ok (.iload_n 2, 1) := by decide +kernel
theorem dX6_cell_26 : decode cX6_cell 26 = .ok (.aload_n 0, 1) := by decide +kernel
theorem dX6_cell_27 : decode cX6_cell 27 = .ok (.getfield 21, 3) := by decide +kernel
theorem dX6_cell_30 : decode cX6_cell 30 = .ok (.if_icmp .ge 7, 3) := by decide +kernel
theorem dX6_cell_33 : decode cX6_cell 33 = .ok (.iconst 1, 1) := by decide +kernel
theorem dX6_cell_34 : decode cX6_cell 34 = .ok (.goto 4, 3) := by decide +kernel
theorem dX6_cell_37 : decode cX6_cell 37 = .ok (.iconst 0, 1) := by decide +kernel
theorem dX6_cell_38 : decode cX6_cell 38 = .ok (.istore 4, 2) := by decide +kernel
theorem dX6_cell_40 : decode cX6_cell 40 = .ok (.iload 4, 2) := by decide +kernel
theorem dX6_cell_42 : decode cX6_cell 42 = .ok (.ifCond .eq 25, 3) := by decide +kernel
theorem dX6_cell_45 : decode cX6_cell 45 = .ok (.iload_n 3, 1) := by decide +kernel
theorem dX6_cell_46 : decode cX6_cell 46 = .ok (.ifCond .lt 21, 3) := by decide +kernel
theorem dX6_cell_49 : decode cX6_cell 49 = .ok (.iload_n 3, 1) := by decide +kernel
theorem dX6_cell_50 : decode cX6_cell 50 = .ok (.aload_n 0, 1) := by decide +kernel
theorem dX6_cell_51 : decode cX6_cell 51 = .ok (.getfield 24, 3) := by decide +kernel
theorem dX6_cell_54 : decode cX6_cell 54 = .ok (.arraylength, 1) := by decide +kernel
theorem dX6_cell_55 : decode cX6_cell 55 = .ok (.if_icmp .ge 12, 3) := by decide +kernel
theorem dX6_cell_58 : decode cX6_cell 58 = .ok (.aload_n 0, 1) := by decide +kernel
theorem dX6_cell_59 : decode cX6_cell 59 = .ok (.getfield 24, 3) := by decide +kernel
theorem dX6_cell_62 : decode cX6_cell 62 = .ok (.iload_n 3, 1) := by decide +kernel
theorem dX6_cell_63 : decode cX6_cell 63 = .ok (.iaload, 1) := by decide +kernel
theorem dX6_cell_64 : decode cX6_cell 64 = .ok (.goto 4, 3) := by decide +kernel
theorem dX6_cell_67 : decode cX6_cell 67 = .ok (.iconst 0, 1) := by decide +kernel
theorem dX6_cell_68 : decode cX6_cell 68 = .ok (.ireturn, 1) := by decide +kernel
theorem dX6_put_0 : decode cX6_put 0 = .ok (.iload_n 1, 1) := by decide +kernel
theorem dX6_put_1 : decode cX6_put 1 = .ok (.aload_n 0, 1) := by decide +kernel
theorem dX6_put_2 : decode cX6_put 2 = .ok (.getfield 21, 3) := by decide +kernel
theorem dX6_put_5 : decode cX6_put 5 = .ok (.imul, 1) := by decide +kernel
theorem dX6_put_6 : decode cX6_put 6 = .ok (.iload_n 2, 1) := by decide +kernel
theorem dX6_put_7 : decode cX6_put 7 = .ok (.iadd, 1) := by decide +kernel
theorem dX6_put_8 : decode cX6_put 8 = .ok (.istore 4, 2) := by decide +kernel
theorem dX6_put_10 : decode cX6_put 10 = .ok (.iload_n 1, 1) := by decide +kernel
theorem dX6_put_11 : decode cX6_put 11 = .ok (.ifCond .lt 27, 3) := by decide +kernel
theorem dX6_put_14 : decode cX6_put 14 = .ok (.iload_n 1, 1) := by decide +kernel
theorem dX6_put_15 : decode cX6_put 15 = .ok (.aload_n 0, 1) := by decide +kernel
theorem dX6_put_16 : decode cX6_put 16 = .ok (.getfield 28, 3) := by decide +kernel
theorem dX6_put_19 : decode cX6_put 19 = .ok (.if_icmp .ge 19, 3) := by decide +kernel
theorem dX6_put_22 : decode cX6_put 22 = .ok (.iload_n 2, 1) := by decide +kernel
theorem dX6_put_23 : decode cX6_put 23 = .ok (.ifCond .lt 15, 3) := by decide +kernel
theorem dX6_put_26 : decode cX6_put 26 = .ok (.iload_n 2, 1) := by decide +kernel
theorem dX6_put_27 : decode cX6_put 27 = .ok (.aload_n 0, 1) := by decide +kernel
theorem dX6_put_28 : decode cX6_put 28 = .ok (.getfield 21, 3) := by decide +kernel
theorem dX6_put_31 : decode cX6_put 31 = .ok (.if_icmp .ge 7, 3) := by decide +kernel
theorem dX6_put_34 : decode cX6_put 34 = .ok (.iconst 1, 1) := by decide +kernel
theorem dX6_put_35 : decode cX6_put 35 = .ok (.goto 4, 3) := by decide +kernel
theorem dX6_put_38 : decode cX6_put 38 = .ok (.iconst 0, 1) := by decide +kernel
theorem dX6_put_39 : decode cX6_put 39 = .ok (.istore 5, 2) := by decide +kernel
theorem dX6_put_41 : decode cX6_put 41 = .ok (.iload 5, 2) := by decide +kernel
theorem dX6_put_43 : decode cX6_put 43 = .ok (.ifCond .eq 26, 3) := by decide +kernel
theorem dX6_put_46 : decode cX6_put 46 = .ok (.iload 4, 2) := by decide +kernel
theorem dX6_put_48 : decode cX6_put 48 = .ok (.ifCond .lt 21, 3) := by decide +kernel
theorem dX6_put_51 : decode cX6_put 51 = .ok (.iload 4, 2) := by decide +kernel
theorem dX6_put_53 : decode cX6_put 53 = .ok (.aload_n 0, 1) := by decide +kernel
theorem dX6_put_54 : decode cX6_put 54 = .ok (.getfield 24, 3) := by decide +kernel
theorem dX6_put_57 : decode cX6_put 57 = .ok (.arraylength, 1) := by decide +kernel
theorem dX6_put_58 : decode cX6_put 58 = .ok (.if_icmp .ge 11, 3) := by decide +kernel
theorem dX6_put_61 : decode cX6_put 61 = .ok (.aload_n 0, 1) := by decide +kernel
theorem dX6_put_62 : decode cX6_put 62 = .ok (.getfield 24, 3) := by decide +kernel
theorem dX6_put_65 : decode cX6_put 65 = .ok (.iload 4, 2) := by decide +kernel
theorem dX6_put_67 : decode cX6_put 67 = .ok (.iload_n 3, 1) := by decide +kernel
theorem dX6_put_68 : decode cX6_put 68 = .ok (.iastore, 1) := by decide +kernel
theorem dX6_put_69 : decode cX6_put 69 = .ok (.return_, 1) := by decide +kernel
theorem dX6_raise_0 : decode cX6_raise 0 = .ok (.aload_n 0, 1) := by decide +kernel
theorem dX6_raise_1 : decode cX6_raise 1 = .ok (.iload_n 1, 1) := by decide +kernel
theorem dX6_raise_2 : decode cX6_raise 2 = .ok (.iload_n 2, 1) := by decide +kernel
theorem dX6_raise_3 : decode cX6_raise 3 = .ok (.aload_n 0, 1) := by decide +kernel
theorem dX6_raise_4 : decode cX6_raise 4 = .ok (.iload_n 1, 1) := by decide +kernel
theorem dX6_raise_5 : decode cX6_raise 5 = .ok (.iload_n 2, 1) := by decide +kernel
theorem dX6_raise_6 : decode cX6_raise 6 = .ok (.invokevirtual 39, 3) := by decide +kernel
theorem dX6_raise_9 : decode cX6_raise 9 = .ok (.iload_n 3, 1) := by decide +kernel
theorem dX6_raise_10 : decode cX6_raise 10 = .ok (.iadd, 1) := by decide +kernel
theorem dX6_raise_11 : decode cX6_raise 11 = .ok (.invokevirtual 35, 3) := by decide +kernel
theorem dX6_raise_14 : decode cX6_raise 14 = .ok (.return_, 1) := by decide +kernel
theorem dX6_total_0 : decode cX6_total 0 = .ok (.iconst 0, 1) := by decide +kernel
theorem dX6_total_1 : decode cX6_total 1 = .ok (.istore_n 2, 1) := by decide +kernel
theorem dX6_total_2 : decode cX6_total 2 = .ok (.iconst 0, 1) := by decide +kernel
theorem dX6_total_3 : decode cX6_total 3 = .ok (.istore_n 3, 1) := by decide +kernel
theorem dX6_total_4 : decode cX6_total 4 = .ok (.iload_n 3, 1) := by decide +kernel
theorem dX6_total_5 : decode cX6_total 5 = .ok (.aload_n 0, 1) := by decide +kernel
theorem dX6_total_6 : decode cX6_total 6 = .ok (.getfield 28, 3) := by decide +kernel
theorem dX6_total_9 : decode cX6_total 9 = .ok (.if_icmp .ge 18, 3) := by decide +kernel
theorem dX6_total_12 : decode cX6_total 12 = .ok (.iload_n 2, 1) := by decide +kernel
theorem dX6_total_13 : decode cX6_total 13 = .ok (.aload_n 0, 1) := by decide +kernel
theorem dX6_total_14 : decode cX6_total 14 = .ok (.iload_n 3, 1) := by decide +kernel
theorem dX6_total_15 : decode cX6_total 15 = .ok (.iload_n 1, 1) := by decide +kernel
theorem dX6_total_16 : decode cX6_total 16 = .ok (.invokevirtual 39, 3) := by decide +kernel
theorem dX6_total_19 : decode cX6_total 19 = .ok (.iadd, 1) := by decide +kernel
theorem dX6_total_20 : decode cX6_total 20 = .ok (.istore_n 2, 1) := by decide +kernel
theorem dX6_total_21 : decode cX6_total 21 = .ok (.iinc 3 1, 3) := by decide +kernel
theorem dX6_total_24 : decode cX6_total 24 = .ok (.goto (-20), 3) := by decide +kernel
theorem dX6_total_27 : decode cX6_total 27 = .ok (.iload_n 2, 1) := by decide +kernel
theorem dX6_total_28 : decode cX6_total 28 = .ok (.ireturn, 1) := by decide +kernel
theorem dX6_copyFrom_0 : decode cX6_copyFrom 0 = .ok (.aload_n 1, 1) := by decide +kernel
theorem dX6_copyFrom_1 : decode cX6_copyFrom 1 = .ok (.getfield 28, 3) := by decide +kernel
theorem dX6_copyFrom_4 : decode cX6_copyFrom 4 = .ok (.aload_n 1, 1) := by decide +kernel
theorem dX6_copyFrom_5 : decode cX6_copyFrom 5 = .ok (.getfield 21, 3) := by decide +kernel
theorem dX6_copyFrom_8 : decode cX6_copyFrom 8 = .ok (.imul, 1) := by decide +kernel
theorem dX6_copyFrom_9 : decode cX6_copyFrom 9 = .ok (.aload_n 1, 1) := by decide +kernel
theorem dX6_copyFrom_10 : decode cX6_copyFrom 10 = .ok (.getfield 24, 3) := by decide +kernel
theorem dX6_copyFrom_13 : decode cX6_copyFrom 13 = .ok (.arraylength, 1) := by decide +kernel
theorem dX6_copyFrom_14 : decode cX6_copyFrom 14 = .ok (.aload_n 0, 1) := by decide +kernel
theorem dX6_copyFrom_15 : decode cX6_copyFrom 15 = .ok (.getfield 24, 3) := by decide +kernel
theorem dX6_copyFrom_18 : decode cX6_copyFrom 18 = .ok (.arraylength, 1) := by decide +kernel
theorem dX6_copyFrom_19 : decode cX6_copyFrom 19 = .ok (.invokestatic 42, 3) := by decide +kernel
theorem dX6_copyFrom_22 : decode cX6_copyFrom 22 = .ok (.invokestatic 42, 3) := by decide +kernel
theorem dX6_copyFrom_25 : decode cX6_copyFrom 25 = .ok (.istore_n 2, 1) := by decide +kernel
theorem dX6_copyFrom_26 : decode cX6_copyFrom 26 = .ok (.iload_n 2, 1) := by decide +kernel
theorem dX6_copyFrom_27 : decode cX6_copyFrom 27 = .ok (.ifCond .le 17, 3) := by decide +kernel
theorem dX6_copyFrom_30 : decode cX6_copyFrom 30 = .ok (.aload_n 1, 1) := by decide +kernel
theorem dX6_copyFrom_31 : decode cX6_copyFrom 31 = .ok (.getfield 24, 3) := by decide +kernel
theorem dX6_copyFrom_34 : decode cX6_copyFrom 34 = .ok (.iconst 0, 1) := by decide +kernel
theorem dX6_copyFrom_35 : decode cX6_copyFrom 35 = .ok (.aload_n 0, 1) := by decide +kernel
theorem dX6_copyFrom_36 : decode cX6_copyFrom 36 = .ok (.getfield 24, 3) := by decide +kernel
theorem dX6_copyFrom_39 : decode cX6_copyFrom 39 = .ok (.iconst 0, 1) := by decide +kernel
theorem dX6_copyFrom_40 : decode cX6_copyFrom 40 = .ok (.iload_n 2, 1) := by decide +kernel
theorem dX6_copyFrom_41 : decode cX6_copyFrom 41 = .ok (.invokestatic 45, 3) := by decide +kernel
theorem dX6_copyFrom_44 : decode cX6_copyFrom 44 = .ok (.aload_n 0, 1) := by decide +kernel
theorem dX6_copyFrom_45 : decode cX6_copyFrom 45 = .ok (.aload_n 1, 1) := by decide +kernel
theorem dX6_copyFrom_46 : decode cX6_copyFrom 46 = .ok (.getfield 28, 3) := by decide +kernel
theorem dX6_copyFrom_49 : decode cX6_copyFrom 49 = .ok (.putfield 28, 3) := by decide +kernel
theorem dX6_copyFrom_52 : decode cX6_copyFrom 52 = .ok (.return_, 1) := by decide +kernel
theorem dX7_init_0 : decode cX7_init 0 = .ok (.aload_n 0, 1) := by decide +kernel
theorem dX7_init_1 : decode cX7_init 1 = .ok (.invokespecial 3, 3) := by decide +kernel
theorem dX7_init_4 : decode cX7_init 4 = .ok (.aload_n 0, 1) := by decide +kernel
theorem dX7_init_5 : decode cX7_init 5 = .ok (.new 9, 3) := by decide +kernel
theorem dX7_init_8 : decode cX7_init 8 = .ok (.dup, 1) := by decide +kernel
theorem dX7_init_9 : decode cX7_init 9 = .ok (.iconst 4, 1) := by decide +kernel
theorem dX7_init_10 : decode cX7_init 10 = .ok (.bipush 11, 2) := by decide +kernel
theorem dX7_init_12 : decode cX7_init 12 = .ok (.invokespecial 11, 3) := by decide +kernel
theorem dX7_init_15 : decode cX7_init 15 = .ok (.putfield 14, 3) := by decide +kernel
theorem dX7_init_18 : decode cX7_init 18 = .ok (.aload_n 0, 1) := by decide +kernel
theorem dX7_init_19 : decode cX7_init 19 = .ok (.new 9, 3) := by decide +kernel
theorem dX7_init_22 : decode cX7_init 22 = .ok (.dup, 1) := by decide +kernel
theorem dX7_init_23 : decode cX7_init 23 = .ok (.bipush 16, 2) := by decide +kernel
theorem dX7_init_25 : decode cX7_init 25 = .ok (.bipush 10, 2) := by decide +kernel
theorem dX7_init_27 : decode cX7_init 27 = .ok (.invokespecial 11, 3) := by decide +kernel
theorem dX7_init_30 : decode cX7_init 30 = .ok (.putfield 20, 3) := by decide +kernel
theorem dX7_init_33 : decode cX7_init 33 = .ok (.aload_n 0, 1) := by decide +kernel
theorem dX7_init_34 : decode cX7_init 34 = .ok (.new 9, 3) := by decide +kernel
theorem dX7_init_37 : decode cX7_init 37 = .ok (.dup, 1) := by decide +kernel
theorem dX7_init_38 : decode cX7_init 38 = .ok (.bipush 8, 2) := by decide +kernel
theorem dX7_init_40 : decode cX7_init 40 = .ok (.iconst 2, 1) := by decide +kernel
theorem dX7_init_41 : decode cX7_init 41 = .ok (.invokespecial 11, 3) := by decide +kernel
theorem dX7_init_44 : decode cX7_init 44 = .ok (.putfield 23, 3) := by decide +kernel
theorem dX7_init_47 : decode cX7_init 47 = .ok (.aload_n 0, 1) := by decide +kernel
theorem dX7_init_48 : decode cX7_init 48 = .ok (.new 9, 3) := by decide +kernel
theorem dX7_init_51 : decode cX7_init 51 = .ok (.dup, 1) := by decide +kernel
theorem dX7_init_52 : decode cX7_init 52 = .ok (.bipush 16, 2) := by decide +kernel
theorem dX7_init_54 : decode cX7_init 54 = .ok (.iconst 4, 1) := by decide +kernel
theorem dX7_init_55 : decode cX7_init 55 = .ok (.invokespecial 11, 3) := by decide +kernel
theorem dX7_init_58 : decode cX7_init 58 = .ok (.putfield 26, 3) := by decide +kernel
theorem dX7_init_61 : decode cX7_init 61 = .ok (.aload_n 0, 1) := by decide +kernel
theorem dX7_init_62 : decode cX7_init 62 = .ok (.new 9, 3) := by decide +kernel
theorem dX7_init_65 : decode cX7_init 65 = .ok (.dup, 1) := by decide +kernel
theorem dX7_init_66 : decode cX7_init 66 = .ok (.getstatic 29, 3) := by decide +kernel
theorem dX7_init_69 : decode cX7_init 69 = .ok (.arraylength, 1) := by decide +kernel
theorem dX7_init_70 : decode cX7_init 70 = .ok (.iconst 1, 1) := by decide +kernel
theorem dX7_init_71 : decode cX7_init 71 = .ok (.invokespecial 11, 3) := by decide +kernel
theorem dX7_init_74 : decode cX7_init 74 = .ok (.putfield 33, 3) := by decide +kernel
theorem dX7_init_77 : decode cX7_init 77 = .ok (.iconst 0, 1) := by decide +kernel
theorem dX7_init_78 : decode cX7_init 78 = .ok (.istore_n 1, 1) := by decide +kernel
theorem dX7_init_79 : decode cX7_init 79 = .ok (.iload_n 1, 1) := by decide +kernel
theorem dX7_init_80 : decode cX7_init 80 = .ok (.getstatic 29, 3) := by decide +kernel
theorem dX7_init_83 : decode cX7_init 83 = .ok (.arraylength, 1) := by decide +kernel
theorem dX7_init_84 : decode cX7_init 84 = .ok (.if_icmp .ge 29, 3) := by decide +kernel
theorem dX7_init_87 : decode cX7_init 87 = .ok (.aload_n 0, 1) := by decide +kernel
theorem dX7_init_88 : decode cX7_init 88 = .ok (.getfield 33, 3) := by decide +kernel
theorem dX7_init_91 : decode cX7_init 91 = .ok (.aload_n 0, 1) := by decide +kernel
theorem dX7_init_92 : decode cX7_init 92 = .ok (.getfield 33, 3) := by decide +kernel
theorem dX7_init_95 : decode cX7_init 95 = .ok (.invokevirtual 36, 3) := by decide +kernel
theorem dX7_init_98 : decode cX7_init 98 = .ok (.iconst 0, 1) := by decide +kernel
theorem dX7_init_99 : decode cX7_init 99 = .ok (.getstatic 29, 3) := by decide +kernel
theorem dX7_init_102 : decode cX7_init 102 = .ok (.iload_n 1, 1) := by decide +kernel
theorem dX7_init_103 : decode cX7_init 103 = .ok (.iaload, 1) := by decide +kernel
theorem dX7_init_104 : decode cX7_init 104 = .ok (.invokevirtual 40, 3) := by decide +kernel
theorem dX7_init_107 : decode cX7_init 107 = .ok (.iinc 1 1, 3) := by decide +kernel
theorem dX7_init_110 : decode cX7_init 110 = .ok (.goto (-31), 3) := by decide +kernel
theorem dX7_init_113 : decode cX7_init 113 = .ok (.return_, 1) := by decide +kernel
theorem dX7_copyFrom_0 : decode cX7_copyFrom 0 = .ok (.aload_n 0, 1) := by decide +kernel
theorem dX7_copyFrom_1 : decode cX7_copyFrom 1 = .ok (.getfield 14, 3) := by decide +kernel
theorem dX7_copyFrom_4 : decode cX7_copyFrom 4 = .ok (.aload_n 1, 1) := by decide +kernel
theorem dX7_copyFrom_5 : decode cX7_copyFrom 5 = .ok (.getfield 14, 3) := by decide +kernel
theorem dX7_copyFrom_8 : decode cX7_copyFrom 8 = .ok (.invokevirtual 44, 3) := by decide +kernel
theorem dX7_copyFrom_11 : decode cX7_copyFrom 11 = .ok (.aload_n 0, 1) := by decide +kernel
theorem dX7_copyFrom_12 : decode cX7_copyFrom 12 = .ok (.getfield 20, 3) := by decide +kernel
theorem dX7_copyFrom_15 : decode cX7_copyFrom 15 = .ok (.aload_n 1, 1) := by decide +kernel
theorem dX7_copyFrom_16 : decode cX7_copyFrom 16 = .ok (.getfield 20, 3) := by decide +kernel
theorem dX7_copyFrom_19 : decode cX7_copyFrom 19 = .ok (.invokevirtual 44, 3) := by decide +kernel
theorem dX7_copyFrom_22 : decode cX7_copyFrom 22 = .ok (.aload_n 0, 1) := by decide +kernel
theorem dX7_copyFrom_23 : decode cX7_copyFrom 23 = .ok (.getfield 23, 3) := by decide +kernel
theorem dX7_copyFrom_26 : decode cX7_copyFrom 26 = .ok (.aload_n 1, 1) := by decide +kernel
theorem dX7_copyFrom_27 : decode cX7_copyFrom 27 = .ok (.getfield 23, 3) := by decide +kernel
theorem dX7_copyFrom_30 : decode cX7_copyFrom 30 = .ok (.invokevirtual 44, 3) := by decide +kernel
theorem dX7_copyFrom_33 : decode cX7_copyFrom 33 = .ok (.aload_n 0, 1) := by decide +kernel
theorem dX7_copyFrom_34 : decode cX7_copyFrom 34 = .ok (.getfield 26, 3) := by decide +kernel
theorem dX7_copyFrom_37 : decode cX7_copyFrom 37 = .ok (.aload_n 1, 1) := by decide +kernel
theorem dX7_copyFrom_38 : decode cX7_copyFrom 38 = .ok (.getfield 26, 3) := by decide +kernel
theorem dX7_copyFrom_41 : decode cX7_copyFrom 41 = .ok (.invokevirtual 44, 3) := by decide +kernel
theorem dX7_copyFrom_44 : decode cX7_copyFrom 44 = .ok (.aload_n 0, 1) := by decide +kernel
theorem dX7_copyFrom_45 : decode cX7_copyFrom 45 = .ok (.getfield 33, 3) := by decide +kernel
theorem dX7_copyFrom_48 : decode cX7_copyFrom 48 = .ok (.aload_n 1, 1) := by decide +kernel
theorem dX7_copyFrom_49 : decode cX7_copyFrom 49 = .ok (.getfield 33, 3) := by decide +kernel
theorem dX7_copyFrom_52 : decode cX7_copyFrom 52 = .ok (.invokevirtual 44, 3) := by decide +kernel
theorem dX7_copyFrom_55 : decode cX7_copyFrom 55 = .ok (.aload_n 0, 1) := by decide +kernel
theorem dX7_copyFrom_56 : decode cX7_copyFrom 56 = .ok (.aload_n 1, 1) := by decide +kernel
theorem dX7_copyFrom_57 : decode cX7_copyFrom 57 = .ok (.getfield 48, 3) := by decide +kernel
theorem dX7_copyFrom_60 : decode cX7_copyFrom 60 = .ok (.putfield 48, 3) := by decide +kernel
theorem dX7_copyFrom_63 : decode cX7_copyFrom 63 = .ok (.return_, 1) := by decide +kernel
theorem dX7_setting_0 : decode cX7_setting 0 = .ok (.aload_n 0, 1) := by decide +kernel
theorem dX7_setting_1 : decode cX7_setting 1 = .ok (.getfield 33, 3) := by decide +kernel
theorem dX7_setting_4 : decode cX7_setting 4 = .ok (.iload_n 1, 1) := by decide +kernel
theorem dX7_setting_5 : decode cX7_setting 5 = .ok (.iconst 0, 1) := by decide +kernel
theorem dX7_setting_6 : decode cX7_setting 6 = .ok (.invokevirtual 52, 3) := by decide +kernel
theorem dX7_setting_9 : decode cX7_setting 9 = .ok (.ireturn, 1) := by decide +kernel
theorem dX7_isBooked_0 : decode cX7_isBooked 0 = .ok (.aload_n 0, 1) := by decide +kernel
theorem dX7_isBooked_1 : decode cX7_isBooked 1 = .ok (.getfield 20, 3) := by decide +kernel
theorem dX7_isBooked_4 : decode cX7_isBooked 4 = .ok (.iload_n 1, 1) := by decide +kernel
theorem dX7_isBooked_5 : decode cX7_isBooked 5 = .ok (.invokevirtual 56, 3) := by decide +kernel
theorem dX7_isBooked_8 : decode cX7_isBooked 8 = .ok (.ifCond .eq 19, 3) := by decide +kernel
theorem dX7_isBooked_11 : decode cX7_isBooked 11 = .ok (.aload_n 0, 1) := by decide +kernel
theorem dX7_isBooked_12 : decode cX7_isBooked 12 = .ok (.getfield 20, 3) := by decide +kernel
theorem dX7_isBooked_15 : decode cX7_isBooked 15 = .ok (.iload_n 1, 1) := by decide +kernel
theorem dX7_isBooked_16 : decode cX7_isBooked 16 = .ok (.iconst 3, 1) := by decide +kernel
theorem dX7_isBooked_17 : decode cX7_isBooked 17 = .ok (.invokevirtual 52, 3) := by decide +kernel
theorem dX7_isBooked_20 : decode cX7_isBooked 20 = .ok (.ifCond .ne 7, 3) := by decide +kernel
theorem dX7_isBooked_23 : decode cX7_isBooked 23 = .ok (.iconst 1, 1) := by decide +kernel
theorem dX7_isBooked_24 : decode cX7_isBooked 24 = .ok (.goto 4, 3) := by decide +kernel
theorem dX7_isBooked_27 : decode cX7_isBooked 27 = .ok (.iconst 0, 1) := by decide +kernel
theorem dX7_isBooked_28 : decode cX7_isBooked 28 = .ok (.ireturn, 1) := by decide +kernel
theorem dX7_bookingsInState_0 : decode cX7_bookingsInState 0 = .ok (.iconst 0, 1) := by decide +kernel
theorem dX7_bookingsInState_1 : decode cX7_bookingsInState 1 = .ok (.istore_n 2, 1) := by decide +kernel
theorem dX7_bookingsInState_2 : decode cX7_bookingsInState 2 = .ok (.iconst 0, 1) := by decide +kernel
theorem dX7_bookingsInState_3 : decode cX7_bookingsInState 3 = .ok (.istore_n 3, 1) := by decide +kernel
theorem dX7_bookingsInState_4 : decode cX7_bookingsInState 4 = .ok (.iload_n 3, 1) := by decide +kernel
theorem dX7_bookingsInState_5 : decode cX7_bookingsInState 5 = .ok (.aload_n 0, 1) := by decide +kernel
theorem dX7_bookingsInState_6 : decode cX7_bookingsInState 6 = .ok (.getfield 20, 3) := by decide +kernel
theorem dX7_bookingsInState_9 : decode cX7_bookingsInState 9 = .ok (.invokevirtual 60, 3) := by decide +kernel
theorem dX7_bookingsInState_12 : decode cX7_bookingsInState 12 = .ok (.if_icmp .ge 25, 3) := by decide +kernel
theorem dX7_bookingsInState_15 : decode cX7_bookingsInState 15 = .ok (.aload_n 0, 1) := by decide +kernel
theorem dX7_bookingsInState_16 : decode cX7_bookingsInState 16 = .ok (.getfield 20, 3) := by decide +kernel
theorem dX7_bookingsInState_19 : decode cX7_bookingsInState 19 = .ok (.iload_n 3, 1) := by decide +kernel
theorem dX7_bookingsInState_20 : decode cX7_bookingsInState 20 = .ok (.iconst 3, 1) := by decide +kernel
theorem dX7_bookingsInState_21 : decode cX7_bookingsInState 21 = .ok (.invokevirtual 52, 3) := by decide +kernel
theorem dX7_bookingsInState_24 : decode cX7_bookingsInState 24 = .ok (.iload_n 1, 1) := by decide +kernel
theorem dX7_bookingsInState_25 : decode cX7_bookingsInState 25 = .ok (.if_icmp .ne 6, 3) := by decide +kernel
theorem dX7_bookingsInState_28 : decode cX7_bookingsInState 28 = .ok (.iinc 2 1, 3) := by decide +kernel
theorem dX7_bookingsInState_31 : decode cX7_bookingsInState 31 = .ok (.iinc 3 1, 3) := by decide +kernel
theorem dX7_bookingsInState_34 : decode cX7_bookingsInState 34 = .ok (.goto (-30), 3) := by decide +kernel
theorem dX7_bookingsInState_37 : decode cX7_bookingsInState 37 = .ok (.iload_n 2, 1) := by decide +kernel
theorem dX7_bookingsInState_38 : decode cX7_bookingsInState 38 = .ok (.ireturn, 1) := by decide +kernel
theorem dX7_period_0 : decode cX7_period 0 = .ok (.aload_n 0, 1) := by decide +kernel
theorem dX7_period_1 : decode cX7_period 1 = .ok (.getfield 14, 3) := by decide +kernel
theorem dX7_period_4 : decode cX7_period 4 = .ok (.iload_n 1, 1) := by decide +kernel
theorem dX7_period_5 : decode cX7_period 5 = .ok (.iconst 0, 1) := by decide +kernel
theorem dX7_period_6 : decode cX7_period 6 = .ok (.invokevirtual 52, 3) := by decide +kernel
theorem dX7_period_9 : decode cX7_period 9 = .ok (.aload_n 0, 1) := by decide +kernel
theorem dX7_period_10 : decode cX7_period 10 = .ok (.getfield 14, 3) := by decide +kernel
theorem dX7_period_13 : decode cX7_period 13 = .ok (.iload_n 1, 1) := by decide +kernel
theorem dX7_period_14 : decode cX7_period 14 = .ok (.iconst 1, 1) := by decide +kernel
theorem dX7_period_15 : decode cX7_period 15 = .ok (.invokevirtual 52, 3) := by decide +kernel
theorem dX7_period_18 : decode cX7_period 18 = .ok (.iadd, 1) := by decide +kernel
theorem dX7_period_19 : decode cX7_period 19 = .ok (.ireturn, 1) := by decide +kernel
theorem dX7_timeBehindPlays_0 : decode cX7_timeBehindPlays 0 = .ok (.iconst 0, 1) := by decide +kernel
theorem dX7_timeBehindPlays_1 : decode cX7_timeBehindPlays 1 = .ok (.istore_n 2, 1) := by decide +kernel
theorem dX7_timeBehindPlays_2 : decode cX7_timeBehindPlays 2 = .ok (.iconst 0, 1) := by decide +kernel
theorem dX7_timeBehindPlays_3 : decode cX7_timeBehindPlays 3 = .ok (.istore_n 3, 1) := by decide +kernel
theorem dX7_timeBehindPlays_4 : decode cX7_timeBehindPlays 4 = .ok (.iload_n 3, 1) := by decide +kernel
theorem dX7_timeBehindPlays_5 : decode cX7_timeBehindPlays 5 = .ok (.aload_n 0, 1) := by decide +kernel
theorem dX7_timeBehindPlays_6 : decode cX7_timeBehindPlays 6 = .ok (.getfield 20, 3) := by decide +kernel
theorem dX7_timeBehindPlays_9 : decode cX7_timeBehindPlays 9 = .ok (.invokevirtual 60, 3) := by decide +kernel
theorem dX7_timeBehindPlays_12 : decode cX7_timeBehindPlays 12 = .ok (.if_icmp .ge 51, 3) := by decide +kernel
theorem dX7_timeBehindPlays_15 : decode cX7_timeBehindPlays 15 = .ok (.aload_n 0, 1) := by decide +kernel
theorem dX7_timeBehindPlays_16 : decode cX7_timeBehindPlays 16 = .ok (.getfield 20, 3) := by decide +kernel
theorem dX7_timeBehindPlays_19 : decode cX7_timeBehindPlays 19 = .ok (.iload_n 3, 1) := by decide +kernel
theorem dX7_timeBehindPlays_20 : decode cX7_timeBehindPlays 20 = .ok (.iconst 0, 1) := by decide +kernel
theorem dX7_timeBehindPlays_21 : decode cX7_timeBehindPlays 21 = .ok (.invokevirtual 52, 3) := by decide +kernel
theorem dX7_timeBehindPlays_24 : decode cX7_timeBehindPlays 24 = .ok (.iload_n 1, 1) := by decide +kernel
theorem dX7_timeBehindPlays_25 : decode cX7_timeBehindPlays 25 = .ok (.if_icmp .ne 32, 3) := by decide +kernel
theorem dX7_timeBehindPlays_28 : decode cX7_timeBehindPlays 28 = .ok (.aload_n 0, 1) := by decide +kernel
theorem dX7_timeBehindPlays_29 : decode cX7_timeBehindPlays 29 = .ok (.getfield 20, 3) := by decide +kernel
theorem dX7_timeBehindPlays_32 : decode cX7_timeBehindPlays 32 = .ok (.iload_n 3, 1) := by decide +kernel
theorem dX7_timeBehindPlays_33 : decode cX7_timeBehindPlays 33 = .ok (.iconst 3, 1) := by decide +kernel
theorem dX7_timeBehindPlays_34 : decode cX7_timeBehindPlays 34 = .ok (.invokevirtual 52, 3) := by decide +kernel
theorem dX7_timeBehindPlays_37 : decode cX7_timeBehindPlays 37 = .ok (.iconst 1, 1) := by decide +kernel
theorem dX7_timeBehindPlays_38 : decode cX7_timeBehindPlays 38 = .ok (.if_icmp .ne 19, 3) := by decide +kernel
theorem dX7_timeBehindPlays_41 : decode cX7_timeBehindPlays 41 = .ok (.iload_n 2, 1) := by decide +kernel
theorem dX7_timeBehindPlays_42 : decode cX7_timeBehindPlays 42 = .ok (.aload_n 0, 1) := by decide +kernel
theorem dX7_timeBehindPlays_43 : decode cX7_timeBehindPlays 43 = .ok (.getfield 20, 3) := by decide +kernel
theorem dX7_timeBehindPlays_46 : decode cX7_timeBehindPlays 46 = .ok (.iload_n 3, 1) := by decide +kernel
theorem dX7_timeBehindPlays_47 : decode cX7_timeBehindPlays 47 = .ok (.iconst 1, 1) := by decide +kernel
theorem dX7_timeBehindPlays_48 : decode cX7_timeBehindPlays 48 = .ok (.invokevirtual 52, 3) := by decide +kernel
theorem dX7_timeBehindPlays_51 : decode cX7_timeBehindPlays 51 = .ok (.iconst 1, 1) := by decide +kernel
theorem dX7_timeBehindPlays_52 : decode cX7_timeBehindPlays 52 = .ok (.iadd, 1) := by decide +kernel
theorem dX7_timeBehindPlays_53 : decode cX7_timeBehindPlays 53 = .ok (.invokestatic 63, 3) := by decide +kernel
theorem dX7_timeBehindPlays_56 : decode cX7_timeBehindPlays 56 = .ok (.istore_n 2, 1) := by decide +kernel
theorem dX7_timeBehindPlays_57 : decode cX7_timeBehindPlays 57 = .ok (.iinc 3 1, 3) := by decide +kernel
theorem dX7_timeBehindPlays_60 : decode cX7_timeBehindPlays 60 = .ok (.goto (-56), 3) := by decide +kernel
theorem dX7_timeBehindPlays_63 : decode cX7_timeBehindPlays 63 = .ok (.iload_n 2, 1) := by decide +kernel
theorem dX7_timeBehindPlays_64 : decode cX7_timeBehindPlays 64 = .ok (.ireturn, 1) := by decide +kernel
theorem dX7_collision_0 : decode cX7_collision 0 = .ok (.aload_n 0, 1) := by decide +kernel
theorem dX7_collision_1 : decode cX7_collision 1 = .ok (.iload_n 1, 1) := by decide +kernel
theorem dX7_collision_2 : decode cX7_collision 2 = .ok (.invokevirtual 68, 3) := by decide +kernel
theorem dX7_collision_5 : decode cX7_collision 5 = .ok (.istore 4, 2) := by decide +kernel
theorem dX7_collision_7 : decode cX7_collision 7 = .ok (.iconst 0, 1) := by decide +kernel
theorem dX7_collision_8 : decode cX7_collision 8 = .ok (.istore 5, 2) := by decide +kernel
theorem dX7_collision_10 : decode cX7_collision 10 = .ok (.iload 5, 2) := by decide +kernel
theorem dX7_collision_12 : decode cX7_collision 12 = .ok (.aload_n 0, 1) := by decide +kernel
theorem dX7_collision_13 : decode cX7_collision 13 = .ok (.getfield 20, 3) := by decide +kernel
theorem dX7_collision_16 : decode cX7_collision 16 = .ok (.invokevirtual 60, 3) := by decide +kernel
theorem dX7_collision_19 : decode cX7_collision 19 = .ok (.if_icmp .ge 87, 3) := by decide +kernel
theorem dX7_collision_22 : decode cX7_collision 22 = .ok (.aload_n 0, 1) := by decide +kernel
theorem dX7_collision_23 : decode cX7_collision 23 = .ok (.getfield 20, 3) := by decide +kernel
theorem dX7_collision_26 : decode cX7_collision 26 = .ok (.iload 5, 2) := by decide +kernel
theorem dX7_collision_28 : decode cX7_collision 28 = .ok (.iconst 3, 1) := by decide +kernel
theorem dX7_collision_29 : decode cX7_collision 29 = .ok (.invokevirtual 52, 3) := by decide +kernel
theorem dX7_collision_32 : decode cX7_collision 32 = .ok (.istore 6, 2) := by decide +kernel
theorem dX7_collision_34 : decode cX7_collision 34 = .ok (.iload 5, 2) := by decide +kernel
theorem dX7_collision_36 : decode cX7_collision 36 = .ok (.iload_n 3, 1) := by decide +kernel
theorem dX7_collision_37 : decode cX7_collision 37 = .ok (.if_icmp .eq 32, 3) := by decide +kernel
theorem dX7_collision_40 : decode cX7_collision 40 = .ok (.aload_n 0, 1) := by decide +kernel
theorem dX7_collision_41 : decode cX7_collision 41 = .ok (.getfield 20, 3) := by decide +kernel
theorem dX7_collision_44 : decode cX7_collision 44 = .ok (.iload 5, 2) := by decide +kernel
theorem dX7_collision_46 : decode cX7_collision 46 = .ok (.iconst 0, 1) := by decide +kernel
theorem dX7_collision_47 : decode cX7_collision 47 = .ok (.invokevirtual 52, 3) := by decide +kernel
theorem dX7_collision_50 : decode cX7_collision 50 = .ok (.iload_n 1, 1) := by decide +kernel
theorem dX7_collision_51 : decode cX7_collision 51 = .ok (.if_icmp .ne 18, 3) := by decide +kernel
theorem dX7_collision_54 : decode cX7_collision 54 = .ok (.iload 6, 2) := by decide +kernel
theorem dX7_collision_56 : decode cX7_collision 56 = .ok (.ifCond .eq 9, 3) := by decide +kernel
theorem dX7_collision_59 : decode cX7_collision 59 = .ok (.iload 6, 2) := by decide +kernel
theorem dX7_collision_61 : decode cX7_collision 61 = .ok (.iconst 1, 1) := by decide +kernel
theorem dX7_collision_62 : decode cX7_collision 62 = .ok (.if_icmp .ne 7, 3) := by decide +kernel
theorem dX7_collision_65 : decode cX7_collision 65 = .ok (.iconst 1, 1) := by decide +kernel
theorem dX7_collision_66 : decode cX7_collision 66 = .ok (.goto 4, 3) := by decide +kernel
theorem dX7_collision_69 : decode cX7_collision 69 = .ok (.iconst 0, 1) := by decide +kernel
theorem dX7_collision_70 : decode cX7_collision 70 = .ok (.istore 7, 2) := by decide +kernel
theorem dX7_collision_72 : decode cX7_collision 72 = .ok (.iload 7, 2) := by decide +kernel
theorem dX7_collision_74 : decode cX7_collision 74 = .ok (.ifCond .eq 26, 3) := by decide +kernel
theorem dX7_collision_77 : decode cX7_collision 77 = .ok (.aload_n 0, 1) := by decide +kernel
theorem dX7_collision_78 : decode cX7_collision 78 = .ok (.getfield 20, 3) := by decide +kernel
theorem dX7_collision_81 : decode cX7_collision 81 = .ok (.iload 5, 2) := by decide +kernel
theorem dX7_collision_83 : decode cX7_collision 83 = .ok (.iconst 1, 1) := by decide +kernel
theorem dX7_collision_84 : decode cX7_collision 84 = .ok (.invokevirtual 52, 3) := by decide +kernel
theorem dX7_collision_87 : decode cX7_collision 87 = .ok (.iload_n 2, 1) := by decide +kernel
theorem dX7_collision_88 : decode cX7_collision 88 = .ok (.isub, 1) := by decide +kernel
theorem dX7_collision_89 : decode cX7_collision 89 = .ok (.invokestatic 72, 3) := by decide +kernel
theorem dX7_collision_92 : decode cX7_collision 92 = .ok (.iload 4, 2) := by decide +kernel
theorem dX7_collision_94 : decode cX7_collision 94 = .ok (.if_icmp .ge 6, 3) := by decide +kernel
theorem dX7_collision_97 : decode cX7_collision 97 = .ok (.iload 5, 2) := by decide +kernel
theorem dX7_collision_99 : decode cX7_collision 99 = .ok (.ireturn, 1) := by decide +kernel
theorem dX7_collision_100 : decode cX7_collision 100 = .ok (.iinc 5 1, 3) := by decide +kernel
theorem dX7_collision_103 : decode cX7_collision 103 = .ok (.goto (-93), 3) := by decide +kernel
theorem dX7_collision_106 : decode cX7_collision 106 = .ok (.bipush (-9), 2) := by decide +kernel
theorem dX7_collision_108 : decode cX7_collision 108 = .ok (.ireturn, 1) := by decide +kernel
theorem dX7_isPossible_0 : decode cX7_isPossible 0 = .ok (.iload_n 2, 1) := by decide +kernel
theorem dX7_isPossible_1 : decode cX7_isPossible 1 = .ok (.aload_n 0, 1) := by decide +kernel
theorem dX7_isPossible_2 : decode cX7_isPossible 2 = .ok (.iload_n 1, 1) := by decide +kernel
theorem dX7_isPossible_3 : decode cX7_isPossible 3 = .ok (.invokevirtual 75, 3) := by decide +kernel
theorem dX7_isPossible_6 : decode cX7_isPossible 6 = .ok (.if_icmp .lt 19, 3) := by decide +kernel
theorem dX7_isPossible_9 : decode cX7_isPossible 9 = .ok (.aload_n 0, 1) := by decide +kernel
theorem dX7_isPossible_10 : decode cX7_isPossible 10 = .ok (.iload_n 1, 1) := by decide +kernel
theorem dX7_isPossible_11 : decode cX7_isPossible 11 = .ok (.iload_n 2, 1) := by decide +kernel
theorem dX7_isPossible_12 : decode cX7_isPossible 12 = .ok (.iload_n 3, 1) := by decide +kernel
theorem dX7_isPossible_13 : decode cX7_isPossible 13 = .ok (.invokevirtual 78, 3) := by decide +kernel
theorem dX7_isPossible_16 : decode cX7_isPossible 16 = .ok (.bipush (-9), 2) := by decide +kernel
theorem dX7_isPossible_18 : decode cX7_isPossible 18 = .ok (.if_icmp .ne 7, 3) := by decide +kernel
theorem dX7_isPossible_21 : decode cX7_isPossible 21 = .ok (.iconst 1, 1) := by decide +kernel
theorem dX7_isPossible_22 : decode cX7_isPossible 22 = .ok (.goto 4, 3) := by decide +kernel
theorem dX7_isPossible_25 : decode cX7_isPossible 25 = .ok (.iconst 0, 1) := by decide +kernel
theorem dX7_isPossible_26 : decode cX7_isPossible 26 = .ok (.ireturn, 1) := by decide +kernel
theorem dX7_nextBooked_0 : decode cX7_nextBooked 0 = .ok (.bipush (-9), 2) := by decide +kernel
theorem dX7_nextBooked_2 : decode cX7_nextBooked 2 = .ok (.istore_n 3, 1) := by decide +kernel
theorem dX7_nextBooked_3 : decode cX7_nextBooked 3 = .ok (.iconst 0, 1) := by decide +kernel
theorem dX7_nextBooked_4 : decode cX7_nextBooked 4 = .ok (.istore 4, 2) := by decide +kernel
theorem dX7_nextBooked_6 : decode cX7_nextBooked 6 = .ok (.iconst 0, 1) := by decide +kernel
theorem dX7_nextBooked_7 : decode cX7_nextBooked 7 = .ok (.istore 5, 2) := by decide +kernel
theorem dX7_nextBooked_9 : decode cX7_nextBooked 9 = .ok (.iload 5, 2) := by decide +kernel
theorem dX7_nextBooked_11 : decode cX7_nextBooked 11 = .ok (.aload_n 0, 1) := by decide +kernel
theorem dX7_nextBooked_12 : decode cX7_nextBooked 12 = .ok (.getfield 20, 3) := by decide +kernel
theorem dX7_nextBooked_15 : decode cX7_nextBooked 15 = .ok (.invokevirtual 60, 3) := by decide +kernel
theorem dX7_nextBooked_18 : decode cX7_nextBooked 18 = .ok (.if_icmp .ge 86, 3) := by decide +kernel
theorem dX7_nextBooked_21 : decode cX7_nextBooked 21 = .ok (.aload_n 0, 1) := by decide +kernel
theorem dX7_nextBooked_22 : decode cX7_nextBooked 22 = .ok (.getfield 20, 3) := by decide +kernel
theorem dX7_nextBooked_25 : decode cX7_nextBooked 25 = .ok (.iload 5, 2) := by decide +kernel
theorem dX7_nextBooked_27 : decode cX7_nextBooked 27 = .ok (.iconst 1, 1) := by decide +kernel
theorem dX7_nextBooked_28 : decode cX7_nextBooked 28 = .ok (.invokevirtual 52, 3) := by decide +kernel
theorem dX7_nextBooked_31 : decode cX7_nextBooked 31 = .ok (.istore 6, 2) := by decide +kernel
theorem dX7_nextBooked_33 : decode cX7_nextBooked 33 = .ok (.aload_n 0, 1) := by decide +kernel
theorem dX7_nextBooked_34 : decode cX7_nextBooked 34 = .ok (.getfield 20, 3) := by decide +kernel
theorem dX7_nextBooked_37 : decode cX7_nextBooked 37 = .ok (.iload 5, 2) := by decide +kernel
theorem dX7_nextBooked_39 : decode cX7_nextBooked 39 = .ok (.iconst 3, 1) := by decide +kernel
theorem dX7_nextBooked_40 : decode cX7_nextBooked 40 = .ok (.invokevirtual 52, 3) := by decide +kernel
theorem dX7_nextBooked_43 : decode cX7_nextBooked 43 = .ok (.ifCond .ne 27, 3) := by decide +kernel
theorem dX7_nextBooked_46 : decode cX7_nextBooked 46 = .ok (.aload_n 0, 1) := by decide +kernel
theorem dX7_nextBooked_47 : decode cX7_nextBooked 47 = .ok (.getfield 20, 3) := by decide +kernel
theorem dX7_nextBooked_50 : decode cX7_nextBooked 50 = .ok (.iload 5, 2) := by decide +kernel
theorem dX7_nextBooked_52 : decode cX7_nextBooked 52 = .ok (.iconst 0, 1) := by decide +kernel
theorem dX7_nextBooked_53 : decode cX7_nextBooked 53 = .ok (.invokevirtual 52, 3) := by decide +kernel
theorem dX7_nextBooked_56 : decode cX7_nextBooked 56 = .ok (.iload_n 1, 1) := by decide +kernel
theorem dX7_nextBooked_57 : decode cX7_nextBooked 57 = .ok (.if_icmp .ne 13, 3) := by decide +kernel
theorem dX7_nextBooked_60 : decode cX7_nextBooked 60 = .ok (.iload 6, 2) := by decide +kernel
theorem dX7_nextBooked_62 : decode cX7_nextBooked 62 = .ok (.iload_n 2, 1) := by decide +kernel
theorem dX7_nextBooked_63 : decode cX7_nextBooked 63 = .ok (.if_icmp .le 7, 3) := by decide +kernel
theorem dX7_nextBooked_66 : decode cX7_nextBooked 66 = .ok (.iconst 1, 1) := by decide +kernel
theorem dX7_nextBooked_67 : decode cX7_nextBooked 67 = .ok (.goto 4, 3) := by decide +kernel
theorem dX7_nextBooked_70 : decode cX7_nextBooked 70 = .ok (.iconst 0, 1) := by decide +kernel
theorem dX7_nextBooked_71 : decode cX7_nextBooked 71 = .ok (.istore 7, 2) := by decide +kernel
theorem dX7_nextBooked_73 : decode cX7_nextBooked 73 = .ok (.iload 7, 2) := by decide +kernel
theorem dX7_nextBooked_75 : decode cX7_nextBooked 75 = .ok (.ifCond .eq 23, 3) := by decide +kernel
theorem dX7_nextBooked_78 : decode cX7_nextBooked 78 = .ok (.iload_n 3, 1) := by decide +kernel
theorem dX7_nextBooked_79 : decode cX7_nextBooked 79 = .ok (.bipush (-9), 2) := by decide +kernel
theorem dX7_nextBooked_81 : decode cX7_nextBooked 81 = .ok (.if_icmp .eq 10, 3) := by decide +kernel
theorem dX7_nextBooked_84 : decode cX7_nextBooked 84 = .ok (.iload 6, 2) := by decide +kernel
theorem dX7_nextBooked_86 : decode cX7_nextBooked 86 = .ok (.iload 4, 2) := by decide +kernel
theorem dX7_nextBooked_88 : decode cX7_nextBooked 88 = .ok (.if_icmp .ge 10, 3) := by decide +kernel
theorem dX7_nextBooked_91 : decode cX7_nextBooked 91 = .ok (.iload 5, 2) := by decide +kernel
theorem dX7_nextBooked_93 : decode cX7_nextBooked 93 = .ok (.istore_n 3, 1) := by decide +kernel
theorem dX7_nextBooked_94 : decode cX7_nextBooked 94 = .ok (.iload 6, 2) := by decide +kernel
theorem dX7_nextBooked_96 : decode cX7_nextBooked 96 = .ok (.istore 4, 2) := by decide +kernel
theorem dX7_nextBooked_98 : decode cX7_nextBooked 98 = .ok (.iinc 5 1, 3) := by decide +kernel
theorem dX7_nextBooked_101 : decode cX7_nextBooked 101 = .ok (.goto (-92), 3) := by decide +kernel
theorem dX7_nextBooked_104 : decode cX7_nextBooked 104 = .ok (.iload_n 3, 1) := by decide +kernel
theorem dX7_nextBooked_105 : decode cX7_nextBooked 105 = .ok (.ireturn, 1) := by decide +kernel
theorem dX7_forecastStart_0 : decode cX7_forecastStart 0 = .ok (.aload_n 0, 1) := by decide +kernel
theorem dX7_forecastStart_1 : decode cX7_forecastStart 1 = .ok (.getfield 20, 3) := by decide +kernel
theorem dX7_forecastStart_4 : decode cX7_forecastStart 4 = .ok (.iload_n 1, 1) := by decide +kernel
theorem dX7_forecastStart_5 : decode cX7_forecastStart 5 = .ok (.iconst 0, 1) := by decide +kernel
theorem dX7_forecastStart_6 : decode cX7_forecastStart 6 = .ok (.invokevirtual 52, 3) := by decide +kernel
theorem dX7_forecastStart_9 : decode cX7_forecastStart 9 = .ok (.istore_n 2, 1) := by decide +kernel
theorem dX7_forecastStart_10 : decode cX7_forecastStart 10 = .ok (.aload_n 0, 1) := by decide +kernel
theorem dX7_forecastStart_11 : decode cX7_forecastStart 11 = .ok (.getfield 14, 3) := by decide +kernel
theorem dX7_forecastStart_14 : decode cX7_forecastStart 14 = .ok (.iload_n 2, 1) := by decide +kernel
theorem dX7_forecastStart_15 : decode cX7_forecastStart 15 = .ok (.iconst 4, 1) := by decide +kernel
theorem dX7_forecastStart_16 : decode cX7_forecastStart 16 = .ok (.invokevirtual 52, 3) := by decide +kernel
theorem dX7_forecastStart_19 : decode cX7_forecastStart 19 = .ok (.istore_n 3, 1) := by decide +kernel
theorem dX7_forecastStart_20 : decode cX7_forecastStart 20 = .ok (.aload_n 0, 1) := by decide +kernel
theorem dX7_forecastStart_21 : decode cX7_forecastStart 21 = .ok (.iload_n 2, 1) := by decide +kernel
theorem dX7_forecastStart_22 : decode cX7_forecastStart 22 = .ok (.iconst (-1), 1) := by decide +kernel
theorem dX7_forecastStart_23 : decode cX7_forecastStart 23 = .ok (.invokevirtual 82, 3) := by decide +kernel
theorem dX7_forecastStart_26 : decode cX7_forecastStart 26 = .ok (.istore 4, 2) := by decide +kernel
theorem dX7_forecastStart_28 : decode cX7_forecastStart 28 = .ok (.iconst 0, 1) := by decide +kernel
theorem dX7_forecastStart_29 : decode cX7_forecastStart 29 = .ok (.istore 5, 2) := by decide +kernel
theorem dX7_forecastStart_31 : decode cX7_forecastStart 31 = .ok (.iload 5, 2) := by decide +kernel
theorem dX7_forecastStart_33 : decode cX7_forecastStart 33 = .ok (.bipush 16, 2) := by decide +kernel
theorem dX7_forecastStart_35 : decode cX7_forecastStart 35 = .ok (.if_icmp .ge 56, 3) := by decide +kernel
theorem dX7_forecastStart_38 : decode cX7_forecastStart 38 = .ok (.iload 4, 2) := by decide +kernel
theorem dX7_forecastStart_40 : decode cX7_forecastStart 40 = .ok (.bipush (-9), 2) := by decide +kernel
theorem dX7_forecastStart_42 : decode cX7_forecastStart 42 = .ok (.if_icmp .eq 49, 3) := by decide +kernel
theorem dX7_forecastStart_45 : decode cX7_forecastStart 45 = .ok (.iload 4, 2) := by decide +kernel
theorem dX7_forecastStart_47 : decode cX7_forecastStart 47 = .ok (.iload_n 1, 1) := by decide +kernel
theorem dX7_forecastStart_48 : decode cX7_forecastStart 48 = .ok (.if_icmp .eq 43, 3) := by decide +kernel
theorem dX7_forecastStart_51 : decode cX7_forecastStart 51 = .ok (.aload_n 0, 1) := by decide +kernel
theorem dX7_forecastStart_52 : decode cX7_forecastStart 52 = .ok (.getfield 20, 3) := by decide +kernel
theorem dX7_forecastStart_55 : decode cX7_forecastStart 55 = .ok (.iload 4, 2) := by decide +kernel
theorem dX7_forecastStart_57 : decode cX7_forecastStart 57 = .ok (.iconst 1, 1) := by decide +kernel
theorem dX7_forecastStart_58 : decode cX7_forecastStart 58 = .ok (.invokevirtual 52, 3) := by decide +kernel
theorem dX7_forecastStart_61 : decode cX7_forecastStart 61 = .ok (.istore 6, 2) := by decide +kernel
theorem dX7_forecastStart_63 : decode cX7_forecastStart 63 = .ok (.iload 6, 2) := by decide +kernel
theorem dX7_forecastStart_65 : decode cX7_forecastStart 65 = .ok (.iload_n 3, 1) := by decide +kernel
theorem dX7_forecastStart_66 : decode cX7_forecastStart 66 = .ok (.invokestatic 63, 3) := by decide +kernel
theorem dX7_forecastStart_69 : decode cX7_forecastStart 69 = .ok (.aload_n 0, 1) := by decide +kernel
theorem dX7_forecastStart_70 : decode cX7_forecastStart 70 = .ok (.iload_n 2, 1) := by decide +kernel
theorem dX7_forecastStart_71 : decode cX7_forecastStart 71 = .ok (.invokevirtual 68, 3) := by decide +kernel
theorem dX7_forecastStart_74 : decode cX7_forecastStart 74 = .ok (.iadd, 1) := by decide +kernel
theorem dX7_forecastStart_75 : decode cX7_forecastStart 75 = .ok (.istore_n 3, 1) := by decide +kernel
theorem dX7_forecastStart_76 : decode cX7_forecastStart 76 = .ok (.aload_n 0, 1) := by decide +kernel
theorem dX7_forecastStart_77 : decode cX7_forecastStart 77 = .ok (.iload_n 2, 1) := by decide +kernel
theorem dX7_forecastStart_78 : decode cX7_forecastStart 78 = .ok (.iload 6, 2) := by decide +kernel
theorem dX7_forecastStart_80 : decode cX7_forecastStart 80 = .ok (.invokevirtual 82, 3) := by decide +kernel
theorem dX7_forecastStart_83 : decode cX7_forecastStart 83 = .ok (.istore 4, 2) := by decide +kernel
theorem dX7_forecastStart_85 : decode cX7_forecastStart 85 = .ok (.iinc 5 1, 3) := by decide +kernel
theorem dX7_forecastStart_88 : decode cX7_forecastStart 88 = .ok (.goto (-57), 3) := by decide +kernel
theorem dX7_forecastStart_91 : decode cX7_forecastStart 91 = .ok (.aload_n 0, 1) := by decide +kernel
theorem dX7_forecastStart_92 : decode cX7_forecastStart 92 = .ok (.getfield 20, 3) := by decide +kernel
theorem dX7_forecastStart_95 : decode cX7_forecastStart 95 = .ok (.iload_n 1, 1) := by decide +kernel
theorem dX7_forecastStart_96 : decode cX7_forecastStart 96 = .ok (.iconst 1, 1) := by decide +kernel
theorem dX7_forecastStart_97 : decode cX7_forecastStart 97 = .ok (.invokevirtual 52, 3) := by decide +kernel
theorem dX7_forecastStart_100 : decode cX7_forecastStart 100 = .ok (.iload_n 3, 1) := by decide +kernel
theorem dX7_forecastStart_101 : decode cX7_forecastStart 101 = .ok (.invokestatic 63, 3) := by decide +kernel
theorem dX7_forecastStart_104 : decode cX7_forecastStart 104 = .ok (.ireturn, 1) := by decide +kernel
theorem dX7_refundForDelay_0 : decode cX7_refundForDelay 0 = .ok (.iload_n 2, 1) := by decide +kernel
theorem dX7_refundForDelay_1 : decode cX7_refundForDelay 1 = .ok (.aload_n 0, 1) := by decide +kernel
theorem dX7_refundForDelay_2 : decode cX7_refundForDelay 2 = .ok (.iconst 3, 1) := by decide +kernel
theorem dX7_refundForDelay_3 : decode cX7_refundForDelay 3 = .ok (.invokevirtual 85, 3) := by decide +kernel
theorem dX7_refundForDelay_6 : decode cX7_refundForDelay 6 = .ok (.isub, 1) := by decide +kernel
theorem dX7_refundForDelay_7 : decode cX7_refundForDelay 7 = .ok (.istore_n 3, 1) := by decide +kernel
theorem dX7_refundForDelay_8 : decode cX7_refundForDelay 8 = .ok (.iload_n 3, 1) := by decide +kernel
theorem dX7_refundForDelay_9 : decode cX7_refundForDelay 9 = .ok (.ifCond .gt 5, 3) := by decide +kernel
theorem dX7_refundForDelay_12 : decode cX7_refundForDelay 12 = .ok (.iconst 0, 1) := by decide +kernel
theorem dX7_refundForDelay_13 : decode cX7_refundForDelay 13 = .ok (.ireturn, 1) := by decide +kernel
theorem dX7_refundForDelay_14 : decode cX7_refundForDelay 14 = .ok (.bipush 100, 2) := by decide +kernel
theorem dX7_refundForDelay_16 : decode cX7_refundForDelay 16 = .ok (.iload_n 3, 1) := by decide +kernel
theorem dX7_refundForDelay_17 : decode cX7_refundForDelay 17 = .ok (.bipush 9, 2) := by decide +kernel
theorem dX7_refundForDelay_19 : decode cX7_refundForDelay 19 = .ok (.iadd, 1) := by decide +kernel
theorem dX7_refundForDelay_20 : decode cX7_refundForDelay 20 = .ok (.bipush 10, 2) := by decide +kernel
theorem dX7_refundForDelay_22 : decode cX7_refundForDelay 22 = .ok (.idiv, 1) := by decide +kernel
theorem dX7_refundForDelay_23 : decode cX7_refundForDelay 23 = .ok (.aload_n 0, 1) := by decide +kernel
theorem dX7_refundForDelay_24 : decode cX7_refundForDelay 24 = .ok (.iconst 4, 1) := by decide +kernel
theorem dX7_refundForDelay_25 : decode cX7_refundForDelay 25 = .ok (.invokevirtual 85, 3) := by decide +kernel
theorem dX7_refundForDelay_28 : decode cX7_refundForDelay 28 = .ok (.imul, 1) := by decide +kernel
theorem dX7_refundForDelay_29 : decode cX7_refundForDelay 29 = .ok (.invokestatic 88, 3) := by decide +kernel
theorem dX7_refundForDelay_32 : decode cX7_refundForDelay 32 = .ok (.istore 4, 2) := by decide +kernel
theorem dX7_refundForDelay_34 : decode cX7_refundForDelay 34 = .ok (.aload_n 0, 1) := by decide +kernel
theorem dX7_refundForDelay_35 : decode cX7_refundForDelay 35 = .ok (.getfield 20, 3) := by decide +kernel
theorem dX7_refundForDelay_38 : decode cX7_refundForDelay 38 = .ok (.iload_n 1, 1) := by decide +kernel
theorem dX7_refundForDelay_39 : decode cX7_refundForDelay 39 = .ok (.iconst 4, 1) := by decide +kernel
theorem dX7_refundForDelay_40 : decode cX7_refundForDelay 40 = .ok (.invokevirtual 52, 3) := by decide +kernel
theorem dX7_refundForDelay_43 : decode cX7_refundForDelay 43 = .ok (.iload 4, 2) := by decide +kernel
theorem dX7_refundForDelay_45 : decode cX7_refundForDelay 45 = .ok (.imul, 1) := by decide +kernel
theorem dX7_refundForDelay_46 : decode cX7_refundForDelay 46 = .ok (.bipush 100, 2) := by decide +kernel
theorem dX7_refundForDelay_48 : decode cX7_refundForDelay 48 = .ok (.idiv, 1) := by decide +kernel
theorem dX7_refundForDelay_49 : decode cX7_refundForDelay 49 = .ok (.ireturn, 1) := by decide +kernel
theorem dX7_paidByVouchers_0 : decode cX7_paidByVouchers 0 = .ok (.iconst 0, 1) := by decide +kernel
theorem dX7_paidByVouchers_1 : decode cX7_paidByVouchers 1 = .ok (.istore_n 2, 1) := by decide +kernel
theorem dX7_paidByVouchers_2 : decode cX7_paidByVouchers 2 = .ok (.iconst 0, 1) := by decide +kernel
theorem dX7_paidByVouchers_3 : decode cX7_paidByVouchers 3 = .ok (.istore_n 3, 1) := by decide +kernel
theorem dX7_paidByVouchers_4 : decode cX7_paidByVouchers 4 = .ok (.iload_n 3, 1) := by decide +kernel
theorem dX7_paidByVouchers_5 : decode cX7_paidByVouchers 5 = .ok (.aload_n 0, 1) := by decide +kernel
theorem dX7_paidByVouchers_6 : decode cX7_paidByVouchers 6 = .ok (.getfield 26, 3) := by decide +kernel
theorem dX7_paidByVouchers_9 : decode cX7_paidByVouchers 9 = .ok (.invokevirtual 60, 3) := by decide +kernel
theorem dX7_paidByVouchers_12 : decode cX7_paidByVouchers 12 = .ok (.if_icmp .ge 34, 3) := by decide +kernel
theorem dX7_paidByVouchers_15 : decode cX7_paidByVouchers 15 = .ok (.aload_n 0, 1) := by decide +kernel
theorem dX7_paidByVouchers_16 : decode cX7_paidByVouchers 16 = .ok (.getfield 26, 3) := by decide +kernel
theorem dX7_paidByVouchers_19 : decode cX7_paidByVouchers 19 = .ok (.iload_n 3, 1) := by decide +kernel
theorem dX7_paidByVouchers_20 : decode cX7_paidByVouchers 20 = .ok (.iconst 0, 1) := by decide +kernel
theorem dX7_paidByVouchers_21 : decode cX7_paidByVouchers 21 = .ok (.invokevirtual 52, 3) := by decide +kernel
theorem dX7_paidByVouchers_24 : decode cX7_paidByVouchers 24 = .ok (.iload_n 1, 1) := by decide +kernel
theorem dX7_paidByVouchers_25 : decode cX7_paidByVouchers 25 = .ok (.if_icmp .ne 15, 3) := by decide +kernel
theorem dX7_paidByVouchers_28 : decode cX7_paidByVouchers 28 = .ok (.iload_n 2, 1) := by decide +kernel
theorem dX7_paidByVouchers_29 : decode cX7_paidByVouchers 29 = .ok (.aload_n 0, 1) := by decide +kernel
theorem dX7_paidByVouchers_30 : decode cX7_paidByVouchers 30 = .ok (.getfield 26, 3) := by decide +kernel
theorem dX7_paidByVouchers_33 : decode cX7_paidByVouchers 33 = .ok (.iload_n 3, 1) := by decide +kernel
theorem dX7_paidByVouchers_34 : decode cX7_paidByVouchers 34 = .ok (.iconst 2, 1) := by decide +kernel
theorem dX7_paidByVouchers_35 : decode cX7_paidByVouchers 35 = .ok (.invokevirtual 52, 3) := by decide +kernel
theorem dX7_paidByVouchers_38 : decode cX7_paidByVouchers 38 = .ok (.iadd, 1) := by decide +kernel
theorem dX7_paidByVouchers_39 : decode cX7_paidByVouchers 39 = .ok (.istore_n 2, 1) := by decide +kernel
theorem dX7_paidByVouchers_40 : decode cX7_paidByVouchers 40 = .ok (.iinc 3 1, 3) := by decide +kernel
theorem dX7_paidByVouchers_43 : decode cX7_paidByVouchers 43 = .ok (.goto (-39), 3) := by decide +kernel
theorem dX7_paidByVouchers_46 : decode cX7_paidByVouchers 46 = .ok (.iload_n 2, 1) := by decide +kernel
theorem dX7_paidByVouchers_47 : decode cX7_paidByVouchers 47 = .ok (.ireturn, 1) := by decide +kernel
theorem dX7_paymentsLeft_0 : decode cX7_paymentsLeft 0 = .ok (.iconst 0, 1) := by decide +kernel
theorem dX7_paymentsLeft_1 : decode cX7_paymentsLeft 1 = .ok (.istore_n 2, 1) := by decide +kernel
theorem dX7_paymentsLeft_2 : decode cX7_paymentsLeft 2 = .ok (.iconst 0, 1) := by decide +kernel
theorem dX7_paymentsLeft_3 : decode cX7_paymentsLeft 3 = .ok (.istore_n 3, 1) := by decide +kernel
theorem dX7_paymentsLeft_4 : decode cX7_paymentsLeft 4 = .ok (.iload_n 3, 1) := by decide +kernel
theorem dX7_paymentsLeft_5 : decode cX7_paymentsLeft 5 = .ok (.aload_n 0, 1) := by decide +kernel
theorem dX7_paymentsLeft_6 : decode cX7_paymentsLeft 6 = .ok (.getfield 26, 3) := by decide +kernel
theorem dX7_paymentsLeft_9 : decode cX7_paymentsLeft 9 = .ok (.invokevirtual 60, 3) := by decide +kernel
theorem dX7_paymentsLeft_12 : decode cX7_paymentsLeft 12 = .ok (.if_icmp .ge 37, 3) := by decide +kernel
theorem dX7_paymentsLeft_15 : decode cX7_paymentsLeft 15 = .ok (.aload_n 0, 1) := by decide +kernel
theorem dX7_paymentsLeft_16 : decode cX7_paymentsLeft 16 = .ok (.getfield 26, 3) := by decide +kernel
theorem dX7_paymentsLeft_19 : decode cX7_paymentsLeft 19 = .ok (.iload_n 3, 1) := by decide +kernel
theorem dX7_paymentsLeft_20 : decode cX7_paymentsLeft 20 = .ok (.iconst 0, 1) := by decide +kernel
theorem dX7_paymentsLeft_21 : decode cX7_paymentsLeft 21 = .ok (.invokevirtual 52, 3) := by decide +kernel
theorem dX7_paymentsLeft_24 : decode cX7_paymentsLeft 24 = .ok (.iload_n 1, 1) := by decide +kernel
theorem dX7_paymentsLeft_25 : decode cX7_paymentsLeft 25 = .ok (.if_icmp .ne 18, 3) := by decide +kernel
theorem dX7_paymentsLeft_28 : decode cX7_paymentsLeft 28 = .ok (.aload_n 0, 1) := by decide +kernel
theorem dX7_paymentsLeft_29 : decode cX7_paymentsLeft 29 = .ok (.getfield 26, 3) := by decide +kernel
theorem dX7_paymentsLeft_32 : decode cX7_paymentsLeft 32 = .ok (.iload_n 3, 1) := by decide +kernel
theorem dX7_paymentsLeft_33 : decode cX7_paymentsLeft 33 = .ok (.iconst 2, 1) := by decide +kernel
theorem dX7_paymentsLeft_34 : decode cX7_paymentsLeft 34 = .ok (.invokevirtual 52, 3) := by decide +kernel
theorem dX7_paymentsLeft_37 : decode cX7_paymentsLeft 37 = .ok (.ifCond .le 6, 3) := by decide +kernel
theorem dX7_paymentsLeft_40 : decode cX7_paymentsLeft 40 = .ok (.iinc 2 1, 3) := by decide +kernel
theorem dX7_paymentsLeft_43 : decode cX7_paymentsLeft 43 = .ok (.iinc 3 1, 3) := by decide +kernel
theorem dX7_paymentsLeft_46 : decode cX7_paymentsLeft 46 = .ok (.goto (-42), 3) := by decide +kernel
theorem dX7_paymentsLeft_49 : decode cX7_paymentsLeft 49 = .ok (.iload_n 2, 1) := by decide +kernel
theorem dX7_paymentsLeft_50 : decode cX7_paymentsLeft 50 = .ok (.ireturn, 1) := by decide +kernel
theorem dX7_bookingsPaidWith_0 : decode cX7_bookingsPaidWith 0 = .ok (.iconst 0, 1) := by decide +kernel
theorem dX7_bookingsPaidWith_1 : decode cX7_bookingsPaidWith 1 = .ok (.istore_n 2, 1) := by decide +kernel
theorem dX7_bookingsPaidWith_2 : decode cX7_bookingsPaidWith 2 = .ok (.iconst 0, 1) := by decide +kernel
theorem dX7_bookingsPaidWith_3 : decode cX7_bookingsPaidWith 3 = .ok (.istore_n 3, 1) := by decide +kernel
theorem dX7_bookingsPaidWith_4 : decode cX7_bookingsPaidWith 4 = .ok (.iload_n 3, 1) := by decide +kernel
theorem dX7_bookingsPaidWith_5 : decode cX7_bookingsPaidWith 5 = .ok (.aload_n 0, 1) := by decide +kernel
theorem dX7_bookingsPaidWith_6 : decode cX7_bookingsPaidWith 6 = .ok (.getfield 20, 3) := by decide +kernel
theorem dX7_bookingsPaidWith_9 : decode cX7_bookingsPaidWith 9 = .ok (.invokevirtual 60, 3) := by decide +kernel
theorem dX7_bookingsPaidWith_12 : decode cX7_bookingsPaidWith 12 = .ok (.if_icmp .ge 21, 3) := by decide +kernel
theorem dX7_bookingsPaidWith_15 : decode cX7_bookingsPaidWith 15 = .ok (.aload_n 0, 1) := by decide +kernel
theorem dX7_bookingsPaidWith_16 : decode cX7_bookingsPaidWith 16 = .ok (.iload_n 3, 1) := by decide +kernel
theorem dX7_bookingsPaidWith_17 : decode cX7_bookingsPaidWith 17 = .ok (.iload_n 1, 1) := by decide +kernel
theorem dX7_bookingsPaidWith_18 : decode cX7_bookingsPaidWith 18 = .ok (.invokevirtual 91, 3) := by decide +kernel
theorem dX7_bookingsPaidWith_21 : decode cX7_bookingsPaidWith 21 = .ok (.ifCond .eq 6, 3) := by decide +kernel
theorem dX7_bookingsPaidWith_24 : decode cX7_bookingsPaidWith 24 = .ok (.iinc 2 1, 3) := by decide +kernel
theorem dX7_bookingsPaidWith_27 : decode cX7_bookingsPaidWith 27 = .ok (.iinc 3 1, 3) := by decide +kernel
theorem dX7_bookingsPaidWith_30 : decode cX7_bookingsPaidWith 30 = .ok (.goto (-26), 3) := by decide +kernel
theorem dX7_bookingsPaidWith_33 : decode cX7_bookingsPaidWith 33 = .ok (.iload_n 2, 1) := by decide +kernel
theorem dX7_bookingsPaidWith_34 : decode cX7_bookingsPaidWith 34 = .ok (.ireturn, 1) := by decide +kernel
theorem dX7_isPaidWith_0 : decode cX7_isPaidWith 0 = .ok (.iconst 0, 1) := by decide +kernel
theorem dX7_isPaidWith_1 : decode cX7_isPaidWith 1 = .ok (.istore_n 3, 1) := by decide +kernel
theorem dX7_isPaidWith_2 : decode cX7_isPaidWith 2 = .ok (.iload_n 3, 1) := by decide +kernel
theorem dX7_isPaidWith_3 : decode cX7_isPaidWith 3 = .ok (.aload_n 0, 1) := by decide +kernel
theorem dX7_isPaidWith_4 : decode cX7_isPaidWith 4 = .ok (.getfield 26, 3) := by decide +kernel
theorem dX7_isPaidWith_7 : decode cX7_isPaidWith 7 = .ok (.invokevirtual 60, 3) := by decide +kernel
theorem dX7_isPaidWith_10 : decode cX7_isPaidWith 10 = .ok (.if_icmp .ge 49, 3) := by decide +kernel
theorem dX7_isPaidWith_13 : decode cX7_isPaidWith 13 = .ok (.aload_n 0, 1) := by decide +kernel
theorem dX7_isPaidWith_14 : decode cX7_isPaidWith 14 = .ok (.getfield 26, 3) := by decide +kernel
theorem dX7_isPaidWith_17 : decode cX7_isPaidWith 17 = .ok (.iload_n 3, 1) := by decide +kernel
theorem dX7_isPaidWith_18 : decode cX7_isPaidWith 18 = .ok (.iconst 0, 1) := by decide +kernel
theorem dX7_isPaidWith_19 : decode cX7_isPaidWith 19 = .ok (.invokevirtual 52, 3) := by decide +kernel
theorem dX7_isPaidWith_22 : decode cX7_isPaidWith 22 = .ok (.iload_n 1, 1) := by decide +kernel
theorem dX7_isPaidWith_23 : decode cX7_isPaidWith 23 = .ok (.if_icmp .ne 30, 3) := by decide +kernel
theorem dX7_isPaidWith_26 : decode cX7_isPaidWith 26 = .ok (.aload_n 0, 1) := by decide +kernel
theorem dX7_isPaidWith_27 : decode cX7_isPaidWith 27 = .ok (.getfield 26, 3) := by decide +kernel
theorem dX7_isPaidWith_30 : decode cX7_isPaidWith 30 = .ok (.iload_n 3, 1) := by decide +kernel
theorem dX7_isPaidWith_31 : decode cX7_isPaidWith 31 = .ok (.iconst 1, 1) := by decide +kernel
theorem dX7_isPaidWith_32 : decode cX7_isPaidWith 32 = .ok (.invokevirtual 52, 3) := by decide +kernel
theorem dX7_isPaidWith_35 : decode cX7_isPaidWith 35 = .ok (.iload_n 2, 1) := by decide +kernel
theorem dX7_isPaidWith_36 : decode cX7_isPaidWith 36 = .ok (.if_icmp .ne 17, 3) := by decide +kernel
theorem dX7_isPaidWith_39 : decode cX7_isPaidWith 39 = .ok (.aload_n 0, 1) := by decide +kernel
theorem dX7_isPaidWith_40 : decode cX7_isPaidWith 40 = .ok (.getfield 26, 3) := by decide +kernel
theorem dX7_isPaidWith_43 : decode cX7_isPaidWith 43 = .ok (.iload_n 3, 1) := by decide +kernel
theorem dX7_isPaidWith_44 : decode cX7_isPaidWith 44 = .ok (.iconst 2, 1) := by decide +kernel
theorem dX7_isPaidWith_45 : decode cX7_isPaidWith 45 = .ok (.invokevirtual 52, 3) := by decide +kernel
theorem dX7_isPaidWith_48 : decode cX7_isPaidWith 48 = .ok (.ifCond .le 5, 3) := by decide +kernel
theorem dX7_isPaidWith_51 : decode cX7_isPaidWith 51 = .ok (.iconst 1, 1) := by decide +kernel
theorem dX7_isPaidWith_52 : decode cX7_isPaidWith 52 = .ok (.ireturn, 1) := by decide +kernel
theorem dX7_isPaidWith_53 : decode cX7_isPaidWith 53 = .ok (.iinc 3 1, 3) := by decide +kernel
theorem dX7_isPaidWith_56 : decode cX7_isPaidWith 56 = .ok (.goto (-54), 3) := by decide +kernel
theorem dX7_isPaidWith_59 : decode cX7_isPaidWith 59 = .ok (.iconst 0, 1) := by decide +kernel
theorem dX7_isPaidWith_60 : decode cX7_isPaidWith 60 = .ok (.ireturn, 1) := by decide +kernel
theorem dX7_paymentAt_0 : decode cX7_paymentAt 0 = .ok (.iconst 0, 1) := by decide +kernel
theorem dX7_paymentAt_1 : decode cX7_paymentAt 1 = .ok (.istore_n 3, 1) := by decide +kernel
theorem dX7_paymentAt_2 : decode cX7_paymentAt 2 = .ok (.iload_n 3, 1) := by decide +kernel
theorem dX7_paymentAt_3 : decode cX7_paymentAt 3 = .ok (.aload_n 0, 1) := by decide +kernel
theorem dX7_paymentAt_4 : decode cX7_paymentAt 4 = .ok (.getfield 26, 3) := by decide +kernel
theorem dX7_paymentAt_7 : decode cX7_paymentAt 7 = .ok (.invokevirtual 60, 3) := by decide +kernel
theorem dX7_paymentAt_10 : decode cX7_paymentAt 10 = .ok (.if_icmp .ge 37, 3) := by decide +kernel
theorem dX7_paymentAt_13 : decode cX7_paymentAt 13 = .ok (.aload_n 0, 1) := by decide +kernel
theorem dX7_paymentAt_14 : decode cX7_paymentAt 14 = .ok (.getfield 26, 3) := by decide +kernel
theorem dX7_paymentAt_17 : decode cX7_paymentAt 17 = .ok (.iload_n 3, 1) := by decide +kernel
theorem dX7_paymentAt_18 : decode cX7_paymentAt 18 = .ok (.iconst 0, 1) := by decide +kernel
theorem dX7_paymentAt_19 : decode cX7_paymentAt 19 = .ok (.invokevirtual 52, 3) := by decide +kernel
theorem dX7_paymentAt_22 : decode cX7_paymentAt 22 = .ok (.iload_n 1, 1) := by decide +kernel
theorem dX7_paymentAt_23 : decode cX7_paymentAt 23 = .ok (.if_icmp .ne 18, 3) := by decide +kernel
theorem dX7_paymentAt_26 : decode cX7_paymentAt 26 = .ok (.aload_n 0, 1) := by decide +kernel
theorem dX7_paymentAt_27 : decode cX7_paymentAt 27 = .ok (.getfield 26, 3) := by decide +kernel
theorem dX7_paymentAt_30 : decode cX7_paymentAt 30 = .ok (.iload_n 3, 1) := by decide +kernel
theorem dX7_paymentAt_31 : decode cX7_paymentAt 31 = .ok (.iconst 3, 1) := by decide +kernel
theorem dX7_paymentAt_32 : decode cX7_paymentAt 32 = .ok (.invokevirtual 52, 3) := by decide +kernel
theorem dX7_paymentAt_35 : decode cX7_paymentAt 35 = .ok (.iload_n 2, 1) := by decide +kernel
theorem dX7_paymentAt_36 : decode cX7_paymentAt 36 = .ok (.if_icmp .ne 5, 3) := by decide +kernel
theorem dX7_paymentAt_39 : decode cX7_paymentAt 39 = .ok (.iload_n 3, 1) := by decide +kernel
theorem dX7_paymentAt_40 : decode cX7_paymentAt 40 = .ok (.ireturn, 1) := by decide +kernel
theorem dX7_paymentAt_41 : decode cX7_paymentAt 41 = .ok (.iinc 3 1, 3) := by decide +kernel
theorem dX7_paymentAt_44 : decode cX7_paymentAt 44 = .ok (.goto (-42), 3) := by decide +kernel
theorem dX7_paymentAt_47 : decode cX7_paymentAt 47 = .ok (.bipush (-9), 2) := by decide +kernel
theorem dX7_paymentAt_49 : decode cX7_paymentAt 49 = .ok (.ireturn, 1) := by decide +kernel
theorem dX8_init_0 : decode cX8_init 0 = .ok (.aload_n 0, 1) := by decide +kernel
theorem dX8_init_1 : decode cX8_init 1 = .ok (.invokespecial 1, 3) := by decide +kernel
theorem dX8_init_4 : decode cX8_init 4 = .ok (.aload_n 0, 1) := by decide +kernel
theorem dX8_init_5 : decode cX8_init 5 = .ok (.new 7, 3) := by decide +kernel
theorem dX8_init_8 : decode cX8_init 8 = .ok (.dup, 1) := by decide +kernel
theorem dX8_init_9 : decode cX8_init 9 = .ok (.invokespecial 9, 3) := by decide +kernel
theorem dX8_init_12 : decode cX8_init 12 = .ok (.putfield 10, 3) := by decide +kernel
theorem dX8_init_15 : decode cX8_init 15 = .ok (.aload_n 0, 1) := by decide +kernel
theorem dX8_init_16 : decode cX8_init 16 = .ok (.aload_n 0, 1) := by decide +kernel
theorem dX8_init_17 : decode cX8_init 17 = .ok (.getfield 10, 3) := by decide +kernel
theorem dX8_init_20 : decode cX8_init 20 = .ok (.getfield 16, 3) := by decide +kernel
theorem dX8_init_23 : decode cX8_init 23 = .ok (.putfield 20, 3) := by decide +kernel
theorem dX8_init_26 : decode cX8_init 26 = .ok (.aload_n 0, 1) := by decide +kernel
theorem dX8_init_27 : decode cX8_init 27 = .ok (.new 21, 3) := by decide +kernel
theorem dX8_init_30 : decode cX8_init 30 = .ok (.dup, 1) := by decide +kernel
theorem dX8_init_31 : decode cX8_init 31 = .ok (.aload_n 0, 1) := by decide +kernel
theorem dX8_init_32 : decode cX8_init 32 = .ok (.getfield 20, 3) := by decide +kernel
theorem dX8_init_35 : decode cX8_init 35 = .ok (.invokespecial 23, 3) := by decide +kernel
theorem dX8_init_38 : decode cX8_init 38 = .ok (.putfield 26, 3) := by decide +kernel
theorem dX8_init_41 : decode cX8_init 41 = .ok (.aload_n 0, 1) := by decide +kernel
theorem dX8_init_42 : decode cX8_init 42 = .ok (.new 30, 3) := by decide +kernel
theorem dX8_init_45 : decode cX8_init 45 = .ok (.dup, 1) := by decide +kernel
theorem dX8_init_46 : decode cX8_init 46 = .ok (.aload_n 0, 1) := by decide +kernel
theorem dX8_init_47 : decode cX8_init 47 = .ok (.getfield 20, 3) := by decide +kernel
theorem dX8_init_50 : decode cX8_init 50 = .ok (.invokespecial 32, 3) := by decide +kernel
theorem dX8_init_53 : decode cX8_init 53 = .ok (.putfield 33, 3) := by decide +kernel
theorem dX8_init_56 : decode cX8_init 56 = .ok (.aload_n 0, 1) := by decide +kernel
theorem dX8_init_57 : decode cX8_init 57 = .ok (.new 37, 3) := by decide +kernel
theorem dX8_init_60 : decode cX8_init 60 = .ok (.dup, 1) := by decide +kernel
theorem dX8_init_61 : decode cX8_init 61 = .ok (.invokespecial 39, 3) := by decide +kernel
theorem dX8_init_64 : decode cX8_init 64 = .ok (.putfield 40, 3) := by decide +kernel
theorem dX8_init_67 : decode cX8_init 67 = .ok (.aload_n 0, 1) := by decide +kernel
theorem dX8_init_68 : decode cX8_init 68 = .ok (.new 44, 3) := by decide +kernel
theorem dX8_init_71 : decode cX8_init 71 = .ok (.dup, 1) := by decide +kernel
theorem dX8_init_72 : decode cX8_init 72 = .ok (.invokespecial 46, 3) := by decide +kernel
theorem dX8_init_75 : decode cX8_init 75 = .ok (.putfield 47, 3) := by decide +kernel
theorem dX8_init_78 : decode cX8_init 78 = .ok (.return_, 1) := by decide +kernel
theorem dX8_addRoom_0 : decode cX8_addRoom 0 = .ok (.aload_n 0, 1) := by decide +kernel
theorem dX8_addRoom_1 : decode cX8_addRoom 1 = .ok (.getfield 40, 3) := by decide +kernel
theorem dX8_addRoom_4 : decode cX8_addRoom 4 = .ok (.aload_n 0, 1) := by decide +kernel
theorem dX8_addRoom_5 : decode cX8_addRoom 5 = .ok (.getfield 10, 3) := by decide +kernel
theorem dX8_addRoom_8 : decode cX8_addRoom 8 = .ok (.invokevirtual 51, 3) := by decide +kernel
theorem dX8_addRoom_11 : decode cX8_addRoom 11 = .ok (.aload_n 0, 1) := by decide +kernel
theorem dX8_addRoom_12 : decode cX8_addRoom 12 = .ok (.getfield 40, 3) := by decide +kernel
theorem dX8_addRoom_15 : decode cX8_addRoom 15 = .ok (.aload_n 0, 1) := by decide +kernel
theorem dX8_addRoom_16 : decode cX8_addRoom 16 = .ok (.getfield 26, 3) := by decide +kernel
theorem dX8_addRoom_19 : decode cX8_addRoom 19 = .ok (.iload_n 1, 1) := by decide +kernel
theorem dX8_addRoom_20 : decode cX8_addRoom 20 = .ok (.iload_n 2, 1) := by decide +kernel
theorem dX8_addRoom_21 : decode cX8_addRoom 21 = .ok (.iload_n 3, 1) := by decide +kernel
theorem dX8_addRoom_22 : decode cX8_addRoom 22 = .ok (.iload 4, 2) := by decide +kernel
theorem dX8_addRoom_24 : decode cX8_addRoom 24 = .ok (.invokevirtual 55, 3) := by decide +kernel
theorem dX8_addRoom_27 : decode cX8_addRoom 27 = .ok (.invokevirtual 59, 3) := by decide +kernel
theorem dX8_addRoom_30 : decode cX8_addRoom 30 = .ok (.ireturn, 1) := by decide +kernel
theorem dX8_setPrice_0 : decode cX8_setPrice 0 = .ok (.aload_n 0, 1) := by decide +kernel
theorem dX8_setPrice_1 : decode cX8_setPrice 1 = .ok (.getfield 40, 3) := by decide +kernel
theorem dX8_setPrice_4 : decode cX8_setPrice 4 = .ok (.aload_n 0, 1) := by decide +kernel
theorem dX8_setPrice_5 : decode cX8_setPrice 5 = .ok (.getfield 10, 3) := by decide +kernel
theorem dX8_setPrice_8 : decode cX8_setPrice 8 = .ok (.invokevirtual 51, 3) := by decide +kernel
theorem dX8_setPrice_11 : decode cX8_setPrice 11 = .ok (.aload_n 0, 1) := by decide +kernel
theorem dX8_setPrice_12 : decode cX8_setPrice 12 = .ok (.getfield 40, 3) := by decide +kernel
theorem dX8_setPrice_15 : decode cX8_setPrice 15 = .ok (.aload_n 0, 1) := by decide +kernel
theorem dX8_setPrice_16 : decode cX8_setPrice 16 = .ok (.getfield 26, 3) := by decide +kernel
theorem dX8_setPrice_19 : decode cX8_setPrice 19 = .ok (.iload_n 1, 1) := by decide +kernel
theorem dX8_setPrice_20 : decode cX8_setPrice 20 = .ok (.iload_n 2, 1) := by decide +kernel
theorem dX8_setPrice_21 : decode cX8_setPrice 21 = .ok (.invokevirtual 63, 3) := by decide +kernel
theorem dX8_setPrice_24 : decode cX8_setPrice 24 = .ok (.invokevirtual 59, 3) := by decide +kernel
theorem dX8_setPrice_27 : decode cX8_setPrice 27 = .ok (.ireturn, 1) := by decide +kernel
theorem dX8_set_0 : decode cX8_set 0 = .ok (.aload_n 0, 1) := by decide +kernel
theorem dX8_set_1 : decode cX8_set 1 = .ok (.getfield 40, 3) := by decide +kernel
theorem dX8_set_4 : decode cX8_set 4 = .ok (.aload_n 0, 1) := by decide +kernel
theorem dX8_set_5 : decode cX8_set 5 = .ok (.getfield 10, 3) := by decide +kernel
theorem dX8_set_8 : decode cX8_set 8 = .ok (.invokevirtual 51, 3) := by decide +kernel
theorem dX8_set_11 : decode cX8_set 11 = .ok (.aload_n 0, 1) := by decide +kernel
theorem dX8_set_12 : decode cX8_set 12 = .ok (.getfield 40, 3) := by decide +kernel
theorem dX8_set_15 : decode cX8_set 15 = .ok (.aload_n 0, 1) := by decide +kernel
theorem dX8_set_16 : decode cX8_set 16 = .ok (.getfield 26, 3) := by decide +kernel
theorem dX8_set_19 : decode cX8_set 19 = .ok (.iload_n 1, 1) := by decide +kernel
theorem dX8_set_20 : decode cX8_set 20 = .ok (.iload_n 2, 1) := by decide +kernel
theorem dX8_set_21 : decode cX8_set 21 = .ok (.invokevirtual 67, 3) := by decide +kernel
theorem dX8_set_24 : decode cX8_set 24 = .ok (.invokevirtual 59, 3) := by decide +kernel
theorem dX8_set_27 : decode cX8_set 27 = .ok (.ireturn, 1) := by decide +kernel
theorem dX8_sellVoucher_0 : decode cX8_sellVoucher 0 = .ok (.aload_n 0, 1) := by decide +kernel
theorem dX8_sellVoucher_1 : decode cX8_sellVoucher 1 = .ok (.getfield 40, 3) := by decide +kernel
theorem dX8_sellVoucher_4 : decode cX8_sellVoucher 4 = .ok (.aload_n 0, 1) := by decide +kernel
theorem dX8_sellVoucher_5 : decode cX8_sellVoucher 5 = .ok (.getfield 10, 3) := by decide +kernel
theorem dX8_sellVoucher_8 : decode cX8_sellVoucher 8 = .ok (.invokevirtual 51, 3) := by decide +kernel
theorem dX8_sellVoucher_11 : decode cX8_sellVoucher 11 = .ok (.aload_n 0, 1) := by decide +kernel
theorem dX8_sellVoucher_12 : decode cX8_sellVoucher 12 = .ok (.getfield 40, 3) := by decide +kernel
theorem dX8_sellVoucher_15 : decode cX8_sellVoucher 15 = .ok (.aload_n 0, 1) := by decide +kernel
theorem dX8_sellVoucher_16 : decode cX8_sellVoucher 16 = .ok (.getfield 26, 3) := by decide +kernel
theorem dX8_sellVoucher_19 : decode cX8_sellVoucher 19 = .ok (.iload_n 1, 1) := by decide +kernel
theorem dX8_sellVoucher_20 : decode cX8_sellVoucher 20 = .ok (.invokevirtual 70, 3) := by decide +kernel
theorem dX8_sellVoucher_23 : decode cX8_sellVoucher 23 = .ok (.invokevirtual 59, 3) := by decide +kernel
theorem dX8_sellVoucher_26 : decode cX8_sellVoucher 26 = .ok (.ireturn, 1) := by decide +kernel
theorem dX8_book_0 : decode cX8_book 0 = .ok (.aload_n 0, 1) := by decide +kernel
theorem dX8_book_1 : decode cX8_book 1 = .ok (.getfield 40, 3) := by decide +kernel
theorem dX8_book_4 : decode cX8_book 4 = .ok (.aload_n 0, 1) := by decide +kernel
theorem dX8_book_5 : decode cX8_book 5 = .ok (.getfield 10, 3) := by decide +kernel
theorem dX8_book_8 : decode cX8_book 8 = .ok (.invokevirtual 51, 3) := by decide +kernel
theorem dX8_book_11 : decode cX8_book 11 = .ok (.aload_n 0, 1) := by decide +kernel
theorem dX8_book_12 : decode cX8_book 12 = .ok (.getfield 40, 3) := by decide +kernel
theorem dX8_book_15 : decode cX8_book 15 = .ok (.aload_n 0, 1) := by decide +kernel
theorem dX8_book_16 : decode cX8_book 16 = .ok (.getfield 26, 3) := by decide +kernel
theorem dX8_book_19 : decode cX8_book 19 = .ok (.iload_n 1, 1) := by decide +kernel
theorem dX8_book_20 : decode cX8_book 20 = .ok (.iload_n 2, 1) := by decide +kernel
theorem dX8_book_21 : decode cX8_book 21 = .ok (.iload_n 3, 1) := by decide +kernel
theorem dX8_book_22 : decode cX8_book 22 = .ok (.iload 4, 2) := by decide +kernel
theorem dX8_book_24 : decode cX8_book 24 = .ok (.invokevirtual 73, 3) := by decide +kernel
theorem dX8_book_27 : decode cX8_book 27 = .ok (.invokevirtual 59, 3) := by decide +kernel
theorem dX8_book_30 : decode cX8_book 30 = .ok (.ireturn, 1) := by decide +kernel
theorem dX8_move_0 : decode cX8_move 0 = .ok (.aload_n 0, 1) := by decide +kernel
theorem dX8_move_1 : decode cX8_move 1 = .ok (.getfield 40, 3) := by decide +kernel
theorem dX8_move_4 : decode cX8_move 4 = .ok (.aload_n 0, 1) := by decide +kernel
theorem dX8_move_5 : decode cX8_move 5 = .ok (.getfield 10, 3) := by decide +kernel
theorem dX8_move_8 : decode cX8_move 8 = .ok (.invokevirtual 51, 3) := by decide +kernel
theorem dX8_move_11 : decode cX8_move 11 = .ok (.aload_n 0, 1) := by decide +kernel
theorem dX8_move_12 : decode cX8_move 12 = .ok (.getfield 40, 3) := by decide +kernel
theorem dX8_move_15 : decode cX8_move 15 = .ok (.aload_n 0, 1) := by decide +kernel
theorem dX8_move_16 : decode cX8_move 16 = .ok (.getfield 26, 3) := by decide +kernel
theorem dX8_move_19 : decode cX8_move 19 = .ok (.iload_n 1, 1) := by decide +kernel
theorem dX8_move_20 : decode cX8_move 20 = .ok (.iload_n 2, 1) := by decide +kernel
theorem dX8_move_21 : decode cX8_move 21 = .ok (.invokevirtual 76, 3) := by decide +kernel
theorem dX8_move_24 : decode cX8_move 24 = .ok (.invokevirtual 59, 3) := by decide +kernel
theorem dX8_move_27 : decode cX8_move 27 = .ok (.ireturn, 1) := by decide +kernel
theorem dX8_cancel_0 : decode cX8_cancel 0 = .ok (.aload_n 0, 1) := by decide +kernel
theorem dX8_cancel_1 : decode cX8_cancel 1 = .ok (.getfield 40, 3) := by decide +kernel
theorem dX8_cancel_4 : decode cX8_cancel 4 = .ok (.aload_n 0, 1) := by decide +kernel
theorem dX8_cancel_5 : decode cX8_cancel 5 = .ok (.getfield 10, 3) := by decide +kernel
theorem dX8_cancel_8 : decode cX8_cancel 8 = .ok (.invokevirtual 51, 3) := by decide +kernel
theorem dX8_cancel_11 : decode cX8_cancel 11 = .ok (.aload_n 0, 1) := by decide +kernel
theorem dX8_cancel_12 : decode cX8_cancel 12 = .ok (.getfield 40, 3) := by decide +kernel
theorem dX8_cancel_15 : decode cX8_cancel 15 = .ok (.aload_n 0, 1) := by decide +kernel
theorem dX8_cancel_16 : decode cX8_cancel 16 = .ok (.getfield 26, 3) := by decide +kernel
theorem dX8_cancel_19 : decode cX8_cancel 19 = .ok (.iload_n 1, 1) := by decide +kernel
theorem dX8_cancel_20 : decode cX8_cancel 20 = .ok (.invokevirtual 79, 3) := by decide +kernel
theorem dX8_cancel_23 : decode cX8_cancel 23 = .ok (.invokevirtual 59, 3) := by decide +kernel
theorem dX8_cancel_26 : decode cX8_cancel 26 = .ok (.ireturn, 1) := by decide +kernel
theorem dX8_merge_0 : decode cX8_merge 0 = .ok (.aload_n 0, 1) := by decide +kernel
theorem dX8_merge_1 : decode cX8_merge 1 = .ok (.getfield 40, 3) := by decide +kernel
theorem dX8_merge_4 : decode cX8_merge 4 = .ok (.aload_n 0, 1) := by decide +kernel
theorem dX8_merge_5 : decode cX8_merge 5 = .ok (.getfield 10, 3) := by decide +kernel
theorem dX8_merge_8 : decode cX8_merge 8 = .ok (.invokevirtual 51, 3) := by decide +kernel
theorem dX8_merge_11 : decode cX8_merge 11 = .ok (.aload_n 0, 1) := by decide +kernel
theorem dX8_merge_12 : decode cX8_merge 12 = .ok (.getfield 40, 3) := by decide +kernel
theorem dX8_merge_15 : decode cX8_merge 15 = .ok (.aload_n 0, 1) := by decide +kernel
theorem dX8_merge_16 : decode cX8_merge 16 = .ok (.getfield 26, 3) := by decide +kernel
theorem dX8_merge_19 : decode cX8_merge 19 = .ok (.iload_n 1, 1) := by decide +kernel
theorem dX8_merge_20 : decode cX8_merge 20 = .ok (.iload_n 2, 1) := by decide +kernel
theorem dX8_merge_21 : decode cX8_merge 21 = .ok (.invokevirtual 82, 3) := by decide +kernel
theorem dX8_merge_24 : decode cX8_merge 24 = .ok (.invokevirtual 59, 3) := by decide +kernel
theorem dX8_merge_27 : decode cX8_merge 27 = .ok (.ireturn, 1) := by decide +kernel
theorem dX8_play_0 : decode cX8_play 0 = .ok (.aload_n 0, 1) := by decide +kernel
theorem dX8_play_1 : decode cX8_play 1 = .ok (.getfield 40, 3) := by decide +kernel
theorem dX8_play_4 : decode cX8_play 4 = .ok (.aload_n 0, 1) := by decide +kernel
theorem dX8_play_5 : decode cX8_play 5 = .ok (.getfield 10, 3) := by decide +kernel
theorem dX8_play_8 : decode cX8_play 8 = .ok (.invokevirtual 51, 3) := by decide +kernel
theorem dX8_play_11 : decode cX8_play 11 = .ok (.aload_n 0, 1) := by decide +kernel
theorem dX8_play_12 : decode cX8_play 12 = .ok (.getfield 40, 3) := by decide +kernel
theorem dX8_play_15 : decode cX8_play 15 = .ok (.aload_n 0, 1) := by decide +kernel
theorem dX8_play_16 : decode cX8_play 16 = .ok (.getfield 26, 3) := by decide +kernel
theorem dX8_play_19 : decode cX8_play 19 = .ok (.iload_n 1, 1) := by decide +kernel
theorem dX8_play_20 : decode cX8_play 20 = .ok (.iload_n 2, 1) := by decide +kernel
theorem dX8_play_21 : decode cX8_play 21 = .ok (.iload_n 3, 1) := by decide +kernel
theorem dX8_play_22 : decode cX8_play 22 = .ok (.iload 4, 2) := by decide +kernel
theorem dX8_play_24 : decode cX8_play 24 = .ok (.invokevirtual 85, 3) := by decide +kernel
theorem dX8_play_27 : decode cX8_play 27 = .ok (.invokevirtual 59, 3) := by decide +kernel
theorem dX8_play_30 : decode cX8_play 30 = .ok (.ireturn, 1) := by decide +kernel
theorem dX8_take_0 : decode cX8_take 0 = .ok (.iload_n 1, 1) := by decide +kernel
theorem dX8_take_1 : decode cX8_take 1 = .ok (.iconst 0, 1) := by decide +kernel
theorem dX8_take_2 : decode cX8_take 2 = .ok (.iconst 1, 1) := by decide +kernel
theorem dX8_take_3 : decode cX8_take 3 = .ok (.invokestatic 88, 3) := by decide +kernel
theorem dX8_take_6 : decode cX8_take 6 = .ok (.ifCond .ne 5, 3) := by decide +kernel
theorem dX8_take_9 : decode cX8_take 9 = .ok (.iconst (-1), 1) := by decide +kernel
theorem dX8_take_10 : decode cX8_take 10 = .ok (.ireturn, 1) := by decide +kernel
theorem dX8_take_11 : decode cX8_take 11 = .ok (.aload_n 0, 1) := by decide +kernel
theorem dX8_take_12 : decode cX8_take 12 = .ok (.getfield 40, 3) := by decide +kernel
theorem dX8_take_15 : decode cX8_take 15 = .ok (.aload_n 0, 1) := by decide +kernel
theorem dX8_take_16 : decode cX8_take 16 = .ok (.getfield 10, 3) := by decide +kernel
theorem dX8_take_19 : decode cX8_take 19 = .ok (.invokevirtual 51, 3) := by decide +kernel
theorem dX8_take_22 : decode cX8_take 22 = .ok (.aload_n 0, 1) := by decide +kernel
theorem dX8_take_23 : decode cX8_take 23 = .ok (.getfield 10, 3) := by decide +kernel
theorem dX8_take_26 : decode cX8_take 26 = .ok (.iload_n 1, 1) := by decide +kernel
theorem dX8_take_27 : decode cX8_take 27 = .ok (.invokevirtual 92, 3) := by decide +kernel
theorem dX8_take_30 : decode cX8_take 30 = .ok (.aload_n 0, 1) := by decide +kernel
theorem dX8_take_31 : decode cX8_take 31 = .ok (.getfield 20, 3) := by decide +kernel
theorem dX8_take_34 : decode cX8_take 34 = .ok (.invokevirtual 96, 3) := by decide +kernel
theorem dX8_take_37 : decode cX8_take 37 = .ok (.aload_n 0, 1) := by decide +kernel
theorem dX8_take_38 : decode cX8_take 38 = .ok (.getfield 40, 3) := by decide +kernel
theorem dX8_take_41 : decode cX8_take 41 = .ok (.aload_n 0, 1) := by decide +kernel
theorem dX8_take_42 : decode cX8_take 42 = .ok (.getfield 20, 3) := by decide +kernel
theorem dX8_take_45 : decode cX8_take 45 = .ok (.getfield 101, 3) := by decide +kernel
theorem dX8_take_48 : decode cX8_take 48 = .ok (.invokevirtual 59, 3) := by decide +kernel
theorem dX8_take_51 : decode cX8_take 51 = .ok (.ireturn, 1) := by decide +kernel
theorem dX8_restore_0 : decode cX8_restore 0 = .ok (.iload_n 1, 1) := by decide +kernel
theorem dX8_restore_1 : decode cX8_restore 1 = .ok (.iconst 0, 1) := by decide +kernel
theorem dX8_restore_2 : decode cX8_restore 2 = .ok (.iconst 1, 1) := by decide +kernel
theorem dX8_restore_3 : decode cX8_restore 3 = .ok (.invokestatic 88, 3) := by decide +kernel
theorem dX8_restore_6 : decode cX8_restore 6 = .ok (.ifCond .ne 5, 3) := by decide +kernel
theorem dX8_restore_9 : decode cX8_restore 9 = .ok (.iconst (-1), 1) := by decide +kernel
theorem dX8_restore_10 : decode cX8_restore 10 = .ok (.ireturn, 1) := by decide +kernel
theorem dX8_restore_11 : decode cX8_restore 11 = .ok (.aload_n 0, 1) := by decide +kernel
theorem dX8_restore_12 : decode cX8_restore 12 = .ok (.getfield 10, 3) := by decide +kernel
theorem dX8_restore_15 : decode cX8_restore 15 = .ok (.iload_n 1, 1) := by decide +kernel
theorem dX8_restore_16 : decode cX8_restore 16 = .ok (.invokevirtual 92, 3) := by decide +kernel
theorem dX8_restore_19 : decode cX8_restore 19 = .ok (.astore_n 2, 1) := by decide +kernel
theorem dX8_restore_20 : decode cX8_restore 20 = .ok (.aload_n 2, 1) := by decide +kernel
theorem dX8_restore_21 : decode cX8_restore 21 = .ok (.getfield 107, 3) := by decide +kernel
theorem dX8_restore_24 : decode cX8_restore 24 = .ok (.ifCond .ne 6, 3) := by decide +kernel
theorem dX8_restore_27 : decode cX8_restore 27 = .ok (.bipush (-2), 2) := by decide +kernel
theorem dX8_restore_29 : decode cX8_restore 29 = .ok (.ireturn, 1) := by decide +kernel
theorem dX8_restore_30 : decode cX8_restore 30 = .ok (.aload_n 0, 1) := by decide +kernel
theorem dX8_restore_31 : decode cX8_restore 31 = .ok (.getfield 40, 3) := by decide +kernel
theorem dX8_restore_34 : decode cX8_restore 34 = .ok (.aload_n 0, 1) := by decide +kernel
theorem dX8_restore_35 : decode cX8_restore 35 = .ok (.getfield 10, 3) := by decide +kernel
theorem dX8_restore_38 : decode cX8_restore 38 = .ok (.invokevirtual 51, 3) := by decide +kernel
theorem dX8_restore_41 : decode cX8_restore 41 = .ok (.aload_n 0, 1) := by decide +kernel
theorem dX8_restore_42 : decode cX8_restore 42 = .ok (.getfield 20, 3) := by decide +kernel
theorem dX8_restore_45 : decode cX8_restore 45 = .ok (.aload_n 2, 1) := by decide +kernel
theorem dX8_restore_46 : decode cX8_restore 46 = .ok (.getfield 111, 3) := by decide +kernel
theorem dX8_restore_49 : decode cX8_restore 49 = .ok (.invokevirtual 114, 3) := by decide +kernel
theorem dX8_restore_52 : decode cX8_restore 52 = .ok (.aload_n 0, 1) := by decide +kernel
theorem dX8_restore_53 : decode cX8_restore 53 = .ok (.getfield 40, 3) := by decide +kernel
theorem dX8_restore_56 : decode cX8_restore 56 = .ok (.aload_n 0, 1) := by decide +kernel
theorem dX8_restore_57 : decode cX8_restore 57 = .ok (.getfield 20, 3) := by decide +kernel
theorem dX8_restore_60 : decode cX8_restore 60 = .ok (.getfield 101, 3) := by decide +kernel
theorem dX8_restore_63 : decode cX8_restore 63 = .ok (.invokevirtual 59, 3) := by decide +kernel
theorem dX8_restore_66 : decode cX8_restore 66 = .ok (.ireturn, 1) := by decide +kernel
theorem dX8_undo_0 : decode cX8_undo 0 = .ok (.aload_n 0, 1) := by decide +kernel
theorem dX8_undo_1 : decode cX8_undo 1 = .ok (.getfield 40, 3) := by decide +kernel
theorem dX8_undo_4 : decode cX8_undo 4 = .ok (.aload_n 0, 1) := by decide +kernel
theorem dX8_undo_5 : decode cX8_undo 5 = .ok (.getfield 10, 3) := by decide +kernel
theorem dX8_undo_8 : decode cX8_undo 8 = .ok (.invokevirtual 117, 3) := by decide +kernel
theorem dX8_undo_11 : decode cX8_undo 11 = .ok (.ireturn, 1) := by decide +kernel
theorem dX8_append_0 : decode cX8_append 0 = .ok (.aload_n 0, 1) := by decide +kernel
theorem dX8_append_1 : decode cX8_append 1 = .ok (.getfield 47, 3) := by decide +kernel
theorem dX8_append_4 : decode cX8_append 4 = .ok (.iload_n 1, 1) := by decide +kernel
theorem dX8_append_5 : decode cX8_append 5 = .ok (.invokevirtual 121, 3) := by decide +kernel
theorem dX8_append_8 : decode cX8_append 8 = .ok (.ireturn, 1) := by decide +kernel
theorem dX8_clearText_0 : decode cX8_clearText 0 = .ok (.aload_n 0, 1) := by decide +kernel
theorem dX8_clearText_1 : decode cX8_clearText 1 = .ok (.getfield 47, 3) := by decide +kernel
theorem dX8_clearText_4 : decode cX8_clearText 4 = .ok (.invokevirtual 124, 3) := by decide +kernel
theorem dX8_clearText_7 : decode cX8_clearText 7 = .ok (.ireturn, 1) := by decide +kernel
theorem dX8_run_0 : decode cX8_run 0 = .ok (.aload_n 0, 1) := by decide +kernel
theorem dX8_run_1 : decode cX8_run 1 = .ok (.getfield 40, 3) := by decide +kernel
theorem dX8_run_4 : decode cX8_run 4 = .ok (.aload_n 0, 1) := by decide +kernel
theorem dX8_run_5 : decode cX8_run 5 = .ok (.getfield 10, 3) := by decide +kernel
theorem dX8_run_8 : decode cX8_run 8 = .ok (.invokevirtual 51, 3) := by decide +kernel
theorem dX8_run_11 : decode cX8_run 11 = .ok (.aload_n 0, 1) := by decide +kernel
theorem dX8_run_12 : decode cX8_run 12 = .ok (.getfield 47, 3) := by decide +kernel
theorem dX8_run_15 : decode cX8_run 15 = .ok (.aload_n 0, 1) := by decide +kernel
theorem dX8_run_16 : decode cX8_run 16 = .ok (.getfield 26, 3) := by decide +kernel
theorem dX8_run_19 : decode cX8_run 19 = .ok (.invokevirtual 128, 3) := by decide +kernel
theorem dX8_run_22 : decode cX8_run 22 = .ok (.istore_n 1, 1) := by decide +kernel
theorem dX8_run_23 : decode cX8_run 23 = .ok (.iload_n 1, 1) := by decide +kernel
theorem dX8_run_24 : decode cX8_run 24 = .ok (.ifCond .ge 16, 3) := by decide +kernel
theorem dX8_run_27 : decode cX8_run 27 = .ok (.aload_n 0, 1) := by decide +kernel
theorem dX8_run_28 : decode cX8_run 28 = .ok (.getfield 40, 3) := by decide +kernel
theorem dX8_run_31 : decode cX8_run 31 = .ok (.aload_n 0, 1) := by decide +kernel
theorem dX8_run_32 : decode cX8_run 32 = .ok (.getfield 10, 3) := by decide +kernel
theorem dX8_run_35 : decode cX8_run 35 = .ok (.invokevirtual 132, 3) := by decide +kernel
theorem dX8_run_38 : decode cX8_run 38 = .ok (.iload_n 1, 1) := by decide +kernel
theorem dX8_run_39 : decode cX8_run 39 = .ok (.ireturn, 1) := by decide +kernel
theorem dX8_run_40 : decode cX8_run 40 = .ok (.aload_n 0, 1) := by decide +kernel
theorem dX8_run_41 : decode cX8_run 41 = .ok (.getfield 47, 3) := by decide +kernel
theorem dX8_run_44 : decode cX8_run 44 = .ok (.invokevirtual 124, 3) := by decide +kernel
theorem dX8_run_47 : decode cX8_run 47 = .ok (.pop, 1) := by decide +kernel
theorem dX8_run_48 : decode cX8_run 48 = .ok (.aload_n 0, 1) := by decide +kernel
theorem dX8_run_49 : decode cX8_run 49 = .ok (.getfield 40, 3) := by decide +kernel
theorem dX8_run_52 : decode cX8_run 52 = .ok (.iload_n 1, 1) := by decide +kernel
theorem dX8_run_53 : decode cX8_run 53 = .ok (.invokevirtual 59, 3) := by decide +kernel
theorem dX8_run_56 : decode cX8_run 56 = .ok (.ireturn, 1) := by decide +kernel
theorem dX8_count_0 : decode cX8_count 0 = .ok (.iload_n 1, 1) := by decide +kernel
theorem dX8_count_1 : decode cX8_count 1 = .ok (.bipush 6, 2) := by decide +kernel
theorem dX8_count_3 : decode cX8_count 3 = .ok (.bipush 10, 2) := by decide +kernel
theorem dX8_count_5 : decode cX8_count 5 = .ok (.invokestatic 88, 3) := by decide +kernel
theorem dX8_count_8 : decode cX8_count 8 = .ok (.ifCond .eq 15, 3) := by decide +kernel
theorem dX8_count_11 : decode cX8_count 11 = .ok (.aload_n 0, 1) := by decide +kernel
theorem dX8_count_12 : decode cX8_count 12 = .ok (.getfield 20, 3) := by decide +kernel
theorem dX8_count_15 : decode cX8_count 15 = .ok (.iload_n 1, 1) := by decide +kernel
theorem dX8_count_16 : decode cX8_count 16 = .ok (.bipush 6, 2) := by decide +kernel
theorem dX8_count_18 : decode cX8_count 18 = .ok (.isub, 1) := by decide +kernel
theorem dX8_count_19 : decode cX8_count 19 = .ok (.invokevirtual 135, 3) := by decide +kernel
theorem dX8_count_22 : decode cX8_count 22 = .ok (.ireturn, 1) := by decide +kernel
theorem dX8_count_23 : decode cX8_count 23 = .ok (.iload_n 1, 1) := by decide +kernel
theorem dX8_count_24 : decode cX8_count 24 = .ok (.bipush 11, 2) := by decide +kernel
theorem dX8_count_26 : decode cX8_count 26 = .ok (.bipush 14, 2) := by decide +kernel
theorem dX8_count_28 : decode cX8_count 28 = .ok (.invokestatic 88, 3) := by decide +kernel
theorem dX8_count_31 : decode cX8_count 31 = .ok (.ifCond .eq 15, 3) := by decide +kernel
theorem dX8_count_34 : decode cX8_count 34 = .ok (.aload_n 0, 1) := by decide +kernel
theorem dX8_count_35 : decode cX8_count 35 = .ok (.getfield 20, 3) := by decide +kernel
theorem dX8_count_38 : decode cX8_count 38 = .ok (.iload_n 1, 1) := by decide +kernel
theorem dX8_count_39 : decode cX8_count 39 = .ok (.bipush 11, 2) := by decide +kernel
theorem dX8_count_41 : decode cX8_count 41 = .ok (.isub, 1) := by decide +kernel
theorem dX8_count_42 : decode cX8_count 42 = .ok (.invokevirtual 138, 3) := by decide +kernel
theorem dX8_count_45 : decode cX8_count 45 = .ok (.ireturn, 1) := by decide +kernel
theorem dX8_count_46 : decode cX8_count 46 = .ok (.iload_n 1, 1) := by decide +kernel
theorem dX8_count_47 : decode cX8_count 47 = .ok (.tableswitch 94 0 5 #[37, 48, 59, 70, 78, 86], 37) := by decide +kernel
theorem dX8_count_84 : decode cX8_count 84 = .ok (.aload_n 0, 1) := by decide +kernel
theorem dX8_count_85 : decode cX8_count 85 = .ok (.getfield 20, 3) := by decide +kernel
theorem dX8_count_88 : decode cX8_count 88 = .ok (.getfield 141, 3) := by decide +kernel
theorem dX8_count_91 : decode cX8_count 91 = .ok (.invokevirtual 145, 3) := by decide +kernel
theorem dX8_count_94 : decode cX8_count 94 = .ok (.ireturn, 1) := by decide +kernel
theorem dX8_count_95 : decode cX8_count 95 = .ok (.aload_n 0, 1) := by decide +kernel
theorem dX8_count_96 : decode cX8_count 96 = .ok (.getfield 20, 3) := by decide +kernel
theorem dX8_count_99 : decode cX8_count 99 = .ok (.getfield 150, 3) := by decide +kernel
theorem dX8_count_102 : decode cX8_count 102 = .ok (.invokevirtual 145, 3) := by decide +kernel
theorem dX8_count_105 : decode cX8_count 105 = .ok (.ireturn, 1) := by decide +kernel
theorem dX8_count_106 : decode cX8_count 106 = .ok (.aload_n 0, 1) := by decide +kernel
theorem dX8_count_107 : decode cX8_count 107 = .ok (.getfield 20, 3) := by decide +kernel
theorem dX8_count_110 : decode cX8_count 110 = .ok (.getfield 153, 3) := by decide +kernel
theorem dX8_count_113 : decode cX8_count 113 = .ok (.invokevirtual 145, 3) := by decide +kernel
theorem dX8_count_116 : decode cX8_count 116 = .ok (.ireturn, 1) := by decide +kernel
theorem dX8_count_117 : decode cX8_count 117 = .ok (.aload_n 0, 1) := by decide +kernel
theorem dX8_count_118 : decode cX8_count 118 = .ok (.getfield 10, 3) := by decide +kernel
theorem dX8_count_121 : decode cX8_count 121 = .ok (.invokevirtual 156, 3) := by decide +kernel
theorem dX8_count_124 : decode cX8_count 124 = .ok (.ireturn, 1) := by decide +kernel
theorem dX8_count_125 : decode cX8_count 125 = .ok (.aload_n 0, 1) := by decide +kernel
theorem dX8_count_126 : decode cX8_count 126 = .ok (.getfield 40, 3) := by decide +kernel
theorem dX8_count_129 : decode cX8_count 129 = .ok (.invokevirtual 159, 3) := by decide +kernel
theorem dX8_count_132 : decode cX8_count 132 = .ok (.ireturn, 1) := by decide +kernel
theorem dX8_count_133 : decode cX8_count 133 = .ok (.aload_n 0, 1) := by decide +kernel
theorem dX8_count_134 : decode cX8_count 134 = .ok (.getfield 47, 3) := by decide +kernel
theorem dX8_count_137 : decode cX8_count 137 = .ok (.invokevirtual 160, 3) := by decide +kernel
theorem dX8_count_140 : decode cX8_count 140 = .ok (.ireturn, 1) := by decide +kernel
theorem dX8_count_141 : decode cX8_count 141 = .ok (.iconst (-1), 1) := by decide +kernel
theorem dX8_count_142 : decode cX8_count 142 = .ok (.ireturn, 1) := by decide +kernel
theorem dX8_room_0 : decode cX8_room 0 = .ok (.aload_n 0, 1) := by decide +kernel
theorem dX8_room_1 : decode cX8_room 1 = .ok (.getfield 20, 3) := by decide +kernel
theorem dX8_room_4 : decode cX8_room 4 = .ok (.getfield 141, 3) := by decide +kernel
theorem dX8_room_7 : decode cX8_room 7 = .ok (.iload_n 1, 1) := by decide +kernel
theorem dX8_room_8 : decode cX8_room 8 = .ok (.invokevirtual 161, 3) := by decide +kernel
theorem dX8_room_11 : decode cX8_room 11 = .ok (.ifCond .eq 13, 3) := by decide +kernel
theorem dX8_room_14 : decode cX8_room 14 = .ok (.iload_n 2, 1) := by decide +kernel
theorem dX8_room_15 : decode cX8_room 15 = .ok (.iconst 0, 1) := by decide +kernel
theorem dX8_room_16 : decode cX8_room 16 = .ok (.bipush 11, 2) := by decide +kernel
theorem dX8_room_18 : decode cX8_room 18 = .ok (.invokestatic 88, 3) := by decide +kernel
theorem dX8_room_21 : decode cX8_room 21 = .ok (.ifCond .ne 5, 3) := by decide +kernel
theorem dX8_room_24 : decode cX8_room 24 = .ok (.iconst (-1), 1) := by decide +kernel
theorem dX8_room_25 : decode cX8_room 25 = .ok (.ireturn, 1) := by decide +kernel
theorem dX8_room_26 : decode cX8_room 26 = .ok (.iload_n 2, 1) := by decide +kernel
theorem dX8_room_27 : decode cX8_room 27 = .ok (.bipush 11, 2) := by decide +kernel
theorem dX8_room_29 : decode cX8_room 29 = .ok (.if_icmp .ne 15, 3) := by decide +kernel
theorem dX8_room_32 : decode cX8_room 32 = .ok (.aload_n 0, 1) := by decide +kernel
theorem dX8_room_33 : decode cX8_room 33 = .ok (.getfield 20, 3) := by decide +kernel
theorem dX8_room_36 : decode cX8_room 36 = .ok (.iload_n 1, 1) := by decide +kernel
theorem dX8_room_37 : decode cX8_room 37 = .ok (.iconst (-1), 1) := by decide +kernel
theorem dX8_room_38 : decode cX8_room 38 = .ok (.invokevirtual 165, 3) := by decide +kernel
theorem dX8_room_41 : decode cX8_room 41 = .ok (.goto 15, 3) := by decide +kernel
theorem dX8_room_44 : decode cX8_room 44 = .ok (.aload_n 0, 1) := by decide +kernel
theorem dX8_room_45 : decode cX8_room 45 = .ok (.getfield 20, 3) := by decide +kernel
theorem dX8_room_48 : decode cX8_room 48 = .ok (.getfield 141, 3) := by decide +kernel
theorem dX8_room_51 : decode cX8_room 51 = .ok (.iload_n 1, 1) := by decide +kernel
theorem dX8_room_52 : decode cX8_room 52 = .ok (.iload_n 2, 1) := by decide +kernel
theorem dX8_room_53 : decode cX8_room 53 = .ok (.invokevirtual 168, 3) := by decide +kernel
theorem dX8_room_56 : decode cX8_room 56 = .ok (.ireturn, 1) := by decide +kernel
theorem dX8_booking_0 : decode cX8_booking 0 = .ok (.aload_n 0, 1) := by decide +kernel
theorem dX8_booking_1 : decode cX8_booking 1 = .ok (.getfield 20, 3) := by decide +kernel
theorem dX8_booking_4 : decode cX8_booking 4 = .ok (.getfield 150, 3) := by decide +kernel
theorem dX8_booking_7 : decode cX8_booking 7 = .ok (.iload_n 1, 1) := by decide +kernel
theorem dX8_booking_8 : decode cX8_booking 8 = .ok (.invokevirtual 161, 3) := by decide +kernel
theorem dX8_booking_11 : decode cX8_booking 11 = .ok (.ifCond .eq 13, 3) := by decide +kernel
theorem dX8_booking_14 : decode cX8_booking 14 = .ok (.iload_n 2, 1) := by decide +kernel
theorem dX8_booking_15 : decode cX8_booking 15 = .ok (.iconst 0, 1) := by decide +kernel
theorem dX8_booking_16 : decode cX8_booking 16 = .ok (.bipush 10, 2) := by decide +kernel
theorem dX8_booking_18 : decode cX8_booking 18 = .ok (.invokestatic 88, 3) := by decide +kernel
theorem dX8_booking_21 : decode cX8_booking 21 = .ok (.ifCond .ne 5, 3) := by decide +kernel
theorem dX8_booking_24 : decode cX8_booking 24 = .ok (.iconst (-1), 1) := by decide +kernel
theorem dX8_booking_25 : decode cX8_booking 25 = .ok (.ireturn, 1) := by decide +kernel
theorem dX8_booking_26 : decode cX8_booking 26 = .ok (.iload_n 2, 1) := by decide +kernel
theorem dX8_booking_27 : decode cX8_booking 27 = .ok (.lookupswitch 43 #[(6, 25), (10, 34)], 25) := by decide +kernel
theorem dX8_booking_52 : decode cX8_booking 52 = .ok (.aload_n 0, 1) := by decide +kernel
theorem dX8_booking_53 : decode cX8_booking 53 = .ok (.getfield 20, 3) := by decide +kernel
theorem dX8_booking_56 : decode cX8_booking 56 = .ok (.iload_n 1, 1) := by decide +kernel
theorem dX8_booking_57 : decode cX8_booking 57 = .ok (.invokevirtual 171, 3) := by decide +kernel
theorem dX8_booking_60 : decode cX8_booking 60 = .ok (.ireturn, 1) := by decide +kernel
theorem dX8_booking_61 : decode cX8_booking 61 = .ok (.aload_n 0, 1) := by decide +kernel
theorem dX8_booking_62 : decode cX8_booking 62 = .ok (.getfield 20, 3) := by decide +kernel
theorem dX8_booking_65 : decode cX8_booking 65 = .ok (.iload_n 1, 1) := by decide +kernel
theorem dX8_booking_66 : decode cX8_booking 66 = .ok (.invokevirtual 174, 3) := by decide +kernel
theorem dX8_booking_69 : decode cX8_booking 69 = .ok (.ireturn, 1) := by decide +kernel
theorem dX8_booking_70 : decode cX8_booking 70 = .ok (.aload_n 0, 1) := by decide +kernel
theorem dX8_booking_71 : decode cX8_booking 71 = .ok (.getfield 20, 3) := by decide +kernel
theorem dX8_booking_74 : decode cX8_booking 74 = .ok (.getfield 150, 3) := by decide +kernel
theorem dX8_booking_77 : decode cX8_booking 77 = .ok (.iload_n 1, 1) := by decide +kernel
theorem dX8_booking_78 : decode cX8_booking 78 = .ok (.iload_n 2, 1) := by decide +kernel
theorem dX8_booking_79 : decode cX8_booking 79 = .ok (.invokevirtual 168, 3) := by decide +kernel
theorem dX8_booking_82 : decode cX8_booking 82 = .ok (.ireturn, 1) := by decide +kernel
theorem dX8_voucher_0 : decode cX8_voucher 0 = .ok (.aload_n 0, 1) := by decide +kernel
theorem dX8_voucher_1 : decode cX8_voucher 1 = .ok (.getfield 20, 3) := by decide +kernel
theorem dX8_voucher_4 : decode cX8_voucher 4 = .ok (.getfield 153, 3) := by decide +kernel
theorem dX8_voucher_7 : decode cX8_voucher 7 = .ok (.iload_n 1, 1) := by decide +kernel
theorem dX8_voucher_8 : decode cX8_voucher 8 = .ok (.invokevirtual 161, 3) := by decide +kernel
theorem dX8_voucher_11 : decode cX8_voucher 11 = .ok (.ifCond .eq 12, 3) := by decide +kernel
theorem dX8_voucher_14 : decode cX8_voucher 14 = .ok (.iload_n 2, 1) := by decide +kernel
theorem dX8_voucher_15 : decode cX8_voucher 15 = .ok (.iconst 0, 1) := by decide +kernel
theorem dX8_voucher_16 : decode cX8_voucher 16 = .ok (.iconst 2, 1) := by decide +kernel
theorem dX8_voucher_17 : decode cX8_voucher 17 = .ok (.invokestatic 88, 3) := by decide +kernel
theorem dX8_voucher_20 : decode cX8_voucher 20 = .ok (.ifCond .ne 5, 3) := by decide +kernel
theorem dX8_voucher_23 : decode cX8_voucher 23 = .ok (.iconst (-1), 1) := by decide +kernel
theorem dX8_voucher_24 : decode cX8_voucher 24 = .ok (.ireturn, 1) := by decide +kernel
theorem dX8_voucher_25 : decode cX8_voucher 25 = .ok (.iload_n 2, 1) := by decide +kernel
theorem dX8_voucher_26 : decode cX8_voucher 26 = .ok (.iconst 2, 1) := by decide +kernel
theorem dX8_voucher_27 : decode cX8_voucher 27 = .ok (.if_icmp .ne 14, 3) := by decide +kernel
theorem dX8_voucher_30 : decode cX8_voucher 30 = .ok (.aload_n 0, 1) := by decide +kernel
theorem dX8_voucher_31 : decode cX8_voucher 31 = .ok (.getfield 20, 3) := by decide +kernel
theorem dX8_voucher_34 : decode cX8_voucher 34 = .ok (.iload_n 1, 1) := by decide +kernel
theorem dX8_voucher_35 : decode cX8_voucher 35 = .ok (.invokevirtual 177, 3) := by decide +kernel
theorem dX8_voucher_38 : decode cX8_voucher 38 = .ok (.goto 15, 3) := by decide +kernel
theorem dX8_voucher_41 : decode cX8_voucher 41 = .ok (.aload_n 0, 1) := by decide +kernel
theorem dX8_voucher_42 : decode cX8_voucher 42 = .ok (.getfield 20, 3) := by decide +kernel
theorem dX8_voucher_45 : decode cX8_voucher 45 = .ok (.getfield 153, 3) := by decide +kernel
theorem dX8_voucher_48 : decode cX8_voucher 48 = .ok (.iload_n 1, 1) := by decide +kernel
theorem dX8_voucher_49 : decode cX8_voucher 49 = .ok (.iload_n 2, 1) := by decide +kernel
theorem dX8_voucher_50 : decode cX8_voucher 50 = .ok (.invokevirtual 168, 3) := by decide +kernel
theorem dX8_voucher_53 : decode cX8_voucher 53 = .ok (.ireturn, 1) := by decide +kernel
theorem dX8_money_0 : decode cX8_money 0 = .ok (.iload_n 1, 1) := by decide +kernel
theorem dX8_money_1 : decode cX8_money 1 = .ok (.tableswitch 124 0 6 #[43, 51, 63, 75, 88, 100, 112], 43) := by decide +kernel
theorem dX8_money_44 : decode cX8_money 44 = .ok (.aload_n 0, 1) := by decide +kernel
theorem dX8_money_45 : decode cX8_money 45 = .ok (.getfield 20, 3) := by decide +kernel
theorem dX8_money_48 : decode cX8_money 48 = .ok (.getfield 101, 3) := by decide +kernel
theorem dX8_money_51 : decode cX8_money 51 = .ok (.ireturn, 1) := by decide +kernel
theorem dX8_money_52 : decode cX8_money 52 = .ok (.aload_n 0, 1) := by decide +kernel
theorem dX8_money_53 : decode cX8_money 53 = .ok (.getfield 20, 3) := by decide +kernel
theorem dX8_money_56 : decode cX8_money 56 = .ok (.getfield 153, 3) := by decide +kernel
theorem dX8_money_59 : decode cX8_money 59 = .ok (.iconst 1, 1) := by decide +kernel
theorem dX8_money_60 : decode cX8_money 60 = .ok (.invokevirtual 180, 3) := by decide +kernel
theorem dX8_money_63 : decode cX8_money 63 = .ok (.ireturn, 1) := by decide +kernel
theorem dX8_money_64 : decode cX8_money 64 = .ok (.aload_n 0, 1) := by decide +kernel
theorem dX8_money_65 : decode cX8_money 65 = .ok (.getfield 20, 3) := by decide +kernel
theorem dX8_money_68 : decode cX8_money 68 = .ok (.getfield 150, 3) := by decide +kernel
theorem dX8_money_71 : decode cX8_money 71 = .ok (.iconst 4, 1) := by decide +kernel
theorem dX8_money_72 : decode cX8_money 72 = .ok (.invokevirtual 180, 3) := by decide +kernel
theorem dX8_money_75 : decode cX8_money 75 = .ok (.ireturn, 1) := by decide +kernel
theorem dX8_money_76 : decode cX8_money 76 = .ok (.aload_n 0, 1) := by decide +kernel
theorem dX8_money_77 : decode cX8_money 77 = .ok (.getfield 20, 3) := by decide +kernel
theorem dX8_money_80 : decode cX8_money 80 = .ok (.getfield 150, 3) := by decide +kernel
theorem dX8_money_83 : decode cX8_money 83 = .ok (.bipush 7, 2) := by decide +kernel
theorem dX8_money_85 : decode cX8_money 85 = .ok (.invokevirtual 180, 3) := by decide +kernel
theorem dX8_money_88 : decode cX8_money 88 = .ok (.ireturn, 1) := by decide +kernel
theorem dX8_money_89 : decode cX8_money 89 = .ok (.aload_n 0, 1) := by decide +kernel
theorem dX8_money_90 : decode cX8_money 90 = .ok (.getfield 20, 3) := by decide +kernel
theorem dX8_money_93 : decode cX8_money 93 = .ok (.getfield 150, 3) := by decide +kernel
theorem dX8_money_96 : decode cX8_money 96 = .ok (.iconst 5, 1) := by decide +kernel
theorem dX8_money_97 : decode cX8_money 97 = .ok (.invokevirtual 180, 3) := by decide +kernel
theorem dX8_money_100 : decode cX8_money 100 = .ok (.ireturn, 1) := by decide +kernel
theorem dX8_money_101 : decode cX8_money 101 = .ok (.aload_n 0, 1) := by decide +kernel
theorem dX8_money_102 : decode cX8_money 102 = .ok (.getfield 20, 3) := by decide +kernel
theorem dX8_money_105 : decode cX8_money 105 = .ok (.getfield 183, 3) := by decide +kernel
theorem dX8_money_108 : decode cX8_money 108 = .ok (.iconst 2, 1) := by decide +kernel
theorem dX8_money_109 : decode cX8_money 109 = .ok (.invokevirtual 180, 3) := by decide +kernel
theorem dX8_money_112 : decode cX8_money 112 = .ok (.ireturn, 1) := by decide +kernel
theorem dX8_money_113 : decode cX8_money 113 = .ok (.aload_n 0, 1) := by decide +kernel
theorem dX8_money_114 : decode cX8_money 114 = .ok (.getfield 20, 3) := by decide +kernel
theorem dX8_money_117 : decode cX8_money 117 = .ok (.getfield 153, 3) := by decide +kernel
theorem dX8_money_120 : decode cX8_money 120 = .ok (.iconst 0, 1) := by decide +kernel
theorem dX8_money_121 : decode cX8_money 121 = .ok (.invokevirtual 180, 3) := by decide +kernel
theorem dX8_money_124 : decode cX8_money 124 = .ok (.ireturn, 1) := by decide +kernel
theorem dX8_money_125 : decode cX8_money 125 = .ok (.iconst (-1), 1) := by decide +kernel
theorem dX8_money_126 : decode cX8_money 126 = .ok (.ireturn, 1) := by decide +kernel
theorem dX8_forecast_0 : decode cX8_forecast 0 = .ok (.aload_n 0, 1) := by decide +kernel
theorem dX8_forecast_1 : decode cX8_forecast 1 = .ok (.getfield 33, 3) := by decide +kernel
theorem dX8_forecast_4 : decode cX8_forecast 4 = .ok (.iload_n 1, 1) := by decide +kernel
theorem dX8_forecast_5 : decode cX8_forecast 5 = .ok (.iload_n 2, 1) := by decide +kernel
theorem dX8_forecast_6 : decode cX8_forecast 6 = .ok (.invokevirtual 186, 3) := by decide +kernel
theorem dX8_forecast_9 : decode cX8_forecast 9 = .ok (.ireturn, 1) := by decide +kernel
theorem dX8_freeTime_0 : decode cX8_freeTime 0 = .ok (.aload_n 0, 1) := by decide +kernel
theorem dX8_freeTime_1 : decode cX8_freeTime 1 = .ok (.getfield 33, 3) := by decide +kernel
theorem dX8_freeTime_4 : decode cX8_freeTime 4 = .ok (.iload_n 1, 1) := by decide +kernel
theorem dX8_freeTime_5 : decode cX8_freeTime 5 = .ok (.iload_n 2, 1) := by decide +kernel
theorem dX8_freeTime_6 : decode cX8_freeTime 6 = .ok (.invokevirtual 189, 3) := by decide +kernel
theorem dX8_freeTime_9 : decode cX8_freeTime 9 = .ok (.ireturn, 1) := by decide +kernel
theorem dX8_mergeable_0 : decode cX8_mergeable 0 = .ok (.aload_n 0, 1) := by decide +kernel
theorem dX8_mergeable_1 : decode cX8_mergeable 1 = .ok (.getfield 33, 3) := by decide +kernel
theorem dX8_mergeable_4 : decode cX8_mergeable 4 = .ok (.iload_n 1, 1) := by decide +kernel
theorem dX8_mergeable_5 : decode cX8_mergeable 5 = .ok (.iload_n 2, 1) := by decide +kernel
theorem dX8_mergeable_6 : decode cX8_mergeable 6 = .ok (.invokevirtual 192, 3) := by decide +kernel
theorem dX8_mergeable_9 : decode cX8_mergeable 9 = .ok (.ireturn, 1) := by decide +kernel
theorem dX8_slack_0 : decode cX8_slack 0 = .ok (.aload_n 0, 1) := by decide +kernel
theorem dX8_slack_1 : decode cX8_slack 1 = .ok (.getfield 33, 3) := by decide +kernel
theorem dX8_slack_4 : decode cX8_slack 4 = .ok (.iload_n 1, 1) := by decide +kernel
theorem dX8_slack_5 : decode cX8_slack 5 = .ok (.invokevirtual 195, 3) := by decide +kernel
theorem dX8_slack_8 : decode cX8_slack 8 = .ok (.ireturn, 1) := by decide +kernel
theorem dX8_hintsFor_0 : decode cX8_hintsFor 0 = .ok (.aload_n 0, 1) := by decide +kernel
theorem dX8_hintsFor_1 : decode cX8_hintsFor 1 = .ok (.getfield 33, 3) := by decide +kernel
theorem dX8_hintsFor_4 : decode cX8_hintsFor 4 = .ok (.iload_n 1, 1) := by decide +kernel
theorem dX8_hintsFor_5 : decode cX8_hintsFor 5 = .ok (.iload_n 2, 1) := by decide +kernel
theorem dX8_hintsFor_6 : decode cX8_hintsFor 6 = .ok (.invokevirtual 198, 3) := by decide +kernel
theorem dX8_hintsFor_9 : decode cX8_hintsFor 9 = .ok (.ireturn, 1) := by decide +kernel
theorem dX8_busiest_0 : decode cX8_busiest 0 = .ok (.aload_n 0, 1) := by decide +kernel
theorem dX8_busiest_1 : decode cX8_busiest 1 = .ok (.getfield 33, 3) := by decide +kernel
theorem dX8_busiest_4 : decode cX8_busiest 4 = .ok (.iload_n 1, 1) := by decide +kernel
theorem dX8_busiest_5 : decode cX8_busiest 5 = .ok (.invokevirtual 201, 3) := by decide +kernel
theorem dX8_busiest_8 : decode cX8_busiest 8 = .ok (.ireturn, 1) := by decide +kernel
theorem dX8_inRange_0 : decode cX8_inRange 0 = .ok (.iload_n 0, 1) := by decide +kernel
theorem dX8_inRange_1 : decode cX8_inRange 1 = .ok (.iload_n 1, 1) := by decide +kernel
theorem dX8_inRange_2 : decode cX8_inRange 2 = .ok (.if_icmp .lt 12, 3) := by decide +kernel
theorem dX8_inRange_5 : decode cX8_inRange 5 = .ok (.iload_n 0, 1) := by decide +kernel
theorem dX8_inRange_6 : decode cX8_inRange 6 = .ok (.iload_n 2, 1) := by decide +kernel
theorem dX8_inRange_7 : decode cX8_inRange 7 = .ok (.if_icmp .gt 7, 3) := by decide +kernel
theorem dX8_inRange_10 : decode cX8_inRange 10 = .ok (.iconst 1, 1) := by decide +kernel
theorem dX8_inRange_11 : decode cX8_inRange 11 = .ok (.goto 4, 3) := by decide +kernel
theorem dX8_inRange_14 : decode cX8_inRange 14 = .ok (.iconst 0, 1) := by decide +kernel
theorem dX8_inRange_15 : decode cX8_inRange 15 = .ok (.ireturn, 1) := by decide +kernel
theorem dX9_init_0 : decode cX9_init 0 = .ok (.aload_n 0, 1) := by decide +kernel
theorem dX9_init_1 : decode cX9_init 1 = .ok (.invokespecial 1, 3) := by decide +kernel
theorem dX9_init_4 : decode cX9_init 4 = .ok (.aload_n 0, 1) := by decide +kernel
theorem dX9_init_5 : decode cX9_init 5 = .ok (.sipush 1553, 3) := by decide +kernel
theorem dX9_init_8 : decode cX9_init 8 = .ok (.newarray .int, 2) := by decide +kernel
theorem dX9_init_10 : decode cX9_init 10 = .ok (.putfield 7, 3) := by decide +kernel
theorem dX9_init_13 : decode cX9_init 13 = .ok (.aload_n 0, 1) := by decide +kernel
theorem dX9_init_14 : decode cX9_init 14 = .ok (.sipush 7765, 3) := by decide +kernel
theorem dX9_init_17 : decode cX9_init 17 = .ok (.newarray .int, 2) := by decide +kernel
theorem dX9_init_19 : decode cX9_init 19 = .ok (.putfield 13, 3) := by decide +kernel
theorem dX9_init_22 : decode cX9_init 22 = .ok (.aload_n 0, 1) := by decide +kernel
theorem dX9_init_23 : decode cX9_init 23 = .ok (.sipush 1553, 3) := by decide +kernel
theorem dX9_init_26 : decode cX9_init 26 = .ok (.newarray .int, 2) := by decide +kernel
theorem dX9_init_28 : decode cX9_init 28 = .ok (.putfield 16, 3) := by decide +kernel
theorem dX9_init_31 : decode cX9_init 31 = .ok (.aload_n 0, 1) := by decide +kernel
theorem dX9_init_32 : decode cX9_init 32 = .ok (.sipush 140, 3) := by decide +kernel
theorem dX9_init_35 : decode cX9_init 35 = .ok (.newarray .int, 2) := by decide +kernel
theorem dX9_init_37 : decode cX9_init 37 = .ok (.putfield 19, 3) := by decide +kernel
theorem dX9_init_40 : decode cX9_init 40 = .ok (.aload_n 0, 1) := by decide +kernel
theorem dX9_init_41 : decode cX9_init 41 = .ok (.iconst 4, 1) := by decide +kernel
theorem dX9_init_42 : decode cX9_init 42 = .ok (.newarray .int, 2) := by decide +kernel
theorem dX9_init_44 : decode cX9_init 44 = .ok (.putfield 22, 3) := by decide +kernel
theorem dX9_init_47 : decode cX9_init 47 = .ok (.aload_n 0, 1) := by decide +kernel
theorem dX9_init_48 : decode cX9_init 48 = .ok (.getfield 7, 3) := by decide +kernel
theorem dX9_init_51 : decode cX9_init 51 = .ok (.iconst 4, 1) := by decide +kernel
theorem dX9_init_52 : decode cX9_init 52 = .ok (.iconst 2, 1) := by decide +kernel
theorem dX9_init_53 : decode cX9_init 53 = .ok (.iastore, 1) := by decide +kernel
theorem dX9_init_54 : decode cX9_init 54 = .ok (.aload_n 0, 1) := by decide +kernel
theorem dX9_init_55 : decode cX9_init 55 = .ok (.getfield 7, 3) := by decide +kernel
theorem dX9_init_58 : decode cX9_init 58 = .ok (.iconst 5, 1) := by decide +kernel
theorem dX9_init_59 : decode cX9_init 59 = .ok (.bipush 10, 2) := by decide +kernel
theorem dX9_init_61 : decode cX9_init 61 = .ok (.iastore, 1) := by decide +kernel
theorem dX9_init_62 : decode cX9_init 62 = .ok (.aload_n 0, 1) := by decide +kernel
theorem dX9_init_63 : decode cX9_init 63 = .ok (.getfield 7, 3) := by decide +kernel
theorem dX9_init_66 : decode cX9_init 66 = .ok (.bipush 6, 2) := by decide +kernel
theorem dX9_init_68 : decode cX9_init 68 = .ok (.iconst 5, 1) := by decide +kernel
theorem dX9_init_69 : decode cX9_init 69 = .ok (.iastore, 1) := by decide +kernel
theorem dX9_init_70 : decode cX9_init 70 = .ok (.aload_n 0, 1) := by decide +kernel
theorem dX9_init_71 : decode cX9_init 71 = .ok (.getfield 7, 3) := by decide +kernel
theorem dX9_init_74 : decode cX9_init 74 = .ok (.bipush 7, 2) := by decide +kernel
theorem dX9_init_76 : decode cX9_init 76 = .ok (.bipush 15, 2) := by decide +kernel
theorem dX9_init_78 : decode cX9_init 78 = .ok (.iastore, 1) := by decide +kernel
theorem dX9_init_79 : decode cX9_init 79 = .ok (.aload_n 0, 1) := by decide +kernel
theorem dX9_init_80 : decode cX9_init 80 = .ok (.getfield 7, 3) := by decide +kernel
theorem dX9_init_83 : decode cX9_init 83 = .ok (.bipush 8, 2) := by decide +kernel
theorem dX9_init_85 : decode cX9_init 85 = .ok (.bipush 20, 2) := by decide +kernel
theorem dX9_init_87 : decode cX9_init 87 = .ok (.iastore, 1) := by decide +kernel
theorem dX9_init_88 : decode cX9_init 88 = .ok (.return_, 1) := by decide +kernel
theorem dX9_in_0 : decode cX9_in 0 = .ok (.iload_n 0, 1) := by decide +kernel
theorem dX9_in_1 : decode cX9_in 1 = .ok (.iload_n 1, 1) := by decide +kernel
theorem dX9_in_2 : decode cX9_in 2 = .ok (.if_icmp .lt 12, 3) := by decide +kernel
theorem dX9_in_5 : decode cX9_in 5 = .ok (.iload_n 0, 1) := by decide +kernel
theorem dX9_in_6 : decode cX9_in 6 = .ok (.iload_n 2, 1) := by decide +kernel
theorem dX9_in_7 : decode cX9_in 7 = .ok (.if_icmp .gt 7, 3) := by decide +kernel
theorem dX9_in_10 : decode cX9_in 10 = .ok (.iconst 1, 1) := by decide +kernel
theorem dX9_in_11 : decode cX9_in 11 = .ok (.goto 4, 3) := by decide +kernel
theorem dX9_in_14 : decode cX9_in 14 = .ok (.iconst 0, 1) := by decide +kernel
theorem dX9_in_15 : decode cX9_in 15 = .ok (.ireturn, 1) := by decide +kernel
theorem dX9_lesser_0 : decode cX9_lesser 0 = .ok (.iload_n 0, 1) := by decide +kernel
theorem dX9_lesser_1 : decode cX9_lesser 1 = .ok (.iload_n 1, 1) := by decide +kernel
theorem dX9_lesser_2 : decode cX9_lesser 2 = .ok (.if_icmp .ge 7, 3) := by decide +kernel
theorem dX9_lesser_5 : decode cX9_lesser 5 = .ok (.iload_n 0, 1) := by decide +kernel
theorem dX9_lesser_6 : decode cX9_lesser 6 = .ok (.goto 4, 3) := by decide +kernel
theorem dX9_lesser_9 : decode cX9_lesser 9 = .ok (.iload_n 1, 1) := by decide +kernel
theorem dX9_lesser_10 : decode cX9_lesser 10 = .ok (.ireturn, 1) := by decide +kernel
theorem dX9_greater_0 : decode cX9_greater 0 = .ok (.iload_n 0, 1) := by decide +kernel
theorem dX9_greater_1 : decode cX9_greater 1 = .ok (.iload_n 1, 1) := by decide +kernel
theorem dX9_greater_2 : decode cX9_greater 2 = .ok (.if_icmp .le 7, 3) := by decide +kernel
theorem dX9_greater_5 : decode cX9_greater 5 = .ok (.iload_n 0, 1) := by decide +kernel
theorem dX9_greater_6 : decode cX9_greater 6 = .ok (.goto 4, 3) := by decide +kernel
theorem dX9_greater_9 : decode cX9_greater 9 = .ok (.iload_n 1, 1) := by decide +kernel
theorem dX9_greater_10 : decode cX9_greater 10 = .ok (.ireturn, 1) := by decide +kernel
theorem dX9_hold_0 : decode cX9_hold 0 = .ok (.iconst 0, 1) := by decide +kernel
theorem dX9_hold_1 : decode cX9_hold 1 = .ok (.istore_n 1, 1) := by decide +kernel
theorem dX9_hold_2 : decode cX9_hold 2 = .ok (.iload_n 1, 1) := by decide +kernel
theorem dX9_hold_3 : decode cX9_hold 3 = .ok (.sipush 1553, 3) := by decide +kernel
theorem dX9_hold_6 : decode cX9_hold 6 = .ok (.if_icmp .ge 21, 3) := by decide +kernel
theorem dX9_hold_9 : decode cX9_hold 9 = .ok (.aload_n 0, 1) := by decide +kernel
theorem dX9_hold_10 : decode cX9_hold 10 = .ok (.getfield 16, 3) := by decide +kernel
theorem dX9_hold_13 : decode cX9_hold 13 = .ok (.iload_n 1, 1) := by decide +kernel
theorem dX9_hold_14 : decode cX9_hold 14 = .ok (.aload_n 0, 1) := by decide +kernel
theorem dX9_hold_15 : decode cX9_hold 15 = .ok (.getfield 7, 3) := by decide +kernel
theorem dX9_hold_18 : decode cX9_hold 18 = .ok (.iload_n 1, 1) := by decide +kernel
theorem dX9_hold_19 : decode cX9_hold 19 = .ok (.iaload, 1) := by decide +kernel
theorem dX9_hold_20 : decode cX9_hold 20 = .ok (.iastore, 1) := by decide +kernel
theorem dX9_hold_21 : decode cX9_hold 21 = .ok (.iinc 1 1, 3) := by decide +kernel
theorem dX9_hold_24 : decode cX9_hold 24 = .ok (.goto (-22), 3) := by decide +kernel
theorem dX9_hold_27 : decode cX9_hold 27 = .ok (.return_, 1) := by decide +kernel
theorem dX9_lets_0 : decode cX9_lets 0 = .ok (.iconst 0, 1) := by decide +kernel
theorem dX9_lets_1 : decode cX9_lets 1 = .ok (.istore_n 1, 1) := by decide +kernel
theorem dX9_lets_2 : decode cX9_lets 2 = .ok (.iload_n 1, 1) := by decide +kernel
theorem dX9_lets_3 : decode cX9_lets 3 = .ok (.sipush 1553, 3) := by decide +kernel
theorem dX9_lets_6 : decode cX9_lets 6 = .ok (.if_icmp .ge 21, 3) := by decide +kernel
theorem dX9_lets_9 : decode cX9_lets 9 = .ok (.aload_n 0, 1) := by decide +kernel
theorem dX9_lets_10 : decode cX9_lets 10 = .ok (.getfield 7, 3) := by decide +kernel
theorem dX9_lets_13 : decode cX9_lets 13 = .ok (.iload_n 1, 1) := by decide +kernel
theorem dX9_lets_14 : decode cX9_lets 14 = .ok (.aload_n 0, 1) := by decide +kernel
theorem dX9_lets_15 : decode cX9_lets 15 = .ok (.getfield 16, 3) := by decide +kernel
theorem dX9_lets_18 : decode cX9_lets 18 = .ok (.iload_n 1, 1) := by decide +kernel
theorem dX9_lets_19 : decode cX9_lets 19 = .ok (.iaload, 1) := by decide +kernel
theorem dX9_lets_20 : decode cX9_lets 20 = .ok (.iastore, 1) := by decide +kernel
theorem dX9_lets_21 : decode cX9_lets 21 = .ok (.iinc 1 1, 3) := by decide +kernel
theorem dX9_lets_24 : decode cX9_lets 24 = .ok (.goto (-22), 3) := by decide +kernel
theorem dX9_lets_27 : decode cX9_lets 27 = .ok (.return_, 1) := by decide +kernel
theorem dX9_ends_0 : decode cX9_ends 0 = .ok (.iload_n 1, 1) := by decide +kernel
theorem dX9_ends_1 : decode cX9_ends 1 = .ok (.ifCond .ge 5, 3) := by decide +kernel
theorem dX9_ends_4 : decode cX9_ends 4 = .ok (.iload_n 1, 1) := by decide +kernel
theorem dX9_ends_5 : decode cX9_ends 5 = .ok (.ireturn, 1) := by decide +kernel
theorem dX9_ends_6 : decode cX9_ends 6 = .ok (.aload_n 0, 1) := by decide +kernel
theorem dX9_ends_7 : decode cX9_ends 7 = .ok (.getfield 25, 3) := by decide +kernel
theorem dX9_ends_10 : decode cX9_ends 10 = .ok (.iconst 5, 1) := by decide +kernel
theorem dX9_ends_11 : decode cX9_ends 11 = .ok (.if_icmp .ne 44, 3) := by decide +kernel
theorem dX9_ends_14 : decode cX9_ends 14 = .ok (.iconst 0, 1) := by decide +kernel
theorem dX9_ends_15 : decode cX9_ends 15 = .ok (.istore_n 2, 1) := by decide +kernel
theorem dX9_ends_16 : decode cX9_ends 16 = .ok (.iload_n 2, 1) := by decide +kernel
theorem dX9_ends_17 : decode cX9_ends 17 = .ok (.sipush 6212, 3) := by decide +kernel
theorem dX9_ends_20 : decode cX9_ends 20 = .ok (.if_icmp .ge 25, 3) := by decide +kernel
theorem dX9_ends_23 : decode cX9_ends 23 = .ok (.aload_n 0, 1) := by decide +kernel
theorem dX9_ends_24 : decode cX9_ends 24 = .ok (.getfield 13, 3) := by decide +kernel
theorem dX9_ends_27 : decode cX9_ends 27 = .ok (.iload_n 2, 1) := by decide +kernel
theorem dX9_ends_28 : decode cX9_ends 28 = .ok (.aload_n 0, 1) := by decide +kernel
theorem dX9_ends_29 : decode cX9_ends 29 = .ok (.getfield 13, 3) := by decide +kernel
theorem dX9_ends_32 : decode cX9_ends 32 = .ok (.iload_n 2, 1) := by decide +kernel
theorem dX9_ends_33 : decode cX9_ends 33 = .ok (.sipush 1553, 3) := by decide +kernel
theorem dX9_ends_36 : decode cX9_ends 36 = .ok (.iadd, 1) := by decide +kernel
theorem dX9_ends_37 : decode cX9_ends 37 = .ok (.iaload, 1) := by decide +kernel
theorem dX9_ends_38 : decode cX9_ends 38 = .ok (.iastore, 1) := by decide +kernel
theorem dX9_ends_39 : decode cX9_ends 39 = .ok (.iinc 2 1, 3) := by decide +kernel
theorem dX9_ends_42 : decode cX9_ends 42 = .ok (.goto (-26), 3) := by decide +kernel
theorem dX9_ends_45 : decode cX9_ends 45 = .ok (.aload_n 0, 1) := by decide +kernel
theorem dX9_ends_46 : decode cX9_ends 46 = .ok (.dup, 1) := by decide +kernel
theorem dX9_ends_47 : decode cX9_ends 47 = .ok (.getfield 25, 3) := by decide +kernel
theorem dX9_ends_50 : decode cX9_ends 50 = .ok (.iconst 1, 1) := by decide +kernel
theorem dX9_ends_51 : decode cX9_ends 51 = .ok (.isub, 1) := by decide +kernel
theorem dX9_ends_52 : decode cX9_ends 52 = .ok (.putfield 25, 3) := by decide +kernel
theorem dX9_ends_55 : decode cX9_ends 55 = .ok (.iconst 0, 1) := by decide +kernel
theorem dX9_ends_56 : decode cX9_ends 56 = .ok (.istore_n 2, 1) := by decide +kernel
theorem dX9_ends_57 : decode cX9_ends 57 = .ok (.iload_n 2, 1) := by decide +kernel
theorem dX9_ends_58 : decode cX9_ends 58 = .ok (.sipush 1553, 3) := by decide +kernel
theorem dX9_ends_61 : decode cX9_ends 61 = .ok (.if_icmp .ge 30, 3) := by decide +kernel
theorem dX9_ends_64 : decode cX9_ends 64 = .ok (.aload_n 0, 1) := by decide +kernel
theorem dX9_ends_65 : decode cX9_ends 65 = .ok (.getfield 13, 3) := by decide +kernel
theorem dX9_ends_68 : decode cX9_ends 68 = .ok (.sipush 1553, 3) := by decide +kernel
theorem dX9_ends_71 : decode cX9_ends 71 = .ok (.aload_n 0, 1) := by decide +kernel
theorem dX9_ends_72 : decode cX9_ends 72 = .ok (.getfield 25, 3) := by decide +kernel
theorem dX9_ends_75 : decode cX9_ends 75 = .ok (.imul, 1) := by decide +kernel
theorem dX9_ends_76 : decode cX9_ends 76 = .ok (.iload_n 2, 1) := by decide +kernel
theorem dX9_ends_77 : decode cX9_ends 77 = .ok (.iadd, 1) := by decide +kernel
theorem dX9_ends_78 : decode cX9_ends 78 = .ok (.aload_n 0, 1) := by decide +kernel
theorem dX9_ends_79 : decode cX9_ends 79 = .ok (.getfield 16, 3) := by decide +kernel
theorem dX9_ends_82 : decode cX9_ends 82 = .ok (.iload_n 2, 1) := by decide +kernel
theorem dX9_ends_83 : decode cX9_ends 83 = .ok (.iaload, 1) := by decide +kernel
theorem dX9_ends_84 : decode cX9_ends 84 = .ok (.iastore, 1) := by decide +kernel
theorem dX9_ends_85 : decode cX9_ends 85 = .ok (.iinc 2 1, 3) := by decide +kernel
theorem dX9_ends_88 : decode cX9_ends 88 = .ok (.goto (-31), 3) := by decide +kernel
theorem dX9_ends_91 : decode cX9_ends 91 = .ok (.aload_n 0, 1) := by decide +kernel
theorem dX9_ends_92 : decode cX9_ends 92 = .ok (.dup, 1) := by decide +kernel
theorem dX9_ends_93 : decode cX9_ends 93 = .ok (.getfield 25, 3) := by decide +kernel
theorem dX9_ends_96 : decode cX9_ends 96 = .ok (.iconst 1, 1) := by decide +kernel
theorem dX9_ends_97 : decode cX9_ends 97 = .ok (.iadd, 1) := by decide +kernel
theorem dX9_ends_98 : decode cX9_ends 98 = .ok (.putfield 25, 3) := by decide +kernel
theorem dX9_ends_101 : decode cX9_ends 101 = .ok (.iload_n 1, 1) := by decide +kernel
theorem dX9_ends_102 : decode cX9_ends 102 = .ok (.ireturn, 1) := by decide +kernel
theorem dX9_isRoom_0 : decode cX9_isRoom 0 = .ok (.iload_n 1, 1) := by decide +kernel
theorem dX9_isRoom_1 : decode cX9_isRoom 1 = .ok (.ifCond .lt 17, 3) := by decide +kernel
theorem dX9_isRoom_4 : decode cX9_isRoom 4 = .ok (.iload_n 1, 1) := by decide +kernel
theorem dX9_isRoom_5 : decode cX9_isRoom 5 = .ok (.aload_n 0, 1) := by decide +kernel
theorem dX9_isRoom_6 : decode cX9_isRoom 6 = .ok (.getfield 7, 3) := by decide +kernel
theorem dX9_isRoom_9 : decode cX9_isRoom 9 = .ok (.iconst 0, 1) := by decide +kernel
theorem dX9_isRoom_10 : decode cX9_isRoom 10 = .ok (.iaload, 1) := by decide +kernel
theorem dX9_isRoom_11 : decode cX9_isRoom 11 = .ok (.if_icmp .ge 7, 3) := by decide +kernel
theorem dX9_isRoom_14 : decode cX9_isRoom 14 = .ok (.iconst 1, 1) := by decide +kernel
theorem dX9_isRoom_15 : decode cX9_isRoom 15 = .ok (.goto 4, 3) := by decide +kernel
theorem dX9_isRoom_18 : decode cX9_isRoom 18 = .ok (.iconst 0, 1) := by decide +kernel
theorem dX9_isRoom_19 : decode cX9_isRoom 19 = .ok (.ireturn, 1) := by decide +kernel
theorem dX9_isBooking_0 : decode cX9_isBooking 0 = .ok (.iload_n 1, 1) := by decide +kernel
theorem dX9_isBooking_1 : decode cX9_isBooking 1 = .ok (.ifCond .lt 17, 3) := by decide +kernel
theorem dX9_isBooking_4 : decode cX9_isBooking 4 = .ok (.iload_n 1, 1) := by decide +kernel
theorem dX9_isBooking_5 : decode cX9_isBooking 5 = .ok (.aload_n 0, 1) := by decide +kernel
theorem dX9_isBooking_6 : decode cX9_isBooking 6 = .ok (.getfield 7, 3) := by decide +kernel
theorem dX9_isBooking_9 : decode cX9_isBooking 9 = .ok (.iconst 1, 1) := by decide +kernel
theorem dX9_isBooking_10 : decode cX9_isBooking 10 = .ok (.iaload, 1) := by decide +kernel
theorem dX9_isBooking_11 : decode cX9_isBooking 11 = .ok (.if_icmp .ge 7, 3) := by decide +kernel
theorem dX9_isBooking_14 : decode cX9_isBooking 14 = .ok (.iconst 1, 1) := by decide +kernel
theorem dX9_isBooking_15 : decode cX9_isBooking 15 = .ok (.goto 4, 3) := by decide +kernel
theorem dX9_isBooking_18 : decode cX9_isBooking 18 = .ok (.iconst 0, 1) := by decide +kernel
theorem dX9_isBooking_19 : decode cX9_isBooking 19 = .ok (.ireturn, 1) := by decide +kernel
theorem dX9_isVoucher_0 : decode cX9_isVoucher 0 = .ok (.iload_n 1, 1) := by decide +kernel
theorem dX9_isVoucher_1 : decode cX9_isVoucher 1 = .ok (.ifCond .lt 17, 3) := by decide +kernel
theorem dX9_isVoucher_4 : decode cX9_isVoucher 4 = .ok (.iload_n 1, 1) := by decide +kernel
theorem dX9_isVoucher_5 : decode cX9_isVoucher 5 = .ok (.aload_n 0, 1) := by decide +kernel
theorem dX9_isVoucher_6 : decode cX9_isVoucher 6 = .ok (.getfield 7, 3) := by decide +kernel
theorem dX9_isVoucher_9 : decode cX9_isVoucher 9 = .ok (.iconst 2, 1) := by decide +kernel
theorem dX9_isVoucher_10 : decode cX9_isVoucher 10 = .ok (.iaload, 1) := by decide +kernel
end
section
theorem dX9_isVoucher_11 : decode cX9_isVoucher 11 = .ok (.if_icmp .ge 7, 3) := by decide +kernel
theorem dX9_isVoucher_14 : decode cX9_isVoucher 14 = .ok (.iconst 1, 1) := by decide +kernel
theorem dX9_isVoucher_15 : decode cX9_isVoucher 15 = .ok (.goto 4, 3) := by decide +kernel
theorem dX9_isVoucher_18 : decode cX9_isVoucher 18 = .ok (.iconst 0, 1) := by decide +kernel
theorem dX9_isVoucher_19 : decode cX9_isVoucher 19 = .ok (.ireturn, 1) := by decide +kernel
theorem dX9_of_0 : decode cX9_of 0 = .ok (.aload_n 0, 1) := by decide +kernel
theorem dX9_of_1 : decode cX9_of 1 = .ok (.getfield 7, 3) := by decide +kernel
theorem dX9_of_4 : decode cX9_of 4 = .ok (.bipush 9, 2) := by decide +kernel
theorem dX9_of_6 : decode cX9_of 6 = .ok (.bipush 11, 2) := by decide +kernel
theorem dX9_of_8 : decode cX9_of 8 = .ok (.iload_n 1, 1) := by decide +kernel
theorem dX9_of_9 : decode cX9_of 9 = .ok (.imul, 1) := by decide +kernel
theorem dX9_of_10 : decode cX9_of 10 = .ok (.iadd, 1) := by decide +kernel
theorem dX9_of_11 : decode cX9_of 11 = .ok (.iload_n 2, 1) := by decide +kernel
theorem dX9_of_12 : decode cX9_of 12 = .ok (.iadd, 1) := by decide +kernel
theorem dX9_of_13 : decode cX9_of 13 = .ok (.iaload, 1) := by decide +kernel
theorem dX9_of_14 : decode cX9_of 14 = .ok (.ireturn, 1) := by decide +kernel
theorem dX9_its_0 : decode cX9_its 0 = .ok (.aload_n 0, 1) := by decide +kernel
theorem dX9_its_1 : decode cX9_its 1 = .ok (.getfield 7, 3) := by decide +kernel
theorem dX9_its_4 : decode cX9_its 4 = .ok (.bipush 53, 2) := by decide +kernel
theorem dX9_its_6 : decode cX9_its 6 = .ok (.bipush 9, 2) := by decide +kernel
theorem dX9_its_8 : decode cX9_its 8 = .ok (.iload_n 1, 1) := by decide +kernel
theorem dX9_its_9 : decode cX9_its 9 = .ok (.imul, 1) := by decide +kernel
theorem dX9_its_10 : decode cX9_its 10 = .ok (.iadd, 1) := by decide +kernel
theorem dX9_its_11 : decode cX9_its 11 = .ok (.iload_n 2, 1) := by decide +kernel
theorem dX9_its_12 : decode cX9_its 12 = .ok (.iadd, 1) := by decide +kernel
theorem dX9_its_13 : decode cX9_its 13 = .ok (.iaload, 1) := by decide +kernel
theorem dX9_its_14 : decode cX9_its 14 = .ok (.ireturn, 1) := by decide +kernel
theorem dX9_lays_0 : decode cX9_lays 0 = .ok (.aload_n 0, 1) := by decide +kernel
theorem dX9_lays_1 : decode cX9_lays 1 = .ok (.getfield 7, 3) := by decide +kernel
theorem dX9_lays_4 : decode cX9_lays 4 = .ok (.bipush 53, 2) := by decide +kernel
theorem dX9_lays_6 : decode cX9_lays 6 = .ok (.bipush 9, 2) := by decide +kernel
theorem dX9_lays_8 : decode cX9_lays 8 = .ok (.iload_n 1, 1) := by decide +kernel
theorem dX9_lays_9 : decode cX9_lays 9 = .ok (.imul, 1) := by decide +kernel
theorem dX9_lays_10 : decode cX9_lays 10 = .ok (.iadd, 1) := by decide +kernel
theorem dX9_lays_11 : decode cX9_lays 11 = .ok (.iload_n 2, 1) := by decide +kernel
theorem dX9_lays_12 : decode cX9_lays 12 = .ok (.iadd, 1) := by decide +kernel
theorem dX9_lays_13 : decode cX9_lays 13 = .ok (.iload_n 3, 1) := by decide +kernel
theorem dX9_lays_14 : decode cX9_lays 14 = .ok (.iastore, 1) := by decide +kernel
theorem dX9_lays_15 : decode cX9_lays 15 = .ok (.return_, 1) := by decide +kernel
theorem dX9_adds_0 : decode cX9_adds 0 = .ok (.aload_n 0, 1) := by decide +kernel
theorem dX9_adds_1 : decode cX9_adds 1 = .ok (.getfield 7, 3) := by decide +kernel
theorem dX9_adds_4 : decode cX9_adds 4 = .ok (.bipush 53, 2) := by decide +kernel
theorem dX9_adds_6 : decode cX9_adds 6 = .ok (.bipush 9, 2) := by decide +kernel
theorem dX9_adds_8 : decode cX9_adds 8 = .ok (.iload_n 1, 1) := by decide +kernel
theorem dX9_adds_9 : decode cX9_adds 9 = .ok (.imul, 1) := by decide +kernel
theorem dX9_adds_10 : decode cX9_adds 10 = .ok (.iadd, 1) := by decide +kernel
theorem dX9_adds_11 : decode cX9_adds 11 = .ok (.iload_n 2, 1) := by decide +kernel
theorem dX9_adds_12 : decode cX9_adds 12 = .ok (.iadd, 1) := by decide +kernel
theorem dX9_adds_13 : decode cX9_adds 13 = .ok (.dup2, 1) := by decide +kernel
theorem dX9_adds_14 : decode cX9_adds 14 = .ok (.iaload, 1) := by decide +kernel
theorem dX9_adds_15 : decode cX9_adds 15 = .ok (.iload_n 3, 1) := by decide +kernel
theorem dX9_adds_16 : decode cX9_adds 16 = .ok (.iadd, 1) := by decide +kernel
theorem dX9_adds_17 : decode cX9_adds 17 = .ok (.iastore, 1) := by decide +kernel
theorem dX9_adds_18 : decode cX9_adds 18 = .ok (.return_, 1) := by decide +kernel
theorem dX9_doRoom_0 : decode cX9_doRoom 0 = .ok (.iload_n 1, 1) := by decide +kernel
theorem dX9_doRoom_1 : decode cX9_doRoom 1 = .ok (.bipush 20, 2) := by decide +kernel
theorem dX9_doRoom_3 : decode cX9_doRoom 3 = .ok (.bipush 120, 2) := by decide +kernel
theorem dX9_doRoom_5 : decode cX9_doRoom 5 = .ok (.invokestatic 29, 3) := by decide +kernel
theorem dX9_doRoom_8 : decode cX9_doRoom 8 = .ok (.ifCond .eq 35, 3) := by decide +kernel
theorem dX9_doRoom_11 : decode cX9_doRoom 11 = .ok (.iload_n 2, 1) := by decide +kernel
theorem dX9_doRoom_12 : decode cX9_doRoom 12 = .ok (.iconst 0, 1) := by decide +kernel
theorem dX9_doRoom_13 : decode cX9_doRoom 13 = .ok (.bipush 60, 2) := by decide +kernel
theorem dX9_doRoom_15 : decode cX9_doRoom 15 = .ok (.invokestatic 29, 3) := by decide +kernel
theorem dX9_doRoom_18 : decode cX9_doRoom 18 = .ok (.ifCond .eq 25, 3) := by decide +kernel
theorem dX9_doRoom_21 : decode cX9_doRoom 21 = .ok (.iload_n 3, 1) := by decide +kernel
theorem dX9_doRoom_22 : decode cX9_doRoom 22 = .ok (.iconst 1, 1) := by decide +kernel
theorem dX9_doRoom_23 : decode cX9_doRoom 23 = .ok (.sipush 200, 3) := by decide +kernel
theorem dX9_doRoom_26 : decode cX9_doRoom 26 = .ok (.invokestatic 29, 3) := by decide +kernel
theorem dX9_doRoom_29 : decode cX9_doRoom 29 = .ok (.ifCond .eq 14, 3) := by decide +kernel
theorem dX9_doRoom_32 : decode cX9_doRoom 32 = .ok (.iload 4, 2) := by decide +kernel
theorem dX9_doRoom_34 : decode cX9_doRoom 34 = .ok (.iconst 2, 1) := by decide +kernel
theorem dX9_doRoom_35 : decode cX9_doRoom 35 = .ok (.bipush 8, 2) := by decide +kernel
theorem dX9_doRoom_37 : decode cX9_doRoom 37 = .ok (.invokestatic 29, 3) := by decide +kernel
theorem dX9_doRoom_40 : decode cX9_doRoom 40 = .ok (.ifCond .ne 5, 3) := by decide +kernel
theorem dX9_doRoom_43 : decode cX9_doRoom 43 = .ok (.iconst (-1), 1) := by decide +kernel
theorem dX9_doRoom_44 : decode cX9_doRoom 44 = .ok (.ireturn, 1) := by decide +kernel
theorem dX9_doRoom_45 : decode cX9_doRoom 45 = .ok (.aload_n 0, 1) := by decide +kernel
theorem dX9_doRoom_46 : decode cX9_doRoom 46 = .ok (.getfield 7, 3) := by decide +kernel
theorem dX9_doRoom_49 : decode cX9_doRoom 49 = .ok (.iconst 0, 1) := by decide +kernel
theorem dX9_doRoom_50 : decode cX9_doRoom 50 = .ok (.iaload, 1) := by decide +kernel
theorem dX9_doRoom_51 : decode cX9_doRoom 51 = .ok (.iconst 4, 1) := by decide +kernel
theorem dX9_doRoom_52 : decode cX9_doRoom 52 = .ok (.if_icmp .ne 6, 3) := by decide +kernel
theorem dX9_doRoom_55 : decode cX9_doRoom 55 = .ok (.bipush (-3), 2) := by decide +kernel
theorem dX9_doRoom_57 : decode cX9_doRoom 57 = .ok (.ireturn, 1) := by decide +kernel
theorem dX9_doRoom_58 : decode cX9_doRoom 58 = .ok (.bipush 9, 2) := by decide +kernel
theorem dX9_doRoom_60 : decode cX9_doRoom 60 = .ok (.bipush 11, 2) := by decide +kernel
theorem dX9_doRoom_62 : decode cX9_doRoom 62 = .ok (.aload_n 0, 1) := by decide +kernel
theorem dX9_doRoom_63 : decode cX9_doRoom 63 = .ok (.getfield 7, 3) := by decide +kernel
theorem dX9_doRoom_66 : decode cX9_doRoom 66 = .ok (.iconst 0, 1) := by decide +kernel
theorem dX9_doRoom_67 : decode cX9_doRoom 67 = .ok (.iaload, 1) := by decide +kernel
theorem dX9_doRoom_68 : decode cX9_doRoom 68 = .ok (.imul, 1) := by decide +kernel
theorem dX9_doRoom_69 : decode cX9_doRoom 69 = .ok (.iadd, 1) := by decide +kernel
theorem dX9_doRoom_70 : decode cX9_doRoom 70 = .ok (.istore 5, 2) := by decide +kernel
theorem dX9_doRoom_72 : decode cX9_doRoom 72 = .ok (.iconst 0, 1) := by decide +kernel
theorem dX9_doRoom_73 : decode cX9_doRoom 73 = .ok (.istore 6, 2) := by decide +kernel
theorem dX9_doRoom_75 : decode cX9_doRoom 75 = .ok (.iload 6, 2) := by decide +kernel
theorem dX9_doRoom_77 : decode cX9_doRoom 77 = .ok (.bipush 11, 2) := by decide +kernel
theorem dX9_doRoom_79 : decode cX9_doRoom 79 = .ok (.if_icmp .ge 20, 3) := by decide +kernel
theorem dX9_doRoom_82 : decode cX9_doRoom 82 = .ok (.aload_n 0, 1) := by decide +kernel
theorem dX9_doRoom_83 : decode cX9_doRoom 83 = .ok (.getfield 7, 3) := by decide +kernel
theorem dX9_doRoom_86 : decode cX9_doRoom 86 = .ok (.iload 5, 2) := by decide +kernel
theorem dX9_doRoom_88 : decode cX9_doRoom 88 = .ok (.iload 6, 2) := by decide +kernel
theorem dX9_doRoom_90 : decode cX9_doRoom 90 = .ok (.iadd, 1) := by decide +kernel
theorem dX9_doRoom_91 : decode cX9_doRoom 91 = .ok (.iconst 0, 1) := by decide +kernel
theorem dX9_doRoom_92 : decode cX9_doRoom 92 = .ok (.iastore, 1) := by decide +kernel
theorem dX9_doRoom_93 : decode cX9_doRoom 93 = .ok (.iinc 6 1, 3) := by decide +kernel
theorem dX9_doRoom_96 : decode cX9_doRoom 96 = .ok (.goto (-21), 3) := by decide +kernel
theorem dX9_doRoom_99 : decode cX9_doRoom 99 = .ok (.aload_n 0, 1) := by decide +kernel
theorem dX9_doRoom_100 : decode cX9_doRoom 100 = .ok (.getfield 7, 3) := by decide +kernel
theorem dX9_doRoom_103 : decode cX9_doRoom 103 = .ok (.iload 5, 2) := by decide +kernel
theorem dX9_doRoom_105 : decode cX9_doRoom 105 = .ok (.iconst 0, 1) := by decide +kernel
theorem dX9_doRoom_106 : decode cX9_doRoom 106 = .ok (.iadd, 1) := by decide +kernel
theorem dX9_doRoom_107 : decode cX9_doRoom 107 = .ok (.iload_n 1, 1) := by decide +kernel
theorem dX9_doRoom_108 : decode cX9_doRoom 108 = .ok (.iastore, 1) := by decide +kernel
theorem dX9_doRoom_109 : decode cX9_doRoom 109 = .ok (.aload_n 0, 1) := by decide +kernel
theorem dX9_doRoom_110 : decode cX9_doRoom 110 = .ok (.getfield 7, 3) := by decide +kernel
theorem dX9_doRoom_113 : decode cX9_doRoom 113 = .ok (.iload 5, 2) := by decide +kernel
theorem dX9_doRoom_115 : decode cX9_doRoom 115 = .ok (.iconst 1, 1) := by decide +kernel
theorem dX9_doRoom_116 : decode cX9_doRoom 116 = .ok (.iadd, 1) := by decide +kernel
theorem dX9_doRoom_117 : decode cX9_doRoom 117 = .ok (.iload_n 2, 1) := by decide +kernel
theorem dX9_doRoom_118 : decode cX9_doRoom 118 = .ok (.iastore, 1) := by decide +kernel
theorem dX9_doRoom_119 : decode cX9_doRoom 119 = .ok (.aload_n 0, 1) := by decide +kernel
theorem dX9_doRoom_120 : decode cX9_doRoom 120 = .ok (.getfield 7, 3) := by decide +kernel
theorem dX9_doRoom_123 : decode cX9_doRoom 123 = .ok (.iload 5, 2) := by decide +kernel
theorem dX9_doRoom_125 : decode cX9_doRoom 125 = .ok (.iconst 2, 1) := by decide +kernel
theorem dX9_doRoom_126 : decode cX9_doRoom 126 = .ok (.iadd, 1) := by decide +kernel
theorem dX9_doRoom_127 : decode cX9_doRoom 127 = .ok (.iload_n 3, 1) := by decide +kernel
theorem dX9_doRoom_128 : decode cX9_doRoom 128 = .ok (.iastore, 1) := by decide +kernel
theorem dX9_doRoom_129 : decode cX9_doRoom 129 = .ok (.aload_n 0, 1) := by decide +kernel
theorem dX9_doRoom_130 : decode cX9_doRoom 130 = .ok (.getfield 7, 3) := by decide +kernel
theorem dX9_doRoom_133 : decode cX9_doRoom 133 = .ok (.iload 5, 2) := by decide +kernel
theorem dX9_doRoom_135 : decode cX9_doRoom 135 = .ok (.iconst 3, 1) := by decide +kernel
theorem dX9_doRoom_136 : decode cX9_doRoom 136 = .ok (.iadd, 1) := by decide +kernel
theorem dX9_doRoom_137 : decode cX9_doRoom 137 = .ok (.iload 4, 2) := by decide +kernel
theorem dX9_doRoom_139 : decode cX9_doRoom 139 = .ok (.iastore, 1) := by decide +kernel
theorem dX9_doRoom_140 : decode cX9_doRoom 140 = .ok (.aload_n 0, 1) := by decide +kernel
theorem dX9_doRoom_141 : decode cX9_doRoom 141 = .ok (.getfield 7, 3) := by decide +kernel
theorem dX9_doRoom_144 : decode cX9_doRoom 144 = .ok (.iconst 0, 1) := by decide +kernel
theorem dX9_doRoom_145 : decode cX9_doRoom 145 = .ok (.dup2, 1) := by decide +kernel
theorem dX9_doRoom_146 : decode cX9_doRoom 146 = .ok (.iaload, 1) := by decide +kernel
theorem dX9_doRoom_147 : decode cX9_doRoom 147 = .ok (.iconst 1, 1) := by decide +kernel
theorem dX9_doRoom_148 : decode cX9_doRoom 148 = .ok (.iadd, 1) := by decide +kernel
theorem dX9_doRoom_149 : decode cX9_doRoom 149 = .ok (.iastore, 1) := by decide +kernel
theorem dX9_doRoom_150 : decode cX9_doRoom 150 = .ok (.aload_n 0, 1) := by decide +kernel
theorem dX9_doRoom_151 : decode cX9_doRoom 151 = .ok (.getfield 7, 3) := by decide +kernel
theorem dX9_doRoom_154 : decode cX9_doRoom 154 = .ok (.iconst 0, 1) := by decide +kernel
theorem dX9_doRoom_155 : decode cX9_doRoom 155 = .ok (.iaload, 1) := by decide +kernel
theorem dX9_doRoom_156 : decode cX9_doRoom 156 = .ok (.iconst 1, 1) := by decide +kernel
theorem dX9_doRoom_157 : decode cX9_doRoom 157 = .ok (.isub, 1) := by decide +kernel
theorem dX9_doRoom_158 : decode cX9_doRoom 158 = .ok (.ireturn, 1) := by decide +kernel
theorem dX9_addRoom_0 : decode cX9_addRoom 0 = .ok (.aload_n 0, 1) := by decide +kernel
theorem dX9_addRoom_1 : decode cX9_addRoom 1 = .ok (.invokevirtual 33, 3) := by decide +kernel
theorem dX9_addRoom_4 : decode cX9_addRoom 4 = .ok (.aload_n 0, 1) := by decide +kernel
theorem dX9_addRoom_5 : decode cX9_addRoom 5 = .ok (.aload_n 0, 1) := by decide +kernel
theorem dX9_addRoom_6 : decode cX9_addRoom 6 = .ok (.iload_n 1, 1) := by decide +kernel
theorem dX9_addRoom_7 : decode cX9_addRoom 7 = .ok (.iload_n 2, 1) := by decide +kernel
theorem dX9_addRoom_8 : decode cX9_addRoom 8 = .ok (.iload_n 3, 1) := by decide +kernel
theorem dX9_addRoom_9 : decode cX9_addRoom 9 = .ok (.iload 4, 2) := by decide +kernel
theorem dX9_addRoom_11 : decode cX9_addRoom 11 = .ok (.invokevirtual 36, 3) := by decide +kernel
theorem dX9_addRoom_14 : decode cX9_addRoom 14 = .ok (.invokevirtual 40, 3) := by decide +kernel
theorem dX9_addRoom_17 : decode cX9_addRoom 17 = .ok (.ireturn, 1) := by decide +kernel
theorem dX9_setPrice_0 : decode cX9_setPrice 0 = .ok (.aload_n 0, 1) := by decide +kernel
theorem dX9_setPrice_1 : decode cX9_setPrice 1 = .ok (.iload_n 1, 1) := by decide +kernel
theorem dX9_setPrice_2 : decode cX9_setPrice 2 = .ok (.invokevirtual 44, 3) := by decide +kernel
theorem dX9_setPrice_5 : decode cX9_setPrice 5 = .ok (.ifCond .eq 14, 3) := by decide +kernel
theorem dX9_setPrice_8 : decode cX9_setPrice 8 = .ok (.iload_n 2, 1) := by decide +kernel
theorem dX9_setPrice_9 : decode cX9_setPrice 9 = .ok (.iconst 1, 1) := by decide +kernel
theorem dX9_setPrice_10 : decode cX9_setPrice 10 = .ok (.sipush 200, 3) := by decide +kernel
theorem dX9_setPrice_13 : decode cX9_setPrice 13 = .ok (.invokestatic 29, 3) := by decide +kernel
theorem dX9_setPrice_16 : decode cX9_setPrice 16 = .ok (.ifCond .ne 5, 3) := by decide +kernel
theorem dX9_setPrice_19 : decode cX9_setPrice 19 = .ok (.iconst (-1), 1) := by decide +kernel
theorem dX9_setPrice_20 : decode cX9_setPrice 20 = .ok (.ireturn, 1) := by decide +kernel
theorem dX9_setPrice_21 : decode cX9_setPrice 21 = .ok (.aload_n 0, 1) := by decide +kernel
theorem dX9_setPrice_22 : decode cX9_setPrice 22 = .ok (.invokevirtual 33, 3) := by decide +kernel
theorem dX9_setPrice_25 : decode cX9_setPrice 25 = .ok (.aload_n 0, 1) := by decide +kernel
theorem dX9_setPrice_26 : decode cX9_setPrice 26 = .ok (.iload_n 1, 1) := by decide +kernel
theorem dX9_setPrice_27 : decode cX9_setPrice 27 = .ok (.iconst 2, 1) := by decide +kernel
theorem dX9_setPrice_28 : decode cX9_setPrice 28 = .ok (.invokevirtual 48, 3) := by decide +kernel
theorem dX9_setPrice_31 : decode cX9_setPrice 31 = .ok (.istore_n 3, 1) := by decide +kernel
theorem dX9_setPrice_32 : decode cX9_setPrice 32 = .ok (.aload_n 0, 1) := by decide +kernel
theorem dX9_setPrice_33 : decode cX9_setPrice 33 = .ok (.getfield 7, 3) := by decide +kernel
theorem dX9_setPrice_36 : decode cX9_setPrice 36 = .ok (.bipush 9, 2) := by decide +kernel
theorem dX9_setPrice_38 : decode cX9_setPrice 38 = .ok (.bipush 11, 2) := by decide +kernel
theorem dX9_setPrice_40 : decode cX9_setPrice 40 = .ok (.iload_n 1, 1) := by decide +kernel
theorem dX9_setPrice_41 : decode cX9_setPrice 41 = .ok (.imul, 1) := by decide +kernel
theorem dX9_setPrice_42 : decode cX9_setPrice 42 = .ok (.iadd, 1) := by decide +kernel
theorem dX9_setPrice_43 : decode cX9_setPrice 43 = .ok (.iconst 2, 1) := by decide +kernel
theorem dX9_setPrice_44 : decode cX9_setPrice 44 = .ok (.iadd, 1) := by decide +kernel
theorem dX9_setPrice_45 : decode cX9_setPrice 45 = .ok (.iload_n 2, 1) := by decide +kernel
theorem dX9_setPrice_46 : decode cX9_setPrice 46 = .ok (.iastore, 1) := by decide +kernel
theorem dX9_setPrice_47 : decode cX9_setPrice 47 = .ok (.aload_n 0, 1) := by decide +kernel
theorem dX9_setPrice_48 : decode cX9_setPrice 48 = .ok (.iload_n 3, 1) := by decide +kernel
theorem dX9_setPrice_49 : decode cX9_setPrice 49 = .ok (.invokevirtual 40, 3) := by decide +kernel
theorem dX9_setPrice_52 : decode cX9_setPrice 52 = .ok (.ireturn, 1) := by decide +kernel
theorem dX9_highest_0 : decode cX9_highest 0 = .ok (.iload_n 0, 1) := by decide +kernel
theorem dX9_highest_1 : decode cX9_highest 1 = .ok (.ifCond .ne 8, 3) := by decide +kernel
theorem dX9_highest_4 : decode cX9_highest 4 = .ok (.bipush 10, 2) := by decide +kernel
theorem dX9_highest_6 : decode cX9_highest 6 = .ok (.goto 35, 3) := by decide +kernel
theorem dX9_highest_9 : decode cX9_highest 9 = .ok (.iload_n 0, 1) := by decide +kernel
theorem dX9_highest_10 : decode cX9_highest 10 = .ok (.iconst 1, 1) := by decide +kernel
theorem dX9_highest_11 : decode cX9_highest 11 = .ok (.if_icmp .ne 8, 3) := by decide +kernel
theorem dX9_highest_14 : decode cX9_highest 14 = .ok (.bipush 30, 2) := by decide +kernel
theorem dX9_highest_16 : decode cX9_highest 16 = .ok (.goto 25, 3) := by decide +kernel
theorem dX9_highest_19 : decode cX9_highest 19 = .ok (.iload_n 0, 1) := by decide +kernel
theorem dX9_highest_20 : decode cX9_highest 20 = .ok (.iconst 2, 1) := by decide +kernel
theorem dX9_highest_21 : decode cX9_highest 21 = .ok (.if_icmp .ne 8, 3) := by decide +kernel
theorem dX9_highest_24 : decode cX9_highest 24 = .ok (.bipush 20, 2) := by decide +kernel
theorem dX9_highest_26 : decode cX9_highest 26 = .ok (.goto 15, 3) := by decide +kernel
theorem dX9_highest_29 : decode cX9_highest 29 = .ok (.iload_n 0, 1) := by decide +kernel
theorem dX9_highest_30 : decode cX9_highest 30 = .ok (.iconst 3, 1) := by decide +kernel
theorem dX9_highest_31 : decode cX9_highest 31 = .ok (.if_icmp .ne 8, 3) := by decide +kernel
theorem dX9_highest_34 : decode cX9_highest 34 = .ok (.bipush 60, 2) := by decide +kernel
theorem dX9_highest_36 : decode cX9_highest 36 = .ok (.goto 5, 3) := by decide +kernel
theorem dX9_highest_39 : decode cX9_highest 39 = .ok (.bipush 50, 2) := by decide +kernel
theorem dX9_highest_41 : decode cX9_highest 41 = .ok (.ireturn, 1) := by decide +kernel
theorem dX9_set_0 : decode cX9_set 0 = .ok (.iload_n 1, 1) := by decide +kernel
theorem dX9_set_1 : decode cX9_set 1 = .ok (.iconst 0, 1) := by decide +kernel
theorem dX9_set_2 : decode cX9_set 2 = .ok (.iconst 4, 1) := by decide +kernel
theorem dX9_set_3 : decode cX9_set 3 = .ok (.invokestatic 29, 3) := by decide +kernel
theorem dX9_set_6 : decode cX9_set 6 = .ok (.ifCond .eq 15, 3) := by decide +kernel
theorem dX9_set_9 : decode cX9_set 9 = .ok (.iload_n 2, 1) := by decide +kernel
theorem dX9_set_10 : decode cX9_set 10 = .ok (.iconst 0, 1) := by decide +kernel
theorem dX9_set_11 : decode cX9_set 11 = .ok (.iload_n 1, 1) := by decide +kernel
theorem dX9_set_12 : decode cX9_set 12 = .ok (.invokestatic 52, 3) := by decide +kernel
theorem dX9_set_15 : decode cX9_set 15 = .ok (.invokestatic 29, 3) := by decide +kernel
theorem dX9_set_18 : decode cX9_set 18 = .ok (.ifCond .ne 5, 3) := by decide +kernel
theorem dX9_set_21 : decode cX9_set 21 = .ok (.iconst (-1), 1) := by decide +kernel
theorem dX9_set_22 : decode cX9_set 22 = .ok (.ireturn, 1) := by decide +kernel
theorem dX9_set_23 : decode cX9_set 23 = .ok (.aload_n 0, 1) := by decide +kernel
theorem dX9_set_24 : decode cX9_set 24 = .ok (.invokevirtual 33, 3) := by decide +kernel
theorem dX9_set_27 : decode cX9_set 27 = .ok (.aload_n 0, 1) := by decide +kernel
theorem dX9_set_28 : decode cX9_set 28 = .ok (.getfield 7, 3) := by decide +kernel
theorem dX9_set_31 : decode cX9_set 31 = .ok (.iconst 4, 1) := by decide +kernel
theorem dX9_set_32 : decode cX9_set 32 = .ok (.iload_n 1, 1) := by decide +kernel
theorem dX9_set_33 : decode cX9_set 33 = .ok (.iadd, 1) := by decide +kernel
theorem dX9_set_34 : decode cX9_set 34 = .ok (.iaload, 1) := by decide +kernel
theorem dX9_set_35 : decode cX9_set 35 = .ok (.istore_n 3, 1) := by decide +kernel
theorem dX9_set_36 : decode cX9_set 36 = .ok (.aload_n 0, 1) := by decide +kernel
theorem dX9_set_37 : decode cX9_set 37 = .ok (.getfield 7, 3) := by decide +kernel
theorem dX9_set_40 : decode cX9_set 40 = .ok (.iconst 4, 1) := by decide +kernel
theorem dX9_set_41 : decode cX9_set 41 = .ok (.iload_n 1, 1) := by decide +kernel
theorem dX9_set_42 : decode cX9_set 42 = .ok (.iadd, 1) := by decide +kernel
theorem dX9_set_43 : decode cX9_set 43 = .ok (.iload_n 2, 1) := by decide +kernel
theorem dX9_set_44 : decode cX9_set 44 = .ok (.iastore, 1) := by decide +kernel
theorem dX9_set_45 : decode cX9_set 45 = .ok (.aload_n 0, 1) := by decide +kernel
theorem dX9_set_46 : decode cX9_set 46 = .ok (.iload_n 3, 1) := by decide +kernel
theorem dX9_set_47 : decode cX9_set 47 = .ok (.invokevirtual 40, 3) := by decide +kernel
theorem dX9_set_50 : decode cX9_set 50 = .ok (.ireturn, 1) := by decide +kernel
theorem dX9_doGift_0 : decode cX9_doGift 0 = .ok (.iload_n 1, 1) := by decide +kernel
theorem dX9_doGift_1 : decode cX9_doGift 1 = .ok (.iconst 1, 1) := by decide +kernel
theorem dX9_doGift_2 : decode cX9_doGift 2 = .ok (.sipush 500, 3) := by decide +kernel
theorem dX9_doGift_5 : decode cX9_doGift 5 = .ok (.invokestatic 29, 3) := by decide +kernel
theorem dX9_doGift_8 : decode cX9_doGift 8 = .ok (.ifCond .ne 5, 3) := by decide +kernel
theorem dX9_doGift_11 : decode cX9_doGift 11 = .ok (.iconst (-1), 1) := by decide +kernel
theorem dX9_doGift_12 : decode cX9_doGift 12 = .ok (.ireturn, 1) := by decide +kernel
theorem dX9_doGift_13 : decode cX9_doGift 13 = .ok (.aload_n 0, 1) := by decide +kernel
theorem dX9_doGift_14 : decode cX9_doGift 14 = .ok (.getfield 7, 3) := by decide +kernel
theorem dX9_doGift_17 : decode cX9_doGift 17 = .ok (.iconst 2, 1) := by decide +kernel
theorem dX9_doGift_18 : decode cX9_doGift 18 = .ok (.iaload, 1) := by decide +kernel
theorem dX9_doGift_19 : decode cX9_doGift 19 = .ok (.bipush 8, 2) := by decide +kernel
theorem dX9_doGift_21 : decode cX9_doGift 21 = .ok (.if_icmp .ne 6, 3) := by decide +kernel
theorem dX9_doGift_24 : decode cX9_doGift 24 = .ok (.bipush (-3), 2) := by decide +kernel
theorem dX9_doGift_26 : decode cX9_doGift 26 = .ok (.ireturn, 1) := by decide +kernel
theorem dX9_doGift_27 : decode cX9_doGift 27 = .ok (.aload_n 0, 1) := by decide +kernel
theorem dX9_doGift_28 : decode cX9_doGift 28 = .ok (.getfield 7, 3) := by decide +kernel
theorem dX9_doGift_31 : decode cX9_doGift 31 = .ok (.sipush 501, 3) := by decide +kernel
theorem dX9_doGift_34 : decode cX9_doGift 34 = .ok (.iconst 2, 1) := by decide +kernel
theorem dX9_doGift_35 : decode cX9_doGift 35 = .ok (.aload_n 0, 1) := by decide +kernel
theorem dX9_doGift_36 : decode cX9_doGift 36 = .ok (.getfield 7, 3) := by decide +kernel
theorem dX9_doGift_39 : decode cX9_doGift 39 = .ok (.iconst 2, 1) := by decide +kernel
theorem dX9_doGift_40 : decode cX9_doGift 40 = .ok (.iaload, 1) := by decide +kernel
theorem dX9_doGift_41 : decode cX9_doGift 41 = .ok (.imul, 1) := by decide +kernel
theorem dX9_doGift_42 : decode cX9_doGift 42 = .ok (.iadd, 1) := by decide +kernel
theorem dX9_doGift_43 : decode cX9_doGift 43 = .ok (.iload_n 1, 1) := by decide +kernel
theorem dX9_doGift_44 : decode cX9_doGift 44 = .ok (.iastore, 1) := by decide +kernel
theorem dX9_doGift_45 : decode cX9_doGift 45 = .ok (.aload_n 0, 1) := by decide +kernel
theorem dX9_doGift_46 : decode cX9_doGift 46 = .ok (.getfield 7, 3) := by decide +kernel
theorem dX9_doGift_49 : decode cX9_doGift 49 = .ok (.sipush 501, 3) := by decide +kernel
theorem dX9_doGift_52 : decode cX9_doGift 52 = .ok (.iconst 2, 1) := by decide +kernel
theorem dX9_doGift_53 : decode cX9_doGift 53 = .ok (.aload_n 0, 1) := by decide +kernel
theorem dX9_doGift_54 : decode cX9_doGift 54 = .ok (.getfield 7, 3) := by decide +kernel
theorem dX9_doGift_57 : decode cX9_doGift 57 = .ok (.iconst 2, 1) := by decide +kernel
theorem dX9_doGift_58 : decode cX9_doGift 58 = .ok (.iaload, 1) := by decide +kernel
theorem dX9_doGift_59 : decode cX9_doGift 59 = .ok (.imul, 1) := by decide +kernel
theorem dX9_doGift_60 : decode cX9_doGift 60 = .ok (.iadd, 1) := by decide +kernel
theorem dX9_doGift_61 : decode cX9_doGift 61 = .ok (.iconst 1, 1) := by decide +kernel
theorem dX9_doGift_62 : decode cX9_doGift 62 = .ok (.iadd, 1) := by decide +kernel
theorem dX9_doGift_63 : decode cX9_doGift 63 = .ok (.iload_n 1, 1) := by decide +kernel
theorem dX9_doGift_64 : decode cX9_doGift 64 = .ok (.iastore, 1) := by decide +kernel
theorem dX9_doGift_65 : decode cX9_doGift 65 = .ok (.aload_n 0, 1) := by decide +kernel
theorem dX9_doGift_66 : decode cX9_doGift 66 = .ok (.getfield 7, 3) := by decide +kernel
theorem dX9_doGift_69 : decode cX9_doGift 69 = .ok (.iconst 3, 1) := by decide +kernel
theorem dX9_doGift_70 : decode cX9_doGift 70 = .ok (.dup2, 1) := by decide +kernel
theorem dX9_doGift_71 : decode cX9_doGift 71 = .ok (.iaload, 1) := by decide +kernel
theorem dX9_doGift_72 : decode cX9_doGift 72 = .ok (.iload_n 1, 1) := by decide +kernel
theorem dX9_doGift_73 : decode cX9_doGift 73 = .ok (.iadd, 1) := by decide +kernel
theorem dX9_doGift_74 : decode cX9_doGift 74 = .ok (.iastore, 1) := by decide +kernel
theorem dX9_doGift_75 : decode cX9_doGift 75 = .ok (.aload_n 0, 1) := by decide +kernel
theorem dX9_doGift_76 : decode cX9_doGift 76 = .ok (.getfield 7, 3) := by decide +kernel
theorem dX9_doGift_79 : decode cX9_doGift 79 = .ok (.iconst 2, 1) := by decide +kernel
theorem dX9_doGift_80 : decode cX9_doGift 80 = .ok (.dup2, 1) := by decide +kernel
theorem dX9_doGift_81 : decode cX9_doGift 81 = .ok (.iaload, 1) := by decide +kernel
theorem dX9_doGift_82 : decode cX9_doGift 82 = .ok (.iconst 1, 1) := by decide +kernel
theorem dX9_doGift_83 : decode cX9_doGift 83 = .ok (.iadd, 1) := by decide +kernel
theorem dX9_doGift_84 : decode cX9_doGift 84 = .ok (.iastore, 1) := by decide +kernel
theorem dX9_doGift_85 : decode cX9_doGift 85 = .ok (.aload_n 0, 1) := by decide +kernel
theorem dX9_doGift_86 : decode cX9_doGift 86 = .ok (.getfield 7, 3) := by decide +kernel
theorem dX9_doGift_89 : decode cX9_doGift 89 = .ok (.iconst 2, 1) := by decide +kernel
theorem dX9_doGift_90 : decode cX9_doGift 90 = .ok (.iaload, 1) := by decide +kernel
theorem dX9_doGift_91 : decode cX9_doGift 91 = .ok (.iconst 1, 1) := by decide +kernel
theorem dX9_doGift_92 : decode cX9_doGift 92 = .ok (.isub, 1) := by decide +kernel
theorem dX9_doGift_93 : decode cX9_doGift 93 = .ok (.ireturn, 1) := by decide +kernel
theorem dX9_sellVoucher_0 : decode cX9_sellVoucher 0 = .ok (.aload_n 0, 1) := by decide +kernel
theorem dX9_sellVoucher_1 : decode cX9_sellVoucher 1 = .ok (.invokevirtual 33, 3) := by decide +kernel
theorem dX9_sellVoucher_4 : decode cX9_sellVoucher 4 = .ok (.aload_n 0, 1) := by decide +kernel
theorem dX9_sellVoucher_5 : decode cX9_sellVoucher 5 = .ok (.aload_n 0, 1) := by decide +kernel
theorem dX9_sellVoucher_6 : decode cX9_sellVoucher 6 = .ok (.iload_n 1, 1) := by decide +kernel
theorem dX9_sellVoucher_7 : decode cX9_sellVoucher 7 = .ok (.invokevirtual 55, 3) := by decide +kernel
theorem dX9_sellVoucher_10 : decode cX9_sellVoucher 10 = .ok (.invokevirtual 40, 3) := by decide +kernel
theorem dX9_sellVoucher_13 : decode cX9_sellVoucher 13 = .ok (.ireturn, 1) := by decide +kernel
theorem dX9_isPossible_0 : decode cX9_isPossible 0 = .ok (.iconst 1, 1) := by decide +kernel
theorem dX9_isPossible_1 : decode cX9_isPossible 1 = .ok (.istore 4, 2) := by decide +kernel
theorem dX9_isPossible_3 : decode cX9_isPossible 3 = .ok (.iconst 0, 1) := by decide +kernel
theorem dX9_isPossible_4 : decode cX9_isPossible 4 = .ok (.istore 5, 2) := by decide +kernel
theorem dX9_isPossible_6 : decode cX9_isPossible 6 = .ok (.iload 5, 2) := by decide +kernel
theorem dX9_isPossible_8 : decode cX9_isPossible 8 = .ok (.aload_n 0, 1) := by decide +kernel
theorem dX9_isPossible_9 : decode cX9_isPossible 9 = .ok (.getfield 7, 3) := by decide +kernel
theorem dX9_isPossible_12 : decode cX9_isPossible 12 = .ok (.iconst 1, 1) := by decide +kernel
theorem dX9_isPossible_13 : decode cX9_isPossible 13 = .ok (.iaload, 1) := by decide +kernel
theorem dX9_isPossible_14 : decode cX9_isPossible 14 = .ok (.if_icmp .ge 113, 3) := by decide +kernel
theorem dX9_isPossible_17 : decode cX9_isPossible 17 = .ok (.iload 5, 2) := by decide +kernel
theorem dX9_isPossible_19 : decode cX9_isPossible 19 = .ok (.iload_n 3, 1) := by decide +kernel
theorem dX9_isPossible_20 : decode cX9_isPossible 20 = .ok (.if_icmp .eq 101, 3) := by decide +kernel
theorem dX9_isPossible_23 : decode cX9_isPossible 23 = .ok (.aload_n 0, 1) := by decide +kernel
theorem dX9_isPossible_24 : decode cX9_isPossible 24 = .ok (.iload 5, 2) := by decide +kernel
theorem dX9_isPossible_26 : decode cX9_isPossible 26 = .ok (.iconst 0, 1) := by decide +kernel
theorem dX9_isPossible_27 : decode cX9_isPossible 27 = .ok (.invokevirtual 58, 3) := by decide +kernel
theorem dX9_isPossible_30 : decode cX9_isPossible 30 = .ok (.iload_n 1, 1) := by decide +kernel
theorem dX9_isPossible_31 : decode cX9_isPossible 31 = .ok (.if_icmp .ne 90, 3) := by decide +kernel
theorem dX9_isPossible_34 : decode cX9_isPossible 34 = .ok (.aload_n 0, 1) := by decide +kernel
theorem dX9_isPossible_35 : decode cX9_isPossible 35 = .ok (.iload 5, 2) := by decide +kernel
theorem dX9_isPossible_37 : decode cX9_isPossible 37 = .ok (.iconst 3, 1) := by decide +kernel
theorem dX9_isPossible_38 : decode cX9_isPossible 38 = .ok (.invokevirtual 58, 3) := by decide +kernel
theorem dX9_isPossible_41 : decode cX9_isPossible 41 = .ok (.iconst 2, 1) := by decide +kernel
theorem dX9_isPossible_42 : decode cX9_isPossible 42 = .ok (.if_icmp .ge 79, 3) := by decide +kernel
theorem dX9_isPossible_45 : decode cX9_isPossible 45 = .ok (.iload_n 2, 1) := by decide +kernel
theorem dX9_isPossible_46 : decode cX9_isPossible 46 = .ok (.aload_n 0, 1) := by decide +kernel
theorem dX9_isPossible_47 : decode cX9_isPossible 47 = .ok (.iload 5, 2) := by decide +kernel
theorem dX9_isPossible_49 : decode cX9_isPossible 49 = .ok (.iconst 1, 1) := by decide +kernel
theorem dX9_isPossible_50 : decode cX9_isPossible 50 = .ok (.invokevirtual 58, 3) := by decide +kernel
theorem dX9_isPossible_53 : decode cX9_isPossible 53 = .ok (.isub, 1) := by decide +kernel
theorem dX9_isPossible_54 : decode cX9_isPossible 54 = .ok (.istore 6, 2) := by decide +kernel
theorem dX9_isPossible_56 : decode cX9_isPossible 56 = .ok (.iload 4, 2) := by decide +kernel
theorem dX9_isPossible_58 : decode cX9_isPossible 58 = .ok (.ifCond .eq 60, 3) := by decide +kernel
theorem dX9_isPossible_61 : decode cX9_isPossible 61 = .ok (.iload 6, 2) := by decide +kernel
theorem dX9_isPossible_63 : decode cX9_isPossible 63 = .ok (.iconst 1, 1) := by decide +kernel
theorem dX9_isPossible_64 : decode cX9_isPossible 64 = .ok (.aload_n 0, 1) := by decide +kernel
theorem dX9_isPossible_65 : decode cX9_isPossible 65 = .ok (.iload_n 1, 1) := by decide +kernel
theorem dX9_isPossible_66 : decode cX9_isPossible 66 = .ok (.iconst 0, 1) := by decide +kernel
theorem dX9_isPossible_67 : decode cX9_isPossible 67 = .ok (.invokevirtual 48, 3) := by decide +kernel
theorem dX9_isPossible_70 : decode cX9_isPossible 70 = .ok (.isub, 1) := by decide +kernel
theorem dX9_isPossible_71 : decode cX9_isPossible 71 = .ok (.aload_n 0, 1) := by decide +kernel
theorem dX9_isPossible_72 : decode cX9_isPossible 72 = .ok (.iload_n 1, 1) := by decide +kernel
theorem dX9_isPossible_73 : decode cX9_isPossible 73 = .ok (.iconst 1, 1) := by decide +kernel
theorem dX9_isPossible_74 : decode cX9_isPossible 74 = .ok (.invokevirtual 48, 3) := by decide +kernel
theorem dX9_isPossible_77 : decode cX9_isPossible 77 = .ok (.isub, 1) := by decide +kernel
theorem dX9_isPossible_78 : decode cX9_isPossible 78 = .ok (.aload_n 0, 1) := by decide +kernel
theorem dX9_isPossible_79 : decode cX9_isPossible 79 = .ok (.iload_n 1, 1) := by decide +kernel
theorem dX9_isPossible_80 : decode cX9_isPossible 80 = .ok (.iconst 0, 1) := by decide +kernel
theorem dX9_isPossible_81 : decode cX9_isPossible 81 = .ok (.invokevirtual 48, 3) := by decide +kernel
theorem dX9_isPossible_84 : decode cX9_isPossible 84 = .ok (.aload_n 0, 1) := by decide +kernel
theorem dX9_isPossible_85 : decode cX9_isPossible 85 = .ok (.iload_n 1, 1) := by decide +kernel
theorem dX9_isPossible_86 : decode cX9_isPossible 86 = .ok (.iconst 1, 1) := by decide +kernel
theorem dX9_isPossible_87 : decode cX9_isPossible 87 = .ok (.invokevirtual 48, 3) := by decide +kernel
theorem dX9_isPossible_90 : decode cX9_isPossible 90 = .ok (.iadd, 1) := by decide +kernel
theorem dX9_isPossible_91 : decode cX9_isPossible 91 = .ok (.iconst 1, 1) := by decide +kernel
theorem dX9_isPossible_92 : decode cX9_isPossible 92 = .ok (.isub, 1) := by decide +kernel
theorem dX9_isPossible_93 : decode cX9_isPossible 93 = .ok (.invokestatic 29, 3) := by decide +kernel
theorem dX9_isPossible_96 : decode cX9_isPossible 96 = .ok (.ifCond .ne 22, 3) := by decide +kernel
theorem dX9_isPossible_99 : decode cX9_isPossible 99 = .ok (.aload_n 0, 1) := by decide +kernel
theorem dX9_isPossible_100 : decode cX9_isPossible 100 = .ok (.iload 5, 2) := by decide +kernel
theorem dX9_isPossible_102 : decode cX9_isPossible 102 = .ok (.iconst 3, 1) := by decide +kernel
theorem dX9_isPossible_103 : decode cX9_isPossible 103 = .ok (.invokevirtual 58, 3) := by decide +kernel
theorem dX9_isPossible_106 : decode cX9_isPossible 106 = .ok (.ifCond .eq 8, 3) := by decide +kernel
theorem dX9_isPossible_109 : decode cX9_isPossible 109 = .ok (.iload 6, 2) := by decide +kernel
theorem dX9_isPossible_111 : decode cX9_isPossible 111 = .ok (.ifCond .le 7, 3) := by decide +kernel
theorem dX9_isPossible_114 : decode cX9_isPossible 114 = .ok (.iconst 1, 1) := by decide +kernel
theorem dX9_isPossible_115 : decode cX9_isPossible 115 = .ok (.goto 4, 3) := by decide +kernel
theorem dX9_isPossible_118 : decode cX9_isPossible 118 = .ok (.iconst 0, 1) := by decide +kernel
theorem dX9_isPossible_119 : decode cX9_isPossible 119 = .ok (.istore 4, 2) := by decide +kernel
theorem dX9_isPossible_121 : decode cX9_isPossible 121 = .ok (.iinc 5 1, 3) := by decide +kernel
theorem dX9_isPossible_124 : decode cX9_isPossible 124 = .ok (.goto (-118), 3) := by decide +kernel
theorem dX9_isPossible_127 : decode cX9_isPossible 127 = .ok (.iload 4, 2) := by decide +kernel
theorem dX9_isPossible_129 : decode cX9_isPossible 129 = .ok (.ireturn, 1) := by decide +kernel
theorem dX9_doBook_0 : decode cX9_doBook 0 = .ok (.aload_n 0, 1) := by decide +kernel
theorem dX9_doBook_1 : decode cX9_doBook 1 = .ok (.iload_n 1, 1) := by decide +kernel
theorem dX9_doBook_2 : decode cX9_doBook 2 = .ok (.invokevirtual 44, 3) := by decide +kernel
theorem dX9_doBook_5 : decode cX9_doBook 5 = .ok (.ifCond .eq 43, 3) := by decide +kernel
theorem dX9_doBook_8 : decode cX9_doBook 8 = .ok (.iload_n 2, 1) := by decide +kernel
theorem dX9_doBook_9 : decode cX9_doBook 9 = .ok (.iconst 0, 1) := by decide +kernel
theorem dX9_doBook_10 : decode cX9_doBook 10 = .ok (.sipush 720, 3) := by decide +kernel
theorem dX9_doBook_13 : decode cX9_doBook 13 = .ok (.invokestatic 29, 3) := by decide +kernel
theorem dX9_doBook_16 : decode cX9_doBook 16 = .ok (.ifCond .eq 32, 3) := by decide +kernel
theorem dX9_doBook_19 : decode cX9_doBook 19 = .ok (.iload_n 3, 1) := by decide +kernel
theorem dX9_doBook_20 : decode cX9_doBook 20 = .ok (.iconst 2, 1) := by decide +kernel
theorem dX9_doBook_21 : decode cX9_doBook 21 = .ok (.aload_n 0, 1) := by decide +kernel
theorem dX9_doBook_22 : decode cX9_doBook 22 = .ok (.iload_n 1, 1) := by decide +kernel
theorem dX9_doBook_23 : decode cX9_doBook 23 = .ok (.iconst 3, 1) := by decide +kernel
theorem dX9_doBook_24 : decode cX9_doBook 24 = .ok (.invokevirtual 48, 3) := by decide +kernel
theorem dX9_doBook_27 : decode cX9_doBook 27 = .ok (.invokestatic 29, 3) := by decide +kernel
theorem dX9_doBook_30 : decode cX9_doBook 30 = .ok (.ifCond .eq 18, 3) := by decide +kernel
theorem dX9_doBook_33 : decode cX9_doBook 33 = .ok (.iload 4, 2) := by decide +kernel
theorem dX9_doBook_35 : decode cX9_doBook 35 = .ok (.iconst (-1), 1) := by decide +kernel
theorem dX9_doBook_36 : decode cX9_doBook 36 = .ok (.if_icmp .eq 14, 3) := by decide +kernel
theorem dX9_doBook_39 : decode cX9_doBook 39 = .ok (.aload_n 0, 1) := by decide +kernel
theorem dX9_doBook_40 : decode cX9_doBook 40 = .ok (.iload 4, 2) := by decide +kernel
theorem dX9_doBook_42 : decode cX9_doBook 42 = .ok (.invokevirtual 61, 3) := by decide +kernel
theorem dX9_doBook_45 : decode cX9_doBook 45 = .ok (.ifCond .ne 5, 3) := by decide +kernel
theorem dX9_doBook_48 : decode cX9_doBook 48 = .ok (.iconst (-1), 1) := by decide +kernel
theorem dX9_doBook_49 : decode cX9_doBook 49 = .ok (.ireturn, 1) := by decide +kernel
theorem dX9_doBook_50 : decode cX9_doBook 50 = .ok (.aload_n 0, 1) := by decide +kernel
theorem dX9_doBook_51 : decode cX9_doBook 51 = .ok (.iload_n 1, 1) := by decide +kernel
theorem dX9_doBook_52 : decode cX9_doBook 52 = .ok (.iload_n 2, 1) := by decide +kernel
theorem dX9_doBook_53 : decode cX9_doBook 53 = .ok (.bipush (-9), 2) := by decide +kernel
theorem dX9_doBook_55 : decode cX9_doBook 55 = .ok (.invokevirtual 64, 3) := by decide +kernel
theorem dX9_doBook_58 : decode cX9_doBook 58 = .ok (.ifCond .ne 6, 3) := by decide +kernel
theorem dX9_doBook_61 : decode cX9_doBook 61 = .ok (.bipush (-2), 2) := by decide +kernel
theorem dX9_doBook_63 : decode cX9_doBook 63 = .ok (.ireturn, 1) := by decide +kernel
theorem dX9_doBook_64 : decode cX9_doBook 64 = .ok (.aload_n 0, 1) := by decide +kernel
theorem dX9_doBook_65 : decode cX9_doBook 65 = .ok (.getfield 7, 3) := by decide +kernel
theorem dX9_doBook_68 : decode cX9_doBook 68 = .ok (.iconst 1, 1) := by decide +kernel
theorem dX9_doBook_69 : decode cX9_doBook 69 = .ok (.iaload, 1) := by decide +kernel
theorem dX9_doBook_70 : decode cX9_doBook 70 = .ok (.bipush 16, 2) := by decide +kernel
theorem dX9_doBook_72 : decode cX9_doBook 72 = .ok (.if_icmp .ne 6, 3) := by decide +kernel
theorem dX9_doBook_75 : decode cX9_doBook 75 = .ok (.bipush (-3), 2) := by decide +kernel
theorem dX9_doBook_77 : decode cX9_doBook 77 = .ok (.ireturn, 1) := by decide +kernel
theorem dX9_doBook_78 : decode cX9_doBook 78 = .ok (.aload_n 0, 1) := by decide +kernel
theorem dX9_doBook_79 : decode cX9_doBook 79 = .ok (.getfield 7, 3) := by decide +kernel
theorem dX9_doBook_82 : decode cX9_doBook 82 = .ok (.iconst 1, 1) := by decide +kernel
theorem dX9_doBook_83 : decode cX9_doBook 83 = .ok (.iaload, 1) := by decide +kernel
theorem dX9_doBook_84 : decode cX9_doBook 84 = .ok (.istore 5, 2) := by decide +kernel
theorem dX9_doBook_86 : decode cX9_doBook 86 = .ok (.aload_n 0, 1) := by decide +kernel
theorem dX9_doBook_87 : decode cX9_doBook 87 = .ok (.iload_n 1, 1) := by decide +kernel
theorem dX9_doBook_88 : decode cX9_doBook 88 = .ok (.iconst 2, 1) := by decide +kernel
theorem dX9_doBook_89 : decode cX9_doBook 89 = .ok (.invokevirtual 48, 3) := by decide +kernel
theorem dX9_doBook_92 : decode cX9_doBook 92 = .ok (.iload_n 3, 1) := by decide +kernel
theorem dX9_doBook_93 : decode cX9_doBook 93 = .ok (.imul, 1) := by decide +kernel
theorem dX9_doBook_94 : decode cX9_doBook 94 = .ok (.istore 6, 2) := by decide +kernel
theorem dX9_doBook_96 : decode cX9_doBook 96 = .ok (.iload 4, 2) := by decide +kernel
theorem dX9_doBook_98 : decode cX9_doBook 98 = .ok (.ifCond .ge 7, 3) := by decide +kernel
theorem dX9_doBook_101 : decode cX9_doBook 101 = .ok (.iconst 0, 1) := by decide +kernel
theorem dX9_doBook_102 : decode cX9_doBook 102 = .ok (.goto 23, 3) := by decide +kernel
theorem dX9_doBook_105 : decode cX9_doBook 105 = .ok (.iload 6, 2) := by decide +kernel
theorem dX9_doBook_107 : decode cX9_doBook 107 = .ok (.aload_n 0, 1) := by decide +kernel
theorem dX9_doBook_108 : decode cX9_doBook 108 = .ok (.getfield 7, 3) := by decide +kernel
theorem dX9_doBook_111 : decode cX9_doBook 111 = .ok (.sipush 501, 3) := by decide +kernel
theorem dX9_doBook_114 : decode cX9_doBook 114 = .ok (.iconst 2, 1) := by decide +kernel
theorem dX9_doBook_115 : decode cX9_doBook 115 = .ok (.iload 4, 2) := by decide +kernel
theorem dX9_doBook_117 : decode cX9_doBook 117 = .ok (.imul, 1) := by decide +kernel
theorem dX9_doBook_118 : decode cX9_doBook 118 = .ok (.iadd, 1) := by decide +kernel
theorem dX9_doBook_119 : decode cX9_doBook 119 = .ok (.iconst 1, 1) := by decide +kernel
theorem dX9_doBook_120 : decode cX9_doBook 120 = .ok (.iadd, 1) := by decide +kernel
theorem dX9_doBook_121 : decode cX9_doBook 121 = .ok (.iaload, 1) := by decide +kernel
theorem dX9_doBook_122 : decode cX9_doBook 122 = .ok (.invokestatic 67, 3) := by decide +kernel
theorem dX9_doBook_125 : decode cX9_doBook 125 = .ok (.istore 7, 2) := by decide +kernel
theorem dX9_doBook_127 : decode cX9_doBook 127 = .ok (.aload_n 0, 1) := by decide +kernel
theorem dX9_doBook_128 : decode cX9_doBook 128 = .ok (.iload 5, 2) := by decide +kernel
theorem dX9_doBook_130 : decode cX9_doBook 130 = .ok (.iconst 0, 1) := by decide +kernel
theorem dX9_doBook_131 : decode cX9_doBook 131 = .ok (.iload_n 1, 1) := by decide +kernel
theorem dX9_doBook_132 : decode cX9_doBook 132 = .ok (.invokevirtual 70, 3) := by decide +kernel
theorem dX9_doBook_135 : decode cX9_doBook 135 = .ok (.aload_n 0, 1) := by decide +kernel
theorem dX9_doBook_136 : decode cX9_doBook 136 = .ok (.iload 5, 2) := by decide +kernel
theorem dX9_doBook_138 : decode cX9_doBook 138 = .ok (.iconst 1, 1) := by decide +kernel
theorem dX9_doBook_139 : decode cX9_doBook 139 = .ok (.iload_n 2, 1) := by decide +kernel
theorem dX9_doBook_140 : decode cX9_doBook 140 = .ok (.invokevirtual 70, 3) := by decide +kernel
theorem dX9_doBook_143 : decode cX9_doBook 143 = .ok (.aload_n 0, 1) := by decide +kernel
theorem dX9_doBook_144 : decode cX9_doBook 144 = .ok (.iload 5, 2) := by decide +kernel
theorem dX9_doBook_146 : decode cX9_doBook 146 = .ok (.iconst 2, 1) := by decide +kernel
theorem dX9_doBook_147 : decode cX9_doBook 147 = .ok (.iload_n 3, 1) := by decide +kernel
theorem dX9_doBook_148 : decode cX9_doBook 148 = .ok (.invokevirtual 70, 3) := by decide +kernel
theorem dX9_doBook_151 : decode cX9_doBook 151 = .ok (.aload_n 0, 1) := by decide +kernel
theorem dX9_doBook_152 : decode cX9_doBook 152 = .ok (.iload 5, 2) := by decide +kernel
theorem dX9_doBook_154 : decode cX9_doBook 154 = .ok (.iconst 3, 1) := by decide +kernel
theorem dX9_doBook_155 : decode cX9_doBook 155 = .ok (.iconst 0, 1) := by decide +kernel
theorem dX9_doBook_156 : decode cX9_doBook 156 = .ok (.invokevirtual 70, 3) := by decide +kernel
theorem dX9_doBook_159 : decode cX9_doBook 159 = .ok (.aload_n 0, 1) := by decide +kernel
theorem dX9_doBook_160 : decode cX9_doBook 160 = .ok (.iload 5, 2) := by decide +kernel
theorem dX9_doBook_162 : decode cX9_doBook 162 = .ok (.iconst 4, 1) := by decide +kernel
theorem dX9_doBook_163 : decode cX9_doBook 163 = .ok (.iload 6, 2) := by decide +kernel
theorem dX9_doBook_165 : decode cX9_doBook 165 = .ok (.invokevirtual 70, 3) := by decide +kernel
theorem dX9_doBook_168 : decode cX9_doBook 168 = .ok (.aload_n 0, 1) := by decide +kernel
theorem dX9_doBook_169 : decode cX9_doBook 169 = .ok (.iload 5, 2) := by decide +kernel
theorem dX9_doBook_171 : decode cX9_doBook 171 = .ok (.iconst 5, 1) := by decide +kernel
theorem dX9_doBook_172 : decode cX9_doBook 172 = .ok (.iload 6, 2) := by decide +kernel
theorem dX9_doBook_174 : decode cX9_doBook 174 = .ok (.iload 7, 2) := by decide +kernel
theorem dX9_doBook_176 : decode cX9_doBook 176 = .ok (.isub, 1) := by decide +kernel
theorem dX9_doBook_177 : decode cX9_doBook 177 = .ok (.invokevirtual 70, 3) := by decide +kernel
theorem dX9_doBook_180 : decode cX9_doBook 180 = .ok (.aload_n 0, 1) := by decide +kernel
theorem dX9_doBook_181 : decode cX9_doBook 181 = .ok (.iload 5, 2) := by decide +kernel
theorem dX9_doBook_183 : decode cX9_doBook 183 = .ok (.bipush 6, 2) := by decide +kernel
theorem dX9_doBook_185 : decode cX9_doBook 185 = .ok (.iconst 0, 1) := by decide +kernel
theorem dX9_doBook_186 : decode cX9_doBook 186 = .ok (.invokevirtual 70, 3) := by decide +kernel
theorem dX9_doBook_189 : decode cX9_doBook 189 = .ok (.aload_n 0, 1) := by decide +kernel
theorem dX9_doBook_190 : decode cX9_doBook 190 = .ok (.iload 5, 2) := by decide +kernel
theorem dX9_doBook_192 : decode cX9_doBook 192 = .ok (.bipush 7, 2) := by decide +kernel
theorem dX9_doBook_194 : decode cX9_doBook 194 = .ok (.bipush (-9), 2) := by decide +kernel
theorem dX9_doBook_196 : decode cX9_doBook 196 = .ok (.invokevirtual 70, 3) := by decide +kernel
theorem dX9_doBook_199 : decode cX9_doBook 199 = .ok (.aload_n 0, 1) := by decide +kernel
theorem dX9_doBook_200 : decode cX9_doBook 200 = .ok (.iload 5, 2) := by decide +kernel
theorem dX9_doBook_202 : decode cX9_doBook 202 = .ok (.bipush 8, 2) := by decide +kernel
theorem dX9_doBook_204 : decode cX9_doBook 204 = .ok (.bipush (-9), 2) := by decide +kernel
theorem dX9_doBook_206 : decode cX9_doBook 206 = .ok (.invokevirtual 70, 3) := by decide +kernel
theorem dX9_doBook_209 : decode cX9_doBook 209 = .ok (.aload_n 0, 1) := by decide +kernel
theorem dX9_doBook_210 : decode cX9_doBook 210 = .ok (.getfield 7, 3) := by decide +kernel
theorem dX9_doBook_213 : decode cX9_doBook 213 = .ok (.sipush 197, 3) := by decide +kernel
theorem dX9_doBook_216 : decode cX9_doBook 216 = .ok (.iload 5, 2) := by decide +kernel
theorem dX9_doBook_218 : decode cX9_doBook 218 = .ok (.iadd, 1) := by decide +kernel
theorem dX9_doBook_219 : decode cX9_doBook 219 = .ok (.iconst 0, 1) := by decide +kernel
theorem dX9_doBook_220 : decode cX9_doBook 220 = .ok (.iastore, 1) := by decide +kernel
theorem dX9_doBook_221 : decode cX9_doBook 221 = .ok (.aload_n 0, 1) := by decide +kernel
theorem dX9_doBook_222 : decode cX9_doBook 222 = .ok (.getfield 7, 3) := by decide +kernel
theorem dX9_doBook_225 : decode cX9_doBook 225 = .ok (.iconst 3, 1) := by decide +kernel
theorem dX9_doBook_226 : decode cX9_doBook 226 = .ok (.dup2, 1) := by decide +kernel
theorem dX9_doBook_227 : decode cX9_doBook 227 = .ok (.iaload, 1) := by decide +kernel
theorem dX9_doBook_228 : decode cX9_doBook 228 = .ok (.iload 6, 2) := by decide +kernel
theorem dX9_doBook_230 : decode cX9_doBook 230 = .ok (.iload 7, 2) := by decide +kernel
theorem dX9_doBook_232 : decode cX9_doBook 232 = .ok (.isub, 1) := by decide +kernel
theorem dX9_doBook_233 : decode cX9_doBook 233 = .ok (.iadd, 1) := by decide +kernel
theorem dX9_doBook_234 : decode cX9_doBook 234 = .ok (.iastore, 1) := by decide +kernel
theorem dX9_doBook_235 : decode cX9_doBook 235 = .ok (.iload 7, 2) := by decide +kernel
theorem dX9_doBook_237 : decode cX9_doBook 237 = .ok (.ifCond .le 77, 3) := by decide +kernel
theorem dX9_doBook_240 : decode cX9_doBook 240 = .ok (.aload_n 0, 1) := by decide +kernel
theorem dX9_doBook_241 : decode cX9_doBook 241 = .ok (.getfield 7, 3) := by decide +kernel
theorem dX9_doBook_244 : decode cX9_doBook 244 = .ok (.sipush 501, 3) := by decide +kernel
theorem dX9_doBook_247 : decode cX9_doBook 247 = .ok (.iconst 2, 1) := by decide +kernel
theorem dX9_doBook_248 : decode cX9_doBook 248 = .ok (.iload 4, 2) := by decide +kernel
theorem dX9_doBook_250 : decode cX9_doBook 250 = .ok (.imul, 1) := by decide +kernel
theorem dX9_doBook_251 : decode cX9_doBook 251 = .ok (.iadd, 1) := by decide +kernel
theorem dX9_doBook_252 : decode cX9_doBook 252 = .ok (.iconst 1, 1) := by decide +kernel
theorem dX9_doBook_253 : decode cX9_doBook 253 = .ok (.iadd, 1) := by decide +kernel
theorem dX9_doBook_254 : decode cX9_doBook 254 = .ok (.dup2, 1) := by decide +kernel
theorem dX9_doBook_255 : decode cX9_doBook 255 = .ok (.iaload, 1) := by decide +kernel
theorem dX9_doBook_256 : decode cX9_doBook 256 = .ok (.iload 7, 2) := by decide +kernel
theorem dX9_doBook_258 : decode cX9_doBook 258 = .ok (.isub, 1) := by decide +kernel
theorem dX9_doBook_259 : decode cX9_doBook 259 = .ok (.iastore, 1) := by decide +kernel
theorem dX9_doBook_260 : decode cX9_doBook 260 = .ok (.aload_n 0, 1) := by decide +kernel
theorem dX9_doBook_261 : decode cX9_doBook 261 = .ok (.getfield 7, 3) := by decide +kernel
theorem dX9_doBook_264 : decode cX9_doBook 264 = .ok (.sipush 469, 3) := by decide +kernel
theorem dX9_doBook_267 : decode cX9_doBook 267 = .ok (.iload 5, 2) := by decide +kernel
theorem dX9_doBook_269 : decode cX9_doBook 269 = .ok (.iadd, 1) := by decide +kernel
theorem dX9_doBook_270 : decode cX9_doBook 270 = .ok (.iload 4, 2) := by decide +kernel
theorem dX9_doBook_272 : decode cX9_doBook 272 = .ok (.iastore, 1) := by decide +kernel
theorem dX9_doBook_273 : decode cX9_doBook 273 = .ok (.aload_n 0, 1) := by decide +kernel
theorem dX9_doBook_274 : decode cX9_doBook 274 = .ok (.getfield 7, 3) := by decide +kernel
theorem dX9_doBook_277 : decode cX9_doBook 277 = .ok (.sipush 485, 3) := by decide +kernel
theorem dX9_doBook_280 : decode cX9_doBook 280 = .ok (.iload 5, 2) := by decide +kernel
theorem dX9_doBook_282 : decode cX9_doBook 282 = .ok (.iadd, 1) := by decide +kernel
theorem dX9_doBook_283 : decode cX9_doBook 283 = .ok (.iload 7, 2) := by decide +kernel
theorem dX9_doBook_285 : decode cX9_doBook 285 = .ok (.iastore, 1) := by decide +kernel
theorem dX9_doBook_286 : decode cX9_doBook 286 = .ok (.aload_n 0, 1) := by decide +kernel
theorem dX9_doBook_287 : decode cX9_doBook 287 = .ok (.getfield 7, 3) := by decide +kernel
theorem dX9_doBook_290 : decode cX9_doBook 290 = .ok (.sipush 213, 3) := by decide +kernel
theorem dX9_doBook_293 : decode cX9_doBook 293 = .ok (.bipush 16, 2) := by decide +kernel
theorem dX9_doBook_295 : decode cX9_doBook 295 = .ok (.iload 5, 2) := by decide +kernel
theorem dX9_doBook_297 : decode cX9_doBook 297 = .ok (.imul, 1) := by decide +kernel
theorem dX9_doBook_298 : decode cX9_doBook 298 = .ok (.iadd, 1) := by decide +kernel
theorem dX9_doBook_299 : decode cX9_doBook 299 = .ok (.iload 5, 2) := by decide +kernel
theorem dX9_doBook_301 : decode cX9_doBook 301 = .ok (.iastore, 1) := by decide +kernel
theorem dX9_doBook_302 : decode cX9_doBook 302 = .ok (.aload_n 0, 1) := by decide +kernel
theorem dX9_doBook_303 : decode cX9_doBook 303 = .ok (.getfield 7, 3) := by decide +kernel
theorem dX9_doBook_306 : decode cX9_doBook 306 = .ok (.sipush 197, 3) := by decide +kernel
theorem dX9_doBook_309 : decode cX9_doBook 309 = .ok (.iload 5, 2) := by decide +kernel
theorem dX9_doBook_311 : decode cX9_doBook 311 = .ok (.iadd, 1) := by decide +kernel
theorem dX9_doBook_312 : decode cX9_doBook 312 = .ok (.iconst 1, 1) := by decide +kernel
theorem dX9_doBook_313 : decode cX9_doBook 313 = .ok (.iastore, 1) := by decide +kernel
theorem dX9_doBook_314 : decode cX9_doBook 314 = .ok (.aload_n 0, 1) := by decide +kernel
theorem dX9_doBook_315 : decode cX9_doBook 315 = .ok (.getfield 7, 3) := by decide +kernel
theorem dX9_doBook_318 : decode cX9_doBook 318 = .ok (.iconst 1, 1) := by decide +kernel
theorem dX9_doBook_319 : decode cX9_doBook 319 = .ok (.dup2, 1) := by decide +kernel
theorem dX9_doBook_320 : decode cX9_doBook 320 = .ok (.iaload, 1) := by decide +kernel
theorem dX9_doBook_321 : decode cX9_doBook 321 = .ok (.iconst 1, 1) := by decide +kernel
theorem dX9_doBook_322 : decode cX9_doBook 322 = .ok (.iadd, 1) := by decide +kernel
theorem dX9_doBook_323 : decode cX9_doBook 323 = .ok (.iastore, 1) := by decide +kernel
theorem dX9_doBook_324 : decode cX9_doBook 324 = .ok (.iload 5, 2) := by decide +kernel
theorem dX9_doBook_326 : decode cX9_doBook 326 = .ok (.ireturn, 1) := by decide +kernel
theorem dX9_book_0 : decode cX9_book 0 = .ok (.aload_n 0, 1) := by decide +kernel
theorem dX9_book_1 : decode cX9_book 1 = .ok (.invokevirtual 33, 3) := by decide +kernel
theorem dX9_book_4 : decode cX9_book 4 = .ok (.aload_n 0, 1) := by decide +kernel
theorem dX9_book_5 : decode cX9_book 5 = .ok (.aload_n 0, 1) := by decide +kernel
theorem dX9_book_6 : decode cX9_book 6 = .ok (.iload_n 1, 1) := by decide +kernel
theorem dX9_book_7 : decode cX9_book 7 = .ok (.iload_n 2, 1) := by decide +kernel
theorem dX9_book_8 : decode cX9_book 8 = .ok (.iload_n 3, 1) := by decide +kernel
theorem dX9_book_9 : decode cX9_book 9 = .ok (.iload 4, 2) := by decide +kernel
theorem dX9_book_11 : decode cX9_book 11 = .ok (.invokevirtual 74, 3) := by decide +kernel
theorem dX9_book_14 : decode cX9_book 14 = .ok (.invokevirtual 40, 3) := by decide +kernel
theorem dX9_book_17 : decode cX9_book 17 = .ok (.ireturn, 1) := by decide +kernel
theorem dX9_move_0 : decode cX9_move 0 = .ok (.aload_n 0, 1) := by decide +kernel
theorem dX9_move_1 : decode cX9_move 1 = .ok (.iload_n 1, 1) := by decide +kernel
theorem dX9_move_2 : decode cX9_move 2 = .ok (.invokevirtual 77, 3) := by decide +kernel
theorem dX9_move_5 : decode cX9_move 5 = .ok (.ifCond .eq 14, 3) := by decide +kernel
theorem dX9_move_8 : decode cX9_move 8 = .ok (.iload_n 2, 1) := by decide +kernel
theorem dX9_move_9 : decode cX9_move 9 = .ok (.iconst 0, 1) := by decide +kernel
theorem dX9_move_10 : decode cX9_move 10 = .ok (.sipush 720, 3) := by decide +kernel
theorem dX9_move_13 : decode cX9_move 13 = .ok (.invokestatic 29, 3) := by decide +kernel
theorem dX9_move_16 : decode cX9_move 16 = .ok (.ifCond .ne 5, 3) := by decide +kernel
theorem dX9_move_19 : decode cX9_move 19 = .ok (.iconst (-1), 1) := by decide +kernel
theorem dX9_move_20 : decode cX9_move 20 = .ok (.ireturn, 1) := by decide +kernel
theorem dX9_move_21 : decode cX9_move 21 = .ok (.aload_n 0, 1) := by decide +kernel
theorem dX9_move_22 : decode cX9_move 22 = .ok (.iload_n 1, 1) := by decide +kernel
theorem dX9_move_23 : decode cX9_move 23 = .ok (.iconst 3, 1) := by decide +kernel
theorem dX9_move_24 : decode cX9_move 24 = .ok (.invokevirtual 58, 3) := by decide +kernel
theorem dX9_move_27 : decode cX9_move 27 = .ok (.ifCond .ne 18, 3) := by decide +kernel
theorem dX9_move_30 : decode cX9_move 30 = .ok (.aload_n 0, 1) := by decide +kernel
theorem dX9_move_31 : decode cX9_move 31 = .ok (.aload_n 0, 1) := by decide +kernel
theorem dX9_move_32 : decode cX9_move 32 = .ok (.iload_n 1, 1) := by decide +kernel
theorem dX9_move_33 : decode cX9_move 33 = .ok (.iconst 0, 1) := by decide +kernel
theorem dX9_move_34 : decode cX9_move 34 = .ok (.invokevirtual 58, 3) := by decide +kernel
theorem dX9_move_37 : decode cX9_move 37 = .ok (.iload_n 2, 1) := by decide +kernel
theorem dX9_move_38 : decode cX9_move 38 = .ok (.iload_n 1, 1) := by decide +kernel
theorem dX9_move_39 : decode cX9_move 39 = .ok (.invokevirtual 64, 3) := by decide +kernel
theorem dX9_move_42 : decode cX9_move 42 = .ok (.ifCond .ne 6, 3) := by decide +kernel
theorem dX9_move_45 : decode cX9_move 45 = .ok (.bipush (-2), 2) := by decide +kernel
theorem dX9_move_47 : decode cX9_move 47 = .ok (.ireturn, 1) := by decide +kernel
theorem dX9_move_48 : decode cX9_move 48 = .ok (.aload_n 0, 1) := by decide +kernel
theorem dX9_move_49 : decode cX9_move 49 = .ok (.invokevirtual 33, 3) := by decide +kernel
theorem dX9_move_52 : decode cX9_move 52 = .ok (.aload_n 0, 1) := by decide +kernel
theorem dX9_move_53 : decode cX9_move 53 = .ok (.iload_n 1, 1) := by decide +kernel
theorem dX9_move_54 : decode cX9_move 54 = .ok (.iconst 1, 1) := by decide +kernel
theorem dX9_move_55 : decode cX9_move 55 = .ok (.invokevirtual 58, 3) := by decide +kernel
theorem dX9_move_58 : decode cX9_move 58 = .ok (.istore_n 3, 1) := by decide +kernel
theorem dX9_move_59 : decode cX9_move 59 = .ok (.aload_n 0, 1) := by decide +kernel
theorem dX9_move_60 : decode cX9_move 60 = .ok (.iload_n 1, 1) := by decide +kernel
theorem dX9_move_61 : decode cX9_move 61 = .ok (.iconst 1, 1) := by decide +kernel
theorem dX9_move_62 : decode cX9_move 62 = .ok (.iload_n 2, 1) := by decide +kernel
theorem dX9_move_63 : decode cX9_move 63 = .ok (.invokevirtual 70, 3) := by decide +kernel
theorem dX9_move_66 : decode cX9_move 66 = .ok (.aload_n 0, 1) := by decide +kernel
theorem dX9_move_67 : decode cX9_move 67 = .ok (.iload_n 3, 1) := by decide +kernel
theorem dX9_move_68 : decode cX9_move 68 = .ok (.invokevirtual 40, 3) := by decide +kernel
theorem dX9_move_71 : decode cX9_move 71 = .ok (.ireturn, 1) := by decide +kernel
theorem dX9_byVouchers_0 : decode cX9_byVouchers 0 = .ok (.iconst 0, 1) := by decide +kernel
theorem dX9_byVouchers_1 : decode cX9_byVouchers 1 = .ok (.istore_n 2, 1) := by decide +kernel
theorem dX9_byVouchers_2 : decode cX9_byVouchers 2 = .ok (.iconst 0, 1) := by decide +kernel
theorem dX9_byVouchers_3 : decode cX9_byVouchers 3 = .ok (.istore_n 3, 1) := by decide +kernel
theorem dX9_byVouchers_4 : decode cX9_byVouchers 4 = .ok (.iload_n 3, 1) := by decide +kernel
theorem dX9_byVouchers_5 : decode cX9_byVouchers 5 = .ok (.aload_n 0, 1) := by decide +kernel
theorem dX9_byVouchers_6 : decode cX9_byVouchers 6 = .ok (.getfield 7, 3) := by decide +kernel
theorem dX9_byVouchers_9 : decode cX9_byVouchers 9 = .ok (.sipush 197, 3) := by decide +kernel
theorem dX9_byVouchers_12 : decode cX9_byVouchers 12 = .ok (.iload_n 1, 1) := by decide +kernel
theorem dX9_byVouchers_13 : decode cX9_byVouchers 13 = .ok (.iadd, 1) := by decide +kernel
theorem dX9_byVouchers_14 : decode cX9_byVouchers 14 = .ok (.iaload, 1) := by decide +kernel
theorem dX9_byVouchers_15 : decode cX9_byVouchers 15 = .ok (.if_icmp .ge 36, 3) := by decide +kernel
theorem dX9_byVouchers_18 : decode cX9_byVouchers 18 = .ok (.iload_n 2, 1) := by decide +kernel
theorem dX9_byVouchers_19 : decode cX9_byVouchers 19 = .ok (.aload_n 0, 1) := by decide +kernel
theorem dX9_byVouchers_20 : decode cX9_byVouchers 20 = .ok (.getfield 7, 3) := by decide +kernel
theorem dX9_byVouchers_23 : decode cX9_byVouchers 23 = .ok (.sipush 485, 3) := by decide +kernel
theorem dX9_byVouchers_26 : decode cX9_byVouchers 26 = .ok (.aload_n 0, 1) := by decide +kernel
theorem dX9_byVouchers_27 : decode cX9_byVouchers 27 = .ok (.getfield 7, 3) := by decide +kernel
theorem dX9_byVouchers_30 : decode cX9_byVouchers 30 = .ok (.sipush 213, 3) := by decide +kernel
theorem dX9_byVouchers_33 : decode cX9_byVouchers 33 = .ok (.bipush 16, 2) := by decide +kernel
theorem dX9_byVouchers_35 : decode cX9_byVouchers 35 = .ok (.iload_n 1, 1) := by decide +kernel
theorem dX9_byVouchers_36 : decode cX9_byVouchers 36 = .ok (.imul, 1) := by decide +kernel
theorem dX9_byVouchers_37 : decode cX9_byVouchers 37 = .ok (.iadd, 1) := by decide +kernel
theorem dX9_byVouchers_38 : decode cX9_byVouchers 38 = .ok (.iload_n 3, 1) := by decide +kernel
theorem dX9_byVouchers_39 : decode cX9_byVouchers 39 = .ok (.iadd, 1) := by decide +kernel
theorem dX9_byVouchers_40 : decode cX9_byVouchers 40 = .ok (.iaload, 1) := by decide +kernel
theorem dX9_byVouchers_41 : decode cX9_byVouchers 41 = .ok (.iadd, 1) := by decide +kernel
theorem dX9_byVouchers_42 : decode cX9_byVouchers 42 = .ok (.iaload, 1) := by decide +kernel
theorem dX9_byVouchers_43 : decode cX9_byVouchers 43 = .ok (.iadd, 1) := by decide +kernel
theorem dX9_byVouchers_44 : decode cX9_byVouchers 44 = .ok (.istore_n 2, 1) := by decide +kernel
theorem dX9_byVouchers_45 : decode cX9_byVouchers 45 = .ok (.iinc 3 1, 3) := by decide +kernel
theorem dX9_byVouchers_48 : decode cX9_byVouchers 48 = .ok (.goto (-44), 3) := by decide +kernel
theorem dX9_byVouchers_51 : decode cX9_byVouchers 51 = .ok (.iload_n 2, 1) := by decide +kernel
theorem dX9_byVouchers_52 : decode cX9_byVouchers 52 = .ok (.ireturn, 1) := by decide +kernel
theorem dX9_refunds_0 : decode cX9_refunds 0 = .ok (.iload_n 2, 1) := by decide +kernel
theorem dX9_refunds_1 : decode cX9_refunds 1 = .ok (.aload_n 0, 1) := by decide +kernel
theorem dX9_refunds_2 : decode cX9_refunds 2 = .ok (.iload_n 1, 1) := by decide +kernel
theorem dX9_refunds_3 : decode cX9_refunds 3 = .ok (.iconst 5, 1) := by decide +kernel
theorem dX9_refunds_4 : decode cX9_refunds 4 = .ok (.invokevirtual 58, 3) := by decide +kernel
theorem dX9_refunds_7 : decode cX9_refunds 7 = .ok (.invokestatic 67, 3) := by decide +kernel
theorem dX9_refunds_10 : decode cX9_refunds 10 = .ok (.istore_n 3, 1) := by decide +kernel
theorem dX9_refunds_11 : decode cX9_refunds 11 = .ok (.iload_n 2, 1) := by decide +kernel
theorem dX9_refunds_12 : decode cX9_refunds 12 = .ok (.iload_n 3, 1) := by decide +kernel
theorem dX9_refunds_13 : decode cX9_refunds 13 = .ok (.isub, 1) := by decide +kernel
theorem dX9_refunds_14 : decode cX9_refunds 14 = .ok (.istore 4, 2) := by decide +kernel
theorem dX9_refunds_16 : decode cX9_refunds 16 = .ok (.aload_n 0, 1) := by decide +kernel
theorem dX9_refunds_17 : decode cX9_refunds 17 = .ok (.iload_n 1, 1) := by decide +kernel
theorem dX9_refunds_18 : decode cX9_refunds 18 = .ok (.iconst 5, 1) := by decide +kernel
theorem dX9_refunds_19 : decode cX9_refunds 19 = .ok (.iload_n 3, 1) := by decide +kernel
theorem dX9_refunds_20 : decode cX9_refunds 20 = .ok (.ineg, 1) := by decide +kernel
theorem dX9_refunds_21 : decode cX9_refunds 21 = .ok (.invokevirtual 80, 3) := by decide +kernel
theorem dX9_refunds_24 : decode cX9_refunds 24 = .ok (.aload_n 0, 1) := by decide +kernel
theorem dX9_refunds_25 : decode cX9_refunds 25 = .ok (.iload_n 1, 1) := by decide +kernel
theorem dX9_refunds_26 : decode cX9_refunds 26 = .ok (.bipush 6, 2) := by decide +kernel
theorem dX9_refunds_28 : decode cX9_refunds 28 = .ok (.iload_n 2, 1) := by decide +kernel
theorem dX9_refunds_29 : decode cX9_refunds 29 = .ok (.invokevirtual 80, 3) := by decide +kernel
theorem dX9_refunds_32 : decode cX9_refunds 32 = .ok (.aload_n 0, 1) := by decide +kernel
theorem dX9_refunds_33 : decode cX9_refunds 33 = .ok (.getfield 7, 3) := by decide +kernel
theorem dX9_refunds_36 : decode cX9_refunds 36 = .ok (.iconst 3, 1) := by decide +kernel
theorem dX9_refunds_37 : decode cX9_refunds 37 = .ok (.dup2, 1) := by decide +kernel
theorem dX9_refunds_38 : decode cX9_refunds 38 = .ok (.iaload, 1) := by decide +kernel
theorem dX9_refunds_39 : decode cX9_refunds 39 = .ok (.iload_n 3, 1) := by decide +kernel
theorem dX9_refunds_40 : decode cX9_refunds 40 = .ok (.isub, 1) := by decide +kernel
theorem dX9_refunds_41 : decode cX9_refunds 41 = .ok (.iastore, 1) := by decide +kernel
theorem dX9_refunds_42 : decode cX9_refunds 42 = .ok (.aload_n 0, 1) := by decide +kernel
theorem dX9_refunds_43 : decode cX9_refunds 43 = .ok (.getfield 7, 3) := by decide +kernel
theorem dX9_refunds_46 : decode cX9_refunds 46 = .ok (.sipush 197, 3) := by decide +kernel
theorem dX9_refunds_49 : decode cX9_refunds 49 = .ok (.iload_n 1, 1) := by decide +kernel
theorem dX9_refunds_50 : decode cX9_refunds 50 = .ok (.iadd, 1) := by decide +kernel
theorem dX9_refunds_51 : decode cX9_refunds 51 = .ok (.iaload, 1) := by decide +kernel
theorem dX9_refunds_52 : decode cX9_refunds 52 = .ok (.iconst 1, 1) := by decide +kernel
theorem dX9_refunds_53 : decode cX9_refunds 53 = .ok (.isub, 1) := by decide +kernel
theorem dX9_refunds_54 : decode cX9_refunds 54 = .ok (.istore 5, 2) := by decide +kernel
theorem dX9_refunds_56 : decode cX9_refunds 56 = .ok (.iload 5, 2) := by decide +kernel
theorem dX9_refunds_58 : decode cX9_refunds 58 = .ok (.ifCond .lt 97, 3) := by decide +kernel
theorem dX9_refunds_61 : decode cX9_refunds 61 = .ok (.aload_n 0, 1) := by decide +kernel
theorem dX9_refunds_62 : decode cX9_refunds 62 = .ok (.getfield 7, 3) := by decide +kernel
theorem dX9_refunds_65 : decode cX9_refunds 65 = .ok (.sipush 213, 3) := by decide +kernel
theorem dX9_refunds_68 : decode cX9_refunds 68 = .ok (.bipush 16, 2) := by decide +kernel
theorem dX9_refunds_70 : decode cX9_refunds 70 = .ok (.iload_n 1, 1) := by decide +kernel
theorem dX9_refunds_71 : decode cX9_refunds 71 = .ok (.imul, 1) := by decide +kernel
theorem dX9_refunds_72 : decode cX9_refunds 72 = .ok (.iadd, 1) := by decide +kernel
theorem dX9_refunds_73 : decode cX9_refunds 73 = .ok (.iload 5, 2) := by decide +kernel
theorem dX9_refunds_75 : decode cX9_refunds 75 = .ok (.iadd, 1) := by decide +kernel
theorem dX9_refunds_76 : decode cX9_refunds 76 = .ok (.iaload, 1) := by decide +kernel
theorem dX9_refunds_77 : decode cX9_refunds 77 = .ok (.istore 6, 2) := by decide +kernel
theorem dX9_refunds_79 : decode cX9_refunds 79 = .ok (.iload 4, 2) := by decide +kernel
theorem dX9_refunds_81 : decode cX9_refunds 81 = .ok (.aload_n 0, 1) := by decide +kernel
theorem dX9_refunds_82 : decode cX9_refunds 82 = .ok (.getfield 7, 3) := by decide +kernel
theorem dX9_refunds_85 : decode cX9_refunds 85 = .ok (.sipush 485, 3) := by decide +kernel
theorem dX9_refunds_88 : decode cX9_refunds 88 = .ok (.iload 6, 2) := by decide +kernel
theorem dX9_refunds_90 : decode cX9_refunds 90 = .ok (.iadd, 1) := by decide +kernel
theorem dX9_refunds_91 : decode cX9_refunds 91 = .ok (.iaload, 1) := by decide +kernel
theorem dX9_refunds_92 : decode cX9_refunds 92 = .ok (.invokestatic 67, 3) := by decide +kernel
theorem dX9_refunds_95 : decode cX9_refunds 95 = .ok (.istore 7, 2) := by decide +kernel
theorem dX9_refunds_97 : decode cX9_refunds 97 = .ok (.aload_n 0, 1) := by decide +kernel
theorem dX9_refunds_98 : decode cX9_refunds 98 = .ok (.getfield 7, 3) := by decide +kernel
theorem dX9_refunds_101 : decode cX9_refunds 101 = .ok (.sipush 485, 3) := by decide +kernel
theorem dX9_refunds_104 : decode cX9_refunds 104 = .ok (.iload 6, 2) := by decide +kernel
theorem dX9_refunds_106 : decode cX9_refunds 106 = .ok (.iadd, 1) := by decide +kernel
theorem dX9_refunds_107 : decode cX9_refunds 107 = .ok (.dup2, 1) := by decide +kernel
theorem dX9_refunds_108 : decode cX9_refunds 108 = .ok (.iaload, 1) := by decide +kernel
theorem dX9_refunds_109 : decode cX9_refunds 109 = .ok (.iload 7, 2) := by decide +kernel
theorem dX9_refunds_111 : decode cX9_refunds 111 = .ok (.isub, 1) := by decide +kernel
theorem dX9_refunds_112 : decode cX9_refunds 112 = .ok (.iastore, 1) := by decide +kernel
theorem dX9_refunds_113 : decode cX9_refunds 113 = .ok (.aload_n 0, 1) := by decide +kernel
theorem dX9_refunds_114 : decode cX9_refunds 114 = .ok (.getfield 7, 3) := by decide +kernel
theorem dX9_refunds_117 : decode cX9_refunds 117 = .ok (.sipush 501, 3) := by decide +kernel
theorem dX9_refunds_120 : decode cX9_refunds 120 = .ok (.iconst 2, 1) := by decide +kernel
theorem dX9_refunds_121 : decode cX9_refunds 121 = .ok (.aload_n 0, 1) := by decide +kernel
theorem dX9_refunds_122 : decode cX9_refunds 122 = .ok (.getfield 7, 3) := by decide +kernel
theorem dX9_refunds_125 : decode cX9_refunds 125 = .ok (.sipush 469, 3) := by decide +kernel
theorem dX9_refunds_128 : decode cX9_refunds 128 = .ok (.iload 6, 2) := by decide +kernel
theorem dX9_refunds_130 : decode cX9_refunds 130 = .ok (.iadd, 1) := by decide +kernel
theorem dX9_refunds_131 : decode cX9_refunds 131 = .ok (.iaload, 1) := by decide +kernel
theorem dX9_refunds_132 : decode cX9_refunds 132 = .ok (.imul, 1) := by decide +kernel
theorem dX9_refunds_133 : decode cX9_refunds 133 = .ok (.iadd, 1) := by decide +kernel
theorem dX9_refunds_134 : decode cX9_refunds 134 = .ok (.iconst 1, 1) := by decide +kernel
theorem dX9_refunds_135 : decode cX9_refunds 135 = .ok (.iadd, 1) := by decide +kernel
theorem dX9_refunds_136 : decode cX9_refunds 136 = .ok (.dup2, 1) := by decide +kernel
theorem dX9_refunds_137 : decode cX9_refunds 137 = .ok (.iaload, 1) := by decide +kernel
theorem dX9_refunds_138 : decode cX9_refunds 138 = .ok (.iload 7, 2) := by decide +kernel
theorem dX9_refunds_140 : decode cX9_refunds 140 = .ok (.iadd, 1) := by decide +kernel
theorem dX9_refunds_141 : decode cX9_refunds 141 = .ok (.iastore, 1) := by decide +kernel
theorem dX9_refunds_142 : decode cX9_refunds 142 = .ok (.iload 4, 2) := by decide +kernel
theorem dX9_refunds_144 : decode cX9_refunds 144 = .ok (.iload 7, 2) := by decide +kernel
theorem dX9_refunds_146 : decode cX9_refunds 146 = .ok (.isub, 1) := by decide +kernel
theorem dX9_refunds_147 : decode cX9_refunds 147 = .ok (.istore 4, 2) := by decide +kernel
theorem dX9_refunds_149 : decode cX9_refunds 149 = .ok (.iinc 5 (-1), 3) := by decide +kernel
theorem dX9_refunds_152 : decode cX9_refunds 152 = .ok (.goto (-96), 3) := by decide +kernel
theorem dX9_refunds_155 : decode cX9_refunds 155 = .ok (.return_, 1) := by decide +kernel
theorem dX9_nextOf_0 : decode cX9_nextOf 0 = .ok (.bipush (-9), 2) := by decide +kernel
theorem dX9_nextOf_2 : decode cX9_nextOf 2 = .ok (.istore_n 3, 1) := by decide +kernel
theorem dX9_nextOf_3 : decode cX9_nextOf 3 = .ok (.iconst 0, 1) := by decide +kernel
theorem dX9_nextOf_4 : decode cX9_nextOf 4 = .ok (.istore 4, 2) := by decide +kernel
theorem dX9_nextOf_6 : decode cX9_nextOf 6 = .ok (.iload 4, 2) := by decide +kernel
theorem dX9_nextOf_8 : decode cX9_nextOf 8 = .ok (.aload_n 0, 1) := by decide +kernel
theorem dX9_nextOf_9 : decode cX9_nextOf 9 = .ok (.getfield 7, 3) := by decide +kernel
theorem dX9_nextOf_12 : decode cX9_nextOf 12 = .ok (.iconst 1, 1) := by decide +kernel
theorem dX9_nextOf_13 : decode cX9_nextOf 13 = .ok (.iaload, 1) := by decide +kernel
theorem dX9_nextOf_14 : decode cX9_nextOf 14 = .ok (.if_icmp .ge 82, 3) := by decide +kernel
theorem dX9_nextOf_17 : decode cX9_nextOf 17 = .ok (.aload_n 0, 1) := by decide +kernel
theorem dX9_nextOf_18 : decode cX9_nextOf 18 = .ok (.iload 4, 2) := by decide +kernel
theorem dX9_nextOf_20 : decode cX9_nextOf 20 = .ok (.iconst 0, 1) := by decide +kernel
theorem dX9_nextOf_21 : decode cX9_nextOf 21 = .ok (.invokevirtual 58, 3) := by decide +kernel
theorem dX9_nextOf_24 : decode cX9_nextOf 24 = .ok (.iload_n 1, 1) := by decide +kernel
theorem dX9_nextOf_25 : decode cX9_nextOf 25 = .ok (.if_icmp .ne 28, 3) := by decide +kernel
theorem dX9_nextOf_28 : decode cX9_nextOf 28 = .ok (.aload_n 0, 1) := by decide +kernel
theorem dX9_nextOf_29 : decode cX9_nextOf 29 = .ok (.iload 4, 2) := by decide +kernel
theorem dX9_nextOf_31 : decode cX9_nextOf 31 = .ok (.iconst 3, 1) := by decide +kernel
theorem dX9_nextOf_32 : decode cX9_nextOf 32 = .ok (.invokevirtual 58, 3) := by decide +kernel
theorem dX9_nextOf_35 : decode cX9_nextOf 35 = .ok (.ifCond .ne 18, 3) := by decide +kernel
theorem dX9_nextOf_38 : decode cX9_nextOf 38 = .ok (.aload_n 0, 1) := by decide +kernel
theorem dX9_nextOf_39 : decode cX9_nextOf 39 = .ok (.iload 4, 2) := by decide +kernel
theorem dX9_nextOf_41 : decode cX9_nextOf 41 = .ok (.iconst 1, 1) := by decide +kernel
theorem dX9_nextOf_42 : decode cX9_nextOf 42 = .ok (.invokevirtual 58, 3) := by decide +kernel
theorem dX9_nextOf_45 : decode cX9_nextOf 45 = .ok (.iload_n 2, 1) := by decide +kernel
theorem dX9_nextOf_46 : decode cX9_nextOf 46 = .ok (.if_icmp .le 7, 3) := by decide +kernel
theorem dX9_nextOf_49 : decode cX9_nextOf 49 = .ok (.iconst 1, 1) := by decide +kernel
theorem dX9_nextOf_50 : decode cX9_nextOf 50 = .ok (.goto 4, 3) := by decide +kernel
theorem dX9_nextOf_53 : decode cX9_nextOf 53 = .ok (.iconst 0, 1) := by decide +kernel
theorem dX9_nextOf_54 : decode cX9_nextOf 54 = .ok (.istore 5, 2) := by decide +kernel
theorem dX9_nextOf_56 : decode cX9_nextOf 56 = .ok (.iload 5, 2) := by decide +kernel
theorem dX9_nextOf_58 : decode cX9_nextOf 58 = .ok (.ifCond .eq 30, 3) := by decide +kernel
theorem dX9_nextOf_61 : decode cX9_nextOf 61 = .ok (.iload_n 3, 1) := by decide +kernel
theorem dX9_nextOf_62 : decode cX9_nextOf 62 = .ok (.bipush (-9), 2) := by decide +kernel
theorem dX9_nextOf_64 : decode cX9_nextOf 64 = .ok (.if_icmp .eq 19, 3) := by decide +kernel
theorem dX9_nextOf_67 : decode cX9_nextOf 67 = .ok (.aload_n 0, 1) := by decide +kernel
theorem dX9_nextOf_68 : decode cX9_nextOf 68 = .ok (.iload 4, 2) := by decide +kernel
theorem dX9_nextOf_70 : decode cX9_nextOf 70 = .ok (.iconst 1, 1) := by decide +kernel
theorem dX9_nextOf_71 : decode cX9_nextOf 71 = .ok (.invokevirtual 58, 3) := by decide +kernel
theorem dX9_nextOf_74 : decode cX9_nextOf 74 = .ok (.aload_n 0, 1) := by decide +kernel
theorem dX9_nextOf_75 : decode cX9_nextOf 75 = .ok (.iload_n 3, 1) := by decide +kernel
theorem dX9_nextOf_76 : decode cX9_nextOf 76 = .ok (.iconst 1, 1) := by decide +kernel
theorem dX9_nextOf_77 : decode cX9_nextOf 77 = .ok (.invokevirtual 58, 3) := by decide +kernel
theorem dX9_nextOf_80 : decode cX9_nextOf 80 = .ok (.if_icmp .ge 8, 3) := by decide +kernel
theorem dX9_nextOf_83 : decode cX9_nextOf 83 = .ok (.iload 4, 2) := by decide +kernel
theorem dX9_nextOf_85 : decode cX9_nextOf 85 = .ok (.goto 4, 3) := by decide +kernel
theorem dX9_nextOf_88 : decode cX9_nextOf 88 = .ok (.iload_n 3, 1) := by decide +kernel
theorem dX9_nextOf_89 : decode cX9_nextOf 89 = .ok (.istore_n 3, 1) := by decide +kernel
theorem dX9_nextOf_90 : decode cX9_nextOf 90 = .ok (.iinc 4 1, 3) := by decide +kernel
theorem dX9_nextOf_93 : decode cX9_nextOf 93 = .ok (.goto (-87), 3) := by decide +kernel
theorem dX9_nextOf_96 : decode cX9_nextOf 96 = .ok (.iload_n 3, 1) := by decide +kernel
theorem dX9_nextOf_97 : decode cX9_nextOf 97 = .ok (.ireturn, 1) := by decide +kernel
theorem dX9_startOf_0 : decode cX9_startOf 0 = .ok (.aload_n 0, 1) := by decide +kernel
theorem dX9_startOf_1 : decode cX9_startOf 1 = .ok (.iload_n 1, 1) := by decide +kernel
theorem dX9_startOf_2 : decode cX9_startOf 2 = .ok (.iconst 0, 1) := by decide +kernel
theorem dX9_startOf_3 : decode cX9_startOf 3 = .ok (.invokevirtual 58, 3) := by decide +kernel
theorem dX9_startOf_6 : decode cX9_startOf 6 = .ok (.istore_n 3, 1) := by decide +kernel
theorem dX9_startOf_7 : decode cX9_startOf 7 = .ok (.aload_n 0, 1) := by decide +kernel
theorem dX9_startOf_8 : decode cX9_startOf 8 = .ok (.iload_n 3, 1) := by decide +kernel
theorem dX9_startOf_9 : decode cX9_startOf 9 = .ok (.iconst 4, 1) := by decide +kernel
theorem dX9_startOf_10 : decode cX9_startOf 10 = .ok (.invokevirtual 48, 3) := by decide +kernel
theorem dX9_startOf_13 : decode cX9_startOf 13 = .ok (.iload_n 2, 1) := by decide +kernel
theorem dX9_startOf_14 : decode cX9_startOf 14 = .ok (.iadd, 1) := by decide +kernel
theorem dX9_startOf_15 : decode cX9_startOf 15 = .ok (.istore 4, 2) := by decide +kernel
theorem dX9_startOf_17 : decode cX9_startOf 17 = .ok (.aload_n 0, 1) := by decide +kernel
theorem dX9_startOf_18 : decode cX9_startOf 18 = .ok (.iload_n 3, 1) := by decide +kernel
theorem dX9_startOf_19 : decode cX9_startOf 19 = .ok (.iconst (-1), 1) := by decide +kernel
theorem dX9_startOf_20 : decode cX9_startOf 20 = .ok (.invokevirtual 83, 3) := by decide +kernel
theorem dX9_startOf_23 : decode cX9_startOf 23 = .ok (.istore 5, 2) := by decide +kernel
theorem dX9_startOf_25 : decode cX9_startOf 25 = .ok (.iload 5, 2) := by decide +kernel
theorem dX9_startOf_27 : decode cX9_startOf 27 = .ok (.iload_n 1, 1) := by decide +kernel
theorem dX9_startOf_28 : decode cX9_startOf 28 = .ok (.if_icmp .eq 48, 3) := by decide +kernel
theorem dX9_startOf_31 : decode cX9_startOf 31 = .ok (.iload 4, 2) := by decide +kernel
theorem dX9_startOf_33 : decode cX9_startOf 33 = .ok (.aload_n 0, 1) := by decide +kernel
theorem dX9_startOf_34 : decode cX9_startOf 34 = .ok (.iload 5, 2) := by decide +kernel
theorem dX9_startOf_36 : decode cX9_startOf 36 = .ok (.iconst 1, 1) := by decide +kernel
theorem dX9_startOf_37 : decode cX9_startOf 37 = .ok (.invokevirtual 58, 3) := by decide +kernel
theorem dX9_startOf_40 : decode cX9_startOf 40 = .ok (.invokestatic 86, 3) := by decide +kernel
theorem dX9_startOf_43 : decode cX9_startOf 43 = .ok (.aload_n 0, 1) := by decide +kernel
theorem dX9_startOf_44 : decode cX9_startOf 44 = .ok (.iload_n 3, 1) := by decide +kernel
theorem dX9_startOf_45 : decode cX9_startOf 45 = .ok (.iconst 0, 1) := by decide +kernel
theorem dX9_startOf_46 : decode cX9_startOf 46 = .ok (.invokevirtual 48, 3) := by decide +kernel
theorem dX9_startOf_49 : decode cX9_startOf 49 = .ok (.iadd, 1) := by decide +kernel
theorem dX9_startOf_50 : decode cX9_startOf 50 = .ok (.aload_n 0, 1) := by decide +kernel
theorem dX9_startOf_51 : decode cX9_startOf 51 = .ok (.iload_n 3, 1) := by decide +kernel
theorem dX9_startOf_52 : decode cX9_startOf 52 = .ok (.iconst 1, 1) := by decide +kernel
theorem dX9_startOf_53 : decode cX9_startOf 53 = .ok (.invokevirtual 48, 3) := by decide +kernel
theorem dX9_startOf_56 : decode cX9_startOf 56 = .ok (.iadd, 1) := by decide +kernel
theorem dX9_startOf_57 : decode cX9_startOf 57 = .ok (.istore 4, 2) := by decide +kernel
theorem dX9_startOf_59 : decode cX9_startOf 59 = .ok (.aload_n 0, 1) := by decide +kernel
theorem dX9_startOf_60 : decode cX9_startOf 60 = .ok (.iload_n 3, 1) := by decide +kernel
theorem dX9_startOf_61 : decode cX9_startOf 61 = .ok (.aload_n 0, 1) := by decide +kernel
theorem dX9_startOf_62 : decode cX9_startOf 62 = .ok (.iload 5, 2) := by decide +kernel
theorem dX9_startOf_64 : decode cX9_startOf 64 = .ok (.iconst 1, 1) := by decide +kernel
theorem dX9_startOf_65 : decode cX9_startOf 65 = .ok (.invokevirtual 58, 3) := by decide +kernel
theorem dX9_startOf_68 : decode cX9_startOf 68 = .ok (.invokevirtual 83, 3) := by decide +kernel
theorem dX9_startOf_71 : decode cX9_startOf 71 = .ok (.istore 5, 2) := by decide +kernel
theorem dX9_startOf_73 : decode cX9_startOf 73 = .ok (.goto (-48), 3) := by decide +kernel
theorem dX9_startOf_76 : decode cX9_startOf 76 = .ok (.iload 4, 2) := by decide +kernel
theorem dX9_startOf_78 : decode cX9_startOf 78 = .ok (.aload_n 0, 1) := by decide +kernel
theorem dX9_startOf_79 : decode cX9_startOf 79 = .ok (.iload 5, 2) := by decide +kernel
theorem dX9_startOf_81 : decode cX9_startOf 81 = .ok (.iconst 1, 1) := by decide +kernel
theorem dX9_startOf_82 : decode cX9_startOf 82 = .ok (.invokevirtual 58, 3) := by decide +kernel
theorem dX9_startOf_85 : decode cX9_startOf 85 = .ok (.invokestatic 86, 3) := by decide +kernel
theorem dX9_startOf_88 : decode cX9_startOf 88 = .ok (.ireturn, 1) := by decide +kernel
theorem dX9_shareOf_0 : decode cX9_shareOf 0 = .ok (.iload_n 2, 1) := by decide +kernel
theorem dX9_shareOf_1 : decode cX9_shareOf 1 = .ok (.aload_n 0, 1) := by decide +kernel
theorem dX9_shareOf_2 : decode cX9_shareOf 2 = .ok (.getfield 7, 3) := by decide +kernel
theorem dX9_shareOf_5 : decode cX9_shareOf 5 = .ok (.bipush 7, 2) := by decide +kernel
theorem dX9_shareOf_7 : decode cX9_shareOf 7 = .ok (.iaload, 1) := by decide +kernel
theorem dX9_shareOf_8 : decode cX9_shareOf 8 = .ok (.isub, 1) := by decide +kernel
theorem dX9_shareOf_9 : decode cX9_shareOf 9 = .ok (.istore_n 3, 1) := by decide +kernel
theorem dX9_shareOf_10 : decode cX9_shareOf 10 = .ok (.iload_n 3, 1) := by decide +kernel
theorem dX9_shareOf_11 : decode cX9_shareOf 11 = .ok (.ifCond .gt 7, 3) := by decide +kernel
theorem dX9_shareOf_14 : decode cX9_shareOf 14 = .ok (.iconst 0, 1) := by decide +kernel
theorem dX9_shareOf_15 : decode cX9_shareOf 15 = .ok (.goto 28, 3) := by decide +kernel
theorem dX9_shareOf_18 : decode cX9_shareOf 18 = .ok (.iload_n 1, 1) := by decide +kernel
theorem dX9_shareOf_19 : decode cX9_shareOf 19 = .ok (.bipush 100, 2) := by decide +kernel
theorem dX9_shareOf_21 : decode cX9_shareOf 21 = .ok (.iload_n 3, 1) := by decide +kernel
theorem dX9_shareOf_22 : decode cX9_shareOf 22 = .ok (.bipush 9, 2) := by decide +kernel
theorem dX9_shareOf_24 : decode cX9_shareOf 24 = .ok (.iadd, 1) := by decide +kernel
theorem dX9_shareOf_25 : decode cX9_shareOf 25 = .ok (.bipush 10, 2) := by decide +kernel
theorem dX9_shareOf_27 : decode cX9_shareOf 27 = .ok (.idiv, 1) := by decide +kernel
theorem dX9_shareOf_28 : decode cX9_shareOf 28 = .ok (.aload_n 0, 1) := by decide +kernel
theorem dX9_shareOf_29 : decode cX9_shareOf 29 = .ok (.getfield 7, 3) := by decide +kernel
theorem dX9_shareOf_32 : decode cX9_shareOf 32 = .ok (.bipush 8, 2) := by decide +kernel
theorem dX9_shareOf_34 : decode cX9_shareOf 34 = .ok (.iaload, 1) := by decide +kernel
theorem dX9_shareOf_35 : decode cX9_shareOf 35 = .ok (.imul, 1) := by decide +kernel
theorem dX9_shareOf_36 : decode cX9_shareOf 36 = .ok (.invokestatic 67, 3) := by decide +kernel
theorem dX9_shareOf_39 : decode cX9_shareOf 39 = .ok (.imul, 1) := by decide +kernel
theorem dX9_shareOf_40 : decode cX9_shareOf 40 = .ok (.bipush 100, 2) := by decide +kernel
theorem dX9_shareOf_42 : decode cX9_shareOf 42 = .ok (.idiv, 1) := by decide +kernel
theorem dX9_shareOf_43 : decode cX9_shareOf 43 = .ok (.ireturn, 1) := by decide +kernel
theorem dX9_doDrop_0 : decode cX9_doDrop 0 = .ok (.aload_n 0, 1) := by decide +kernel
theorem dX9_doDrop_1 : decode cX9_doDrop 1 = .ok (.iload_n 1, 1) := by decide +kernel
theorem dX9_doDrop_2 : decode cX9_doDrop 2 = .ok (.invokevirtual 77, 3) := by decide +kernel
theorem dX9_doDrop_5 : decode cX9_doDrop 5 = .ok (.ifCond .ne 5, 3) := by decide +kernel
theorem dX9_doDrop_8 : decode cX9_doDrop 8 = .ok (.iconst (-1), 1) := by decide +kernel
theorem dX9_doDrop_9 : decode cX9_doDrop 9 = .ok (.ireturn, 1) := by decide +kernel
theorem dX9_doDrop_10 : decode cX9_doDrop 10 = .ok (.aload_n 0, 1) := by decide +kernel
theorem dX9_doDrop_11 : decode cX9_doDrop 11 = .ok (.iload_n 1, 1) := by decide +kernel
theorem dX9_doDrop_12 : decode cX9_doDrop 12 = .ok (.iconst 3, 1) := by decide +kernel
theorem dX9_doDrop_13 : decode cX9_doDrop 13 = .ok (.invokevirtual 58, 3) := by decide +kernel
theorem dX9_doDrop_16 : decode cX9_doDrop 16 = .ok (.ifCond .eq 6, 3) := by decide +kernel
theorem dX9_doDrop_19 : decode cX9_doDrop 19 = .ok (.bipush (-2), 2) := by decide +kernel
theorem dX9_doDrop_21 : decode cX9_doDrop 21 = .ok (.ireturn, 1) := by decide +kernel
theorem dX9_doDrop_22 : decode cX9_doDrop 22 = .ok (.aload_n 0, 1) := by decide +kernel
theorem dX9_doDrop_23 : decode cX9_doDrop 23 = .ok (.iload_n 1, 1) := by decide +kernel
theorem dX9_doDrop_24 : decode cX9_doDrop 24 = .ok (.iconst 5, 1) := by decide +kernel
theorem dX9_doDrop_25 : decode cX9_doDrop 25 = .ok (.invokevirtual 58, 3) := by decide +kernel
theorem dX9_doDrop_28 : decode cX9_doDrop 28 = .ok (.aload_n 0, 1) := by decide +kernel
theorem dX9_doDrop_29 : decode cX9_doDrop 29 = .ok (.iload_n 1, 1) := by decide +kernel
theorem dX9_doDrop_30 : decode cX9_doDrop 30 = .ok (.invokevirtual 89, 3) := by decide +kernel
theorem dX9_doDrop_33 : decode cX9_doDrop 33 = .ok (.iadd, 1) := by decide +kernel
theorem dX9_doDrop_34 : decode cX9_doDrop 34 = .ok (.istore_n 2, 1) := by decide +kernel
theorem dX9_doDrop_35 : decode cX9_doDrop 35 = .ok (.aload_n 0, 1) := by decide +kernel
theorem dX9_doDrop_36 : decode cX9_doDrop 36 = .ok (.iload_n 1, 1) := by decide +kernel
theorem dX9_doDrop_37 : decode cX9_doDrop 37 = .ok (.iconst 0, 1) := by decide +kernel
theorem dX9_doDrop_38 : decode cX9_doDrop 38 = .ok (.invokevirtual 92, 3) := by decide +kernel
theorem dX9_doDrop_41 : decode cX9_doDrop 41 = .ok (.aload_n 0, 1) := by decide +kernel
theorem dX9_doDrop_42 : decode cX9_doDrop 42 = .ok (.iload_n 1, 1) := by decide +kernel
theorem dX9_doDrop_43 : decode cX9_doDrop 43 = .ok (.iconst 1, 1) := by decide +kernel
theorem dX9_doDrop_44 : decode cX9_doDrop 44 = .ok (.invokevirtual 58, 3) := by decide +kernel
theorem dX9_doDrop_47 : decode cX9_doDrop 47 = .ok (.isub, 1) := by decide +kernel
theorem dX9_doDrop_48 : decode cX9_doDrop 48 = .ok (.aload_n 0, 1) := by decide +kernel
theorem dX9_doDrop_49 : decode cX9_doDrop 49 = .ok (.getfield 7, 3) := by decide +kernel
theorem dX9_doDrop_52 : decode cX9_doDrop 52 = .ok (.bipush 7, 2) := by decide +kernel
theorem dX9_doDrop_54 : decode cX9_doDrop 54 = .ok (.iaload, 1) := by decide +kernel
theorem dX9_doDrop_55 : decode cX9_doDrop 55 = .ok (.if_icmp .le 7, 3) := by decide +kernel
theorem dX9_doDrop_58 : decode cX9_doDrop 58 = .ok (.iload_n 2, 1) := by decide +kernel
theorem dX9_doDrop_59 : decode cX9_doDrop 59 = .ok (.goto 6, 3) := by decide +kernel
theorem dX9_doDrop_62 : decode cX9_doDrop 62 = .ok (.iload_n 2, 1) := by decide +kernel
theorem dX9_doDrop_63 : decode cX9_doDrop 63 = .ok (.iconst 2, 1) := by decide +kernel
theorem dX9_doDrop_64 : decode cX9_doDrop 64 = .ok (.idiv, 1) := by decide +kernel
theorem dX9_doDrop_65 : decode cX9_doDrop 65 = .ok (.istore_n 3, 1) := by decide +kernel
theorem dX9_doDrop_66 : decode cX9_doDrop 66 = .ok (.aload_n 0, 1) := by decide +kernel
theorem dX9_doDrop_67 : decode cX9_doDrop 67 = .ok (.iload_n 1, 1) := by decide +kernel
theorem dX9_doDrop_68 : decode cX9_doDrop 68 = .ok (.iload_n 3, 1) := by decide +kernel
theorem dX9_doDrop_69 : decode cX9_doDrop 69 = .ok (.invokevirtual 95, 3) := by decide +kernel
theorem dX9_doDrop_72 : decode cX9_doDrop 72 = .ok (.aload_n 0, 1) := by decide +kernel
theorem dX9_doDrop_73 : decode cX9_doDrop 73 = .ok (.iload_n 1, 1) := by decide +kernel
theorem dX9_doDrop_74 : decode cX9_doDrop 74 = .ok (.iconst 3, 1) := by decide +kernel
theorem dX9_doDrop_75 : decode cX9_doDrop 75 = .ok (.iconst 2, 1) := by decide +kernel
theorem dX9_doDrop_76 : decode cX9_doDrop 76 = .ok (.invokevirtual 70, 3) := by decide +kernel
theorem dX9_doDrop_79 : decode cX9_doDrop 79 = .ok (.iload_n 3, 1) := by decide +kernel
theorem dX9_doDrop_80 : decode cX9_doDrop 80 = .ok (.ireturn, 1) := by decide +kernel
theorem dX9_cancel_0 : decode cX9_cancel 0 = .ok (.aload_n 0, 1) := by decide +kernel
theorem dX9_cancel_1 : decode cX9_cancel 1 = .ok (.invokevirtual 33, 3) := by decide +kernel
theorem dX9_cancel_4 : decode cX9_cancel 4 = .ok (.aload_n 0, 1) := by decide +kernel
theorem dX9_cancel_5 : decode cX9_cancel 5 = .ok (.aload_n 0, 1) := by decide +kernel
theorem dX9_cancel_6 : decode cX9_cancel 6 = .ok (.iload_n 1, 1) := by decide +kernel
theorem dX9_cancel_7 : decode cX9_cancel 7 = .ok (.invokevirtual 99, 3) := by decide +kernel
theorem dX9_cancel_10 : decode cX9_cancel 10 = .ok (.invokevirtual 40, 3) := by decide +kernel
theorem dX9_cancel_13 : decode cX9_cancel 13 = .ok (.ireturn, 1) := by decide +kernel
theorem dX9_doJoin_0 : decode cX9_doJoin 0 = .ok (.aload_n 0, 1) := by decide +kernel
theorem dX9_doJoin_1 : decode cX9_doJoin 1 = .ok (.iload_n 1, 1) := by decide +kernel
theorem dX9_doJoin_2 : decode cX9_doJoin 2 = .ok (.invokevirtual 77, 3) := by decide +kernel
theorem dX9_doJoin_5 : decode cX9_doJoin 5 = .ok (.ifCond .eq 16, 3) := by decide +kernel
theorem dX9_doJoin_8 : decode cX9_doJoin 8 = .ok (.aload_n 0, 1) := by decide +kernel
theorem dX9_doJoin_9 : decode cX9_doJoin 9 = .ok (.iload_n 2, 1) := by decide +kernel
theorem dX9_doJoin_10 : decode cX9_doJoin 10 = .ok (.invokevirtual 77, 3) := by decide +kernel
theorem dX9_doJoin_13 : decode cX9_doJoin 13 = .ok (.ifCond .eq 8, 3) := by decide +kernel
theorem dX9_doJoin_16 : decode cX9_doJoin 16 = .ok (.iload_n 1, 1) := by decide +kernel
theorem dX9_doJoin_17 : decode cX9_doJoin 17 = .ok (.iload_n 2, 1) := by decide +kernel
theorem dX9_doJoin_18 : decode cX9_doJoin 18 = .ok (.if_icmp .ne 5, 3) := by decide +kernel
theorem dX9_doJoin_21 : decode cX9_doJoin 21 = .ok (.iconst (-1), 1) := by decide +kernel
theorem dX9_doJoin_22 : decode cX9_doJoin 22 = .ok (.ireturn, 1) := by decide +kernel
theorem dX9_doJoin_23 : decode cX9_doJoin 23 = .ok (.aload_n 0, 1) := by decide +kernel
theorem dX9_doJoin_24 : decode cX9_doJoin 24 = .ok (.iload_n 1, 1) := by decide +kernel
theorem dX9_doJoin_25 : decode cX9_doJoin 25 = .ok (.iconst 3, 1) := by decide +kernel
theorem dX9_doJoin_26 : decode cX9_doJoin 26 = .ok (.invokevirtual 58, 3) := by decide +kernel
theorem dX9_doJoin_29 : decode cX9_doJoin 29 = .ok (.ifCond .ne 27, 3) := by decide +kernel
theorem dX9_doJoin_32 : decode cX9_doJoin 32 = .ok (.aload_n 0, 1) := by decide +kernel
theorem dX9_doJoin_33 : decode cX9_doJoin 33 = .ok (.iload_n 2, 1) := by decide +kernel
theorem dX9_doJoin_34 : decode cX9_doJoin 34 = .ok (.iconst 3, 1) := by decide +kernel
theorem dX9_doJoin_35 : decode cX9_doJoin 35 = .ok (.invokevirtual 58, 3) := by decide +kernel
theorem dX9_doJoin_38 : decode cX9_doJoin 38 = .ok (.ifCond .ne 18, 3) := by decide +kernel
theorem dX9_doJoin_41 : decode cX9_doJoin 41 = .ok (.aload_n 0, 1) := by decide +kernel
theorem dX9_doJoin_42 : decode cX9_doJoin 42 = .ok (.iload_n 1, 1) := by decide +kernel
theorem dX9_doJoin_43 : decode cX9_doJoin 43 = .ok (.iconst 0, 1) := by decide +kernel
theorem dX9_doJoin_44 : decode cX9_doJoin 44 = .ok (.invokevirtual 58, 3) := by decide +kernel
theorem dX9_doJoin_47 : decode cX9_doJoin 47 = .ok (.aload_n 0, 1) := by decide +kernel
theorem dX9_doJoin_48 : decode cX9_doJoin 48 = .ok (.iload_n 2, 1) := by decide +kernel
theorem dX9_doJoin_49 : decode cX9_doJoin 49 = .ok (.iconst 0, 1) := by decide +kernel
theorem dX9_doJoin_50 : decode cX9_doJoin 50 = .ok (.invokevirtual 58, 3) := by decide +kernel
theorem dX9_doJoin_53 : decode cX9_doJoin 53 = .ok (.if_icmp .eq 6, 3) := by decide +kernel
theorem dX9_doJoin_56 : decode cX9_doJoin 56 = .ok (.bipush (-2), 2) := by decide +kernel
theorem dX9_doJoin_58 : decode cX9_doJoin 58 = .ok (.ireturn, 1) := by decide +kernel
theorem dX9_doJoin_59 : decode cX9_doJoin 59 = .ok (.aload_n 0, 1) := by decide +kernel
theorem dX9_doJoin_60 : decode cX9_doJoin 60 = .ok (.iload_n 1, 1) := by decide +kernel
theorem dX9_doJoin_61 : decode cX9_doJoin 61 = .ok (.iconst 2, 1) := by decide +kernel
theorem dX9_doJoin_62 : decode cX9_doJoin 62 = .ok (.invokevirtual 58, 3) := by decide +kernel
theorem dX9_doJoin_65 : decode cX9_doJoin 65 = .ok (.aload_n 0, 1) := by decide +kernel
theorem dX9_doJoin_66 : decode cX9_doJoin 66 = .ok (.iload_n 2, 1) := by decide +kernel
theorem dX9_doJoin_67 : decode cX9_doJoin 67 = .ok (.iconst 2, 1) := by decide +kernel
theorem dX9_doJoin_68 : decode cX9_doJoin 68 = .ok (.invokevirtual 58, 3) := by decide +kernel
theorem dX9_doJoin_71 : decode cX9_doJoin 71 = .ok (.iadd, 1) := by decide +kernel
theorem dX9_doJoin_72 : decode cX9_doJoin 72 = .ok (.aload_n 0, 1) := by decide +kernel
theorem dX9_doJoin_73 : decode cX9_doJoin 73 = .ok (.aload_n 0, 1) := by decide +kernel
theorem dX9_doJoin_74 : decode cX9_doJoin 74 = .ok (.iload_n 1, 1) := by decide +kernel
theorem dX9_doJoin_75 : decode cX9_doJoin 75 = .ok (.iconst 0, 1) := by decide +kernel
theorem dX9_doJoin_76 : decode cX9_doJoin 76 = .ok (.invokevirtual 58, 3) := by decide +kernel
theorem dX9_doJoin_79 : decode cX9_doJoin 79 = .ok (.iconst 3, 1) := by decide +kernel
theorem dX9_doJoin_80 : decode cX9_doJoin 80 = .ok (.invokevirtual 48, 3) := by decide +kernel
theorem dX9_doJoin_83 : decode cX9_doJoin 83 = .ok (.if_icmp .le 6, 3) := by decide +kernel
theorem dX9_doJoin_86 : decode cX9_doJoin 86 = .ok (.bipush (-3), 2) := by decide +kernel
theorem dX9_doJoin_88 : decode cX9_doJoin 88 = .ok (.ireturn, 1) := by decide +kernel
theorem dX9_doJoin_89 : decode cX9_doJoin 89 = .ok (.aload_n 0, 1) := by decide +kernel
theorem dX9_doJoin_90 : decode cX9_doJoin 90 = .ok (.iload_n 2, 1) := by decide +kernel
theorem dX9_doJoin_91 : decode cX9_doJoin 91 = .ok (.iconst 2, 1) := by decide +kernel
theorem dX9_doJoin_92 : decode cX9_doJoin 92 = .ok (.aload_n 0, 1) := by decide +kernel
theorem dX9_doJoin_93 : decode cX9_doJoin 93 = .ok (.iload_n 1, 1) := by decide +kernel
theorem dX9_doJoin_94 : decode cX9_doJoin 94 = .ok (.iconst 2, 1) := by decide +kernel
theorem dX9_doJoin_95 : decode cX9_doJoin 95 = .ok (.invokevirtual 58, 3) := by decide +kernel
theorem dX9_doJoin_98 : decode cX9_doJoin 98 = .ok (.invokevirtual 80, 3) := by decide +kernel
theorem dX9_doJoin_101 : decode cX9_doJoin 101 = .ok (.aload_n 0, 1) := by decide +kernel
theorem dX9_doJoin_102 : decode cX9_doJoin 102 = .ok (.iload_n 2, 1) := by decide +kernel
theorem dX9_doJoin_103 : decode cX9_doJoin 103 = .ok (.iconst 4, 1) := by decide +kernel
theorem dX9_doJoin_104 : decode cX9_doJoin 104 = .ok (.aload_n 0, 1) := by decide +kernel
theorem dX9_doJoin_105 : decode cX9_doJoin 105 = .ok (.iload_n 1, 1) := by decide +kernel
theorem dX9_doJoin_106 : decode cX9_doJoin 106 = .ok (.iconst 4, 1) := by decide +kernel
theorem dX9_doJoin_107 : decode cX9_doJoin 107 = .ok (.invokevirtual 58, 3) := by decide +kernel
theorem dX9_doJoin_110 : decode cX9_doJoin 110 = .ok (.invokevirtual 80, 3) := by decide +kernel
theorem dX9_doJoin_113 : decode cX9_doJoin 113 = .ok (.aload_n 0, 1) := by decide +kernel
theorem dX9_doJoin_114 : decode cX9_doJoin 114 = .ok (.iload_n 2, 1) := by decide +kernel
theorem dX9_doJoin_115 : decode cX9_doJoin 115 = .ok (.iconst 5, 1) := by decide +kernel
theorem dX9_doJoin_116 : decode cX9_doJoin 116 = .ok (.aload_n 0, 1) := by decide +kernel
theorem dX9_doJoin_117 : decode cX9_doJoin 117 = .ok (.iload_n 1, 1) := by decide +kernel
theorem dX9_doJoin_118 : decode cX9_doJoin 118 = .ok (.iconst 5, 1) := by decide +kernel
theorem dX9_doJoin_119 : decode cX9_doJoin 119 = .ok (.invokevirtual 58, 3) := by decide +kernel
theorem dX9_doJoin_122 : decode cX9_doJoin 122 = .ok (.invokevirtual 80, 3) := by decide +kernel
theorem dX9_doJoin_125 : decode cX9_doJoin 125 = .ok (.iconst 0, 1) := by decide +kernel
theorem dX9_doJoin_126 : decode cX9_doJoin 126 = .ok (.istore_n 3, 1) := by decide +kernel
theorem dX9_doJoin_127 : decode cX9_doJoin 127 = .ok (.iload_n 3, 1) := by decide +kernel
theorem dX9_doJoin_128 : decode cX9_doJoin 128 = .ok (.aload_n 0, 1) := by decide +kernel
theorem dX9_doJoin_129 : decode cX9_doJoin 129 = .ok (.getfield 7, 3) := by decide +kernel
theorem dX9_doJoin_132 : decode cX9_doJoin 132 = .ok (.sipush 197, 3) := by decide +kernel
theorem dX9_doJoin_135 : decode cX9_doJoin 135 = .ok (.iload_n 1, 1) := by decide +kernel
theorem dX9_doJoin_136 : decode cX9_doJoin 136 = .ok (.iadd, 1) := by decide +kernel
theorem dX9_doJoin_137 : decode cX9_doJoin 137 = .ok (.iaload, 1) := by decide +kernel
theorem dX9_doJoin_138 : decode cX9_doJoin 138 = .ok (.if_icmp .ge 62, 3) := by decide +kernel
theorem dX9_doJoin_141 : decode cX9_doJoin 141 = .ok (.aload_n 0, 1) := by decide +kernel
theorem dX9_doJoin_142 : decode cX9_doJoin 142 = .ok (.getfield 7, 3) := by decide +kernel
theorem dX9_doJoin_145 : decode cX9_doJoin 145 = .ok (.sipush 213, 3) := by decide +kernel
theorem dX9_doJoin_148 : decode cX9_doJoin 148 = .ok (.bipush 16, 2) := by decide +kernel
theorem dX9_doJoin_150 : decode cX9_doJoin 150 = .ok (.iload_n 2, 1) := by decide +kernel
theorem dX9_doJoin_151 : decode cX9_doJoin 151 = .ok (.imul, 1) := by decide +kernel
theorem dX9_doJoin_152 : decode cX9_doJoin 152 = .ok (.iadd, 1) := by decide +kernel
theorem dX9_doJoin_153 : decode cX9_doJoin 153 = .ok (.aload_n 0, 1) := by decide +kernel
theorem dX9_doJoin_154 : decode cX9_doJoin 154 = .ok (.getfield 7, 3) := by decide +kernel
theorem dX9_doJoin_157 : decode cX9_doJoin 157 = .ok (.sipush 197, 3) := by decide +kernel
theorem dX9_doJoin_160 : decode cX9_doJoin 160 = .ok (.iload_n 2, 1) := by decide +kernel
theorem dX9_doJoin_161 : decode cX9_doJoin 161 = .ok (.iadd, 1) := by decide +kernel
theorem dX9_doJoin_162 : decode cX9_doJoin 162 = .ok (.iaload, 1) := by decide +kernel
theorem dX9_doJoin_163 : decode cX9_doJoin 163 = .ok (.iadd, 1) := by decide +kernel
theorem dX9_doJoin_164 : decode cX9_doJoin 164 = .ok (.aload_n 0, 1) := by decide +kernel
theorem dX9_doJoin_165 : decode cX9_doJoin 165 = .ok (.getfield 7, 3) := by decide +kernel
theorem dX9_doJoin_168 : decode cX9_doJoin 168 = .ok (.sipush 213, 3) := by decide +kernel
theorem dX9_doJoin_171 : decode cX9_doJoin 171 = .ok (.bipush 16, 2) := by decide +kernel
theorem dX9_doJoin_173 : decode cX9_doJoin 173 = .ok (.iload_n 1, 1) := by decide +kernel
theorem dX9_doJoin_174 : decode cX9_doJoin 174 = .ok (.imul, 1) := by decide +kernel
theorem dX9_doJoin_175 : decode cX9_doJoin 175 = .ok (.iadd, 1) := by decide +kernel
theorem dX9_doJoin_176 : decode cX9_doJoin 176 = .ok (.iload_n 3, 1) := by decide +kernel
theorem dX9_doJoin_177 : decode cX9_doJoin 177 = .ok (.iadd, 1) := by decide +kernel
theorem dX9_doJoin_178 : decode cX9_doJoin 178 = .ok (.iaload, 1) := by decide +kernel
theorem dX9_doJoin_179 : decode cX9_doJoin 179 = .ok (.iastore, 1) := by decide +kernel
theorem dX9_doJoin_180 : decode cX9_doJoin 180 = .ok (.aload_n 0, 1) := by decide +kernel
theorem dX9_doJoin_181 : decode cX9_doJoin 181 = .ok (.getfield 7, 3) := by decide +kernel
theorem dX9_doJoin_184 : decode cX9_doJoin 184 = .ok (.sipush 197, 3) := by decide +kernel
theorem dX9_doJoin_187 : decode cX9_doJoin 187 = .ok (.iload_n 2, 1) := by decide +kernel
theorem dX9_doJoin_188 : decode cX9_doJoin 188 = .ok (.iadd, 1) := by decide +kernel
theorem dX9_doJoin_189 : decode cX9_doJoin 189 = .ok (.dup2, 1) := by decide +kernel
theorem dX9_doJoin_190 : decode cX9_doJoin 190 = .ok (.iaload, 1) := by decide +kernel
theorem dX9_doJoin_191 : decode cX9_doJoin 191 = .ok (.iconst 1, 1) := by decide +kernel
theorem dX9_doJoin_192 : decode cX9_doJoin 192 = .ok (.iadd, 1) := by decide +kernel
theorem dX9_doJoin_193 : decode cX9_doJoin 193 = .ok (.iastore, 1) := by decide +kernel
theorem dX9_doJoin_194 : decode cX9_doJoin 194 = .ok (.iinc 3 1, 3) := by decide +kernel
theorem dX9_doJoin_197 : decode cX9_doJoin 197 = .ok (.goto (-70), 3) := by decide +kernel
theorem dX9_doJoin_200 : decode cX9_doJoin 200 = .ok (.aload_n 0, 1) := by decide +kernel
theorem dX9_doJoin_201 : decode cX9_doJoin 201 = .ok (.getfield 7, 3) := by decide +kernel
theorem dX9_doJoin_204 : decode cX9_doJoin 204 = .ok (.sipush 197, 3) := by decide +kernel
theorem dX9_doJoin_207 : decode cX9_doJoin 207 = .ok (.iload_n 1, 1) := by decide +kernel
theorem dX9_doJoin_208 : decode cX9_doJoin 208 = .ok (.iadd, 1) := by decide +kernel
theorem dX9_doJoin_209 : decode cX9_doJoin 209 = .ok (.iconst 0, 1) := by decide +kernel
theorem dX9_doJoin_210 : decode cX9_doJoin 210 = .ok (.iastore, 1) := by decide +kernel
theorem dX9_doJoin_211 : decode cX9_doJoin 211 = .ok (.aload_n 0, 1) := by decide +kernel
theorem dX9_doJoin_212 : decode cX9_doJoin 212 = .ok (.iload_n 1, 1) := by decide +kernel
theorem dX9_doJoin_213 : decode cX9_doJoin 213 = .ok (.iconst 2, 1) := by decide +kernel
theorem dX9_doJoin_214 : decode cX9_doJoin 214 = .ok (.iconst 0, 1) := by decide +kernel
theorem dX9_doJoin_215 : decode cX9_doJoin 215 = .ok (.invokevirtual 70, 3) := by decide +kernel
theorem dX9_doJoin_218 : decode cX9_doJoin 218 = .ok (.aload_n 0, 1) := by decide +kernel
theorem dX9_doJoin_219 : decode cX9_doJoin 219 = .ok (.iload_n 1, 1) := by decide +kernel
theorem dX9_doJoin_220 : decode cX9_doJoin 220 = .ok (.iconst 4, 1) := by decide +kernel
theorem dX9_doJoin_221 : decode cX9_doJoin 221 = .ok (.iconst 0, 1) := by decide +kernel
theorem dX9_doJoin_222 : decode cX9_doJoin 222 = .ok (.invokevirtual 70, 3) := by decide +kernel
theorem dX9_doJoin_225 : decode cX9_doJoin 225 = .ok (.aload_n 0, 1) := by decide +kernel
theorem dX9_doJoin_226 : decode cX9_doJoin 226 = .ok (.iload_n 1, 1) := by decide +kernel
theorem dX9_doJoin_227 : decode cX9_doJoin 227 = .ok (.iconst 5, 1) := by decide +kernel
theorem dX9_doJoin_228 : decode cX9_doJoin 228 = .ok (.iconst 0, 1) := by decide +kernel
theorem dX9_doJoin_229 : decode cX9_doJoin 229 = .ok (.invokevirtual 70, 3) := by decide +kernel
theorem dX9_doJoin_232 : decode cX9_doJoin 232 = .ok (.aload_n 0, 1) := by decide +kernel
theorem dX9_doJoin_233 : decode cX9_doJoin 233 = .ok (.iload_n 1, 1) := by decide +kernel
theorem dX9_doJoin_234 : decode cX9_doJoin 234 = .ok (.iconst 3, 1) := by decide +kernel
theorem dX9_doJoin_235 : decode cX9_doJoin 235 = .ok (.iconst 3, 1) := by decide +kernel
theorem dX9_doJoin_236 : decode cX9_doJoin 236 = .ok (.invokevirtual 70, 3) := by decide +kernel
theorem dX9_doJoin_239 : decode cX9_doJoin 239 = .ok (.aload_n 0, 1) := by decide +kernel
theorem dX9_doJoin_240 : decode cX9_doJoin 240 = .ok (.iload_n 2, 1) := by decide +kernel
theorem dX9_doJoin_241 : decode cX9_doJoin 241 = .ok (.iconst 2, 1) := by decide +kernel
theorem dX9_doJoin_242 : decode cX9_doJoin 242 = .ok (.invokevirtual 58, 3) := by decide +kernel
theorem dX9_doJoin_245 : decode cX9_doJoin 245 = .ok (.ireturn, 1) := by decide +kernel
theorem dX9_merge_0 : decode cX9_merge 0 = .ok (.aload_n 0, 1) := by decide +kernel
theorem dX9_merge_1 : decode cX9_merge 1 = .ok (.invokevirtual 33, 3) := by decide +kernel
theorem dX9_merge_4 : decode cX9_merge 4 = .ok (.aload_n 0, 1) := by decide +kernel
theorem dX9_merge_5 : decode cX9_merge 5 = .ok (.aload_n 0, 1) := by decide +kernel
theorem dX9_merge_6 : decode cX9_merge 6 = .ok (.iload_n 1, 1) := by decide +kernel
theorem dX9_merge_7 : decode cX9_merge 7 = .ok (.iload_n 2, 1) := by decide +kernel
theorem dX9_merge_8 : decode cX9_merge 8 = .ok (.invokevirtual 102, 3) := by decide +kernel
theorem dX9_merge_11 : decode cX9_merge 11 = .ok (.invokevirtual 40, 3) := by decide +kernel
theorem dX9_merge_14 : decode cX9_merge 14 = .ok (.ireturn, 1) := by decide +kernel
theorem dX9_counts_0 : decode cX9_counts 0 = .ok (.aload_n 0, 1) := by decide +kernel
theorem dX9_counts_1 : decode cX9_counts 1 = .ok (.getfield 7, 3) := by decide +kernel
theorem dX9_counts_4 : decode cX9_counts 4 = .ok (.bipush 9, 2) := by decide +kernel
theorem dX9_counts_6 : decode cX9_counts 6 = .ok (.bipush 11, 2) := by decide +kernel
theorem dX9_counts_8 : decode cX9_counts 8 = .ok (.iload_n 1, 1) := by decide +kernel
theorem dX9_counts_9 : decode cX9_counts 9 = .ok (.imul, 1) := by decide +kernel
theorem dX9_counts_10 : decode cX9_counts 10 = .ok (.iadd, 1) := by decide +kernel
theorem dX9_counts_11 : decode cX9_counts 11 = .ok (.iload_n 2, 1) := by decide +kernel
theorem dX9_counts_12 : decode cX9_counts 12 = .ok (.iadd, 1) := by decide +kernel
theorem dX9_counts_13 : decode cX9_counts 13 = .ok (.dup2, 1) := by decide +kernel
theorem dX9_counts_14 : decode cX9_counts 14 = .ok (.iaload, 1) := by decide +kernel
theorem dX9_counts_15 : decode cX9_counts 15 = .ok (.iload_n 3, 1) := by decide +kernel
theorem dX9_counts_16 : decode cX9_counts 16 = .ok (.iadd, 1) := by decide +kernel
theorem dX9_counts_17 : decode cX9_counts 17 = .ok (.iastore, 1) := by decide +kernel
theorem dX9_counts_18 : decode cX9_counts 18 = .ok (.return_, 1) := by decide +kernel
theorem dX9_doPlay_0 : decode cX9_doPlay 0 = .ok (.aload_n 0, 1) := by decide +kernel
theorem dX9_doPlay_1 : decode cX9_doPlay 1 = .ok (.iload_n 1, 1) := by decide +kernel
theorem dX9_doPlay_2 : decode cX9_doPlay 2 = .ok (.invokevirtual 77, 3) := by decide +kernel
theorem dX9_doPlay_5 : decode cX9_doPlay 5 = .ok (.ifCond .eq 43, 3) := by decide +kernel
theorem dX9_doPlay_8 : decode cX9_doPlay 8 = .ok (.iload_n 2, 1) := by decide +kernel
theorem dX9_doPlay_9 : decode cX9_doPlay 9 = .ok (.iconst 0, 1) := by decide +kernel
theorem dX9_doPlay_10 : decode cX9_doPlay 10 = .ok (.aload_n 0, 1) := by decide +kernel
theorem dX9_doPlay_11 : decode cX9_doPlay 11 = .ok (.aload_n 0, 1) := by decide +kernel
theorem dX9_doPlay_12 : decode cX9_doPlay 12 = .ok (.iload_n 1, 1) := by decide +kernel
theorem dX9_doPlay_13 : decode cX9_doPlay 13 = .ok (.iconst 0, 1) := by decide +kernel
theorem dX9_doPlay_14 : decode cX9_doPlay 14 = .ok (.invokevirtual 58, 3) := by decide +kernel
theorem dX9_doPlay_17 : decode cX9_doPlay 17 = .ok (.iconst 0, 1) := by decide +kernel
theorem dX9_doPlay_18 : decode cX9_doPlay 18 = .ok (.invokevirtual 48, 3) := by decide +kernel
theorem dX9_doPlay_21 : decode cX9_doPlay 21 = .ok (.invokestatic 29, 3) := by decide +kernel
theorem dX9_doPlay_24 : decode cX9_doPlay 24 = .ok (.ifCond .eq 24, 3) := by decide +kernel
theorem dX9_doPlay_27 : decode cX9_doPlay 27 = .ok (.iload_n 3, 1) := by decide +kernel
theorem dX9_doPlay_28 : decode cX9_doPlay 28 = .ok (.iconst 0, 1) := by decide +kernel
theorem dX9_doPlay_29 : decode cX9_doPlay 29 = .ok (.bipush 20, 2) := by decide +kernel
theorem dX9_doPlay_31 : decode cX9_doPlay 31 = .ok (.invokestatic 29, 3) := by decide +kernel
theorem dX9_doPlay_34 : decode cX9_doPlay 34 = .ok (.ifCond .eq 14, 3) := by decide +kernel
theorem dX9_doPlay_37 : decode cX9_doPlay 37 = .ok (.iload 4, 2) := by decide +kernel
theorem dX9_doPlay_39 : decode cX9_doPlay 39 = .ok (.iconst 0, 1) := by decide +kernel
theorem dX9_doPlay_40 : decode cX9_doPlay 40 = .ok (.bipush 9, 2) := by decide +kernel
theorem dX9_doPlay_42 : decode cX9_doPlay 42 = .ok (.invokestatic 29, 3) := by decide +kernel
theorem dX9_doPlay_45 : decode cX9_doPlay 45 = .ok (.ifCond .ne 5, 3) := by decide +kernel
theorem dX9_doPlay_48 : decode cX9_doPlay 48 = .ok (.iconst (-1), 1) := by decide +kernel
theorem dX9_doPlay_49 : decode cX9_doPlay 49 = .ok (.ireturn, 1) := by decide +kernel
theorem dX9_doPlay_50 : decode cX9_doPlay 50 = .ok (.aload_n 0, 1) := by decide +kernel
theorem dX9_doPlay_51 : decode cX9_doPlay 51 = .ok (.iload_n 1, 1) := by decide +kernel
theorem dX9_doPlay_52 : decode cX9_doPlay 52 = .ok (.iconst 0, 1) := by decide +kernel
theorem dX9_doPlay_53 : decode cX9_doPlay 53 = .ok (.invokevirtual 58, 3) := by decide +kernel
theorem dX9_doPlay_56 : decode cX9_doPlay 56 = .ok (.istore 5, 2) := by decide +kernel
theorem dX9_doPlay_58 : decode cX9_doPlay 58 = .ok (.aload_n 0, 1) := by decide +kernel
theorem dX9_doPlay_59 : decode cX9_doPlay 59 = .ok (.iload_n 1, 1) := by decide +kernel
theorem dX9_doPlay_60 : decode cX9_doPlay 60 = .ok (.iconst 3, 1) := by decide +kernel
theorem dX9_doPlay_61 : decode cX9_doPlay 61 = .ok (.invokevirtual 58, 3) := by decide +kernel
theorem dX9_doPlay_64 : decode cX9_doPlay 64 = .ok (.ifCond .ne 14, 3) := by decide +kernel
theorem dX9_doPlay_67 : decode cX9_doPlay 67 = .ok (.aload_n 0, 1) := by decide +kernel
theorem dX9_doPlay_68 : decode cX9_doPlay 68 = .ok (.iload 5, 2) := by decide +kernel
theorem dX9_doPlay_70 : decode cX9_doPlay 70 = .ok (.iconst (-1), 1) := by decide +kernel
theorem dX9_doPlay_71 : decode cX9_doPlay 71 = .ok (.invokevirtual 83, 3) := by decide +kernel
theorem dX9_doPlay_74 : decode cX9_doPlay 74 = .ok (.iload_n 1, 1) := by decide +kernel
theorem dX9_doPlay_75 : decode cX9_doPlay 75 = .ok (.if_icmp .eq 6, 3) := by decide +kernel
theorem dX9_doPlay_78 : decode cX9_doPlay 78 = .ok (.bipush (-2), 2) := by decide +kernel
theorem dX9_doPlay_80 : decode cX9_doPlay 80 = .ok (.ireturn, 1) := by decide +kernel
theorem dX9_doPlay_81 : decode cX9_doPlay 81 = .ok (.aload_n 0, 1) := by decide +kernel
theorem dX9_doPlay_82 : decode cX9_doPlay 82 = .ok (.iload 5, 2) := by decide +kernel
theorem dX9_doPlay_84 : decode cX9_doPlay 84 = .ok (.iconst 0, 1) := by decide +kernel
theorem dX9_doPlay_85 : decode cX9_doPlay 85 = .ok (.invokevirtual 48, 3) := by decide +kernel
theorem dX9_doPlay_88 : decode cX9_doPlay 88 = .ok (.istore 6, 2) := by decide +kernel
theorem dX9_doPlay_90 : decode cX9_doPlay 90 = .ok (.iload 6, 2) := by decide +kernel
theorem dX9_doPlay_92 : decode cX9_doPlay 92 = .ok (.aload_n 0, 1) := by decide +kernel
theorem dX9_doPlay_93 : decode cX9_doPlay 93 = .ok (.getfield 7, 3) := by decide +kernel
theorem dX9_doPlay_96 : decode cX9_doPlay 96 = .ok (.iconst 5, 1) := by decide +kernel
theorem dX9_doPlay_97 : decode cX9_doPlay 97 = .ok (.iaload, 1) := by decide +kernel
theorem dX9_doPlay_98 : decode cX9_doPlay 98 = .ok (.iadd, 1) := by decide +kernel
theorem dX9_doPlay_99 : decode cX9_doPlay 99 = .ok (.istore 7, 2) := by decide +kernel
theorem dX9_doPlay_101 : decode cX9_doPlay 101 = .ok (.iload_n 2, 1) := by decide +kernel
theorem dX9_doPlay_102 : decode cX9_doPlay 102 = .ok (.iload_n 3, 1) := by decide +kernel
theorem dX9_doPlay_103 : decode cX9_doPlay 103 = .ok (.aload_n 0, 1) := by decide +kernel
theorem dX9_doPlay_104 : decode cX9_doPlay 104 = .ok (.getfield 7, 3) := by decide +kernel
theorem dX9_doPlay_107 : decode cX9_doPlay 107 = .ok (.iconst 4, 1) := by decide +kernel
theorem dX9_doPlay_108 : decode cX9_doPlay 108 = .ok (.iaload, 1) := by decide +kernel
theorem dX9_doPlay_109 : decode cX9_doPlay 109 = .ok (.imul, 1) := by decide +kernel
theorem dX9_doPlay_110 : decode cX9_doPlay 110 = .ok (.iadd, 1) := by decide +kernel
theorem dX9_doPlay_111 : decode cX9_doPlay 111 = .ok (.istore 8, 2) := by decide +kernel
theorem dX9_doPlay_113 : decode cX9_doPlay 113 = .ok (.iload_n 2, 1) := by decide +kernel
theorem dX9_doPlay_114 : decode cX9_doPlay 114 = .ok (.ifCond .ne 8, 3) := by decide +kernel
theorem dX9_doPlay_117 : decode cX9_doPlay 117 = .ok (.iload 6, 2) := by decide +kernel
theorem dX9_doPlay_119 : decode cX9_doPlay 119 = .ok (.goto 10, 3) := by decide +kernel
theorem dX9_doPlay_122 : decode cX9_doPlay 122 = .ok (.iload 8, 2) := by decide +kernel
theorem dX9_doPlay_124 : decode cX9_doPlay 124 = .ok (.iload 7, 2) := by decide +kernel
theorem dX9_doPlay_126 : decode cX9_doPlay 126 = .ok (.invokestatic 67, 3) := by decide +kernel
theorem dX9_doPlay_129 : decode cX9_doPlay 129 = .ok (.istore 9, 2) := by decide +kernel
theorem dX9_doPlay_131 : decode cX9_doPlay 131 = .ok (.aload_n 0, 1) := by decide +kernel
theorem dX9_doPlay_132 : decode cX9_doPlay 132 = .ok (.iload_n 1, 1) := by decide +kernel
theorem dX9_doPlay_133 : decode cX9_doPlay 133 = .ok (.iconst 1, 1) := by decide +kernel
theorem dX9_doPlay_134 : decode cX9_doPlay 134 = .ok (.invokevirtual 58, 3) := by decide +kernel
theorem dX9_doPlay_137 : decode cX9_doPlay 137 = .ok (.aload_n 0, 1) := by decide +kernel
theorem dX9_doPlay_138 : decode cX9_doPlay 138 = .ok (.iload 5, 2) := by decide +kernel
theorem dX9_doPlay_140 : decode cX9_doPlay 140 = .ok (.iconst 4, 1) := by decide +kernel
theorem dX9_doPlay_141 : decode cX9_doPlay 141 = .ok (.invokevirtual 48, 3) := by decide +kernel
theorem dX9_doPlay_144 : decode cX9_doPlay 144 = .ok (.invokestatic 86, 3) := by decide +kernel
theorem dX9_doPlay_147 : decode cX9_doPlay 147 = .ok (.istore 10, 2) := by decide +kernel
theorem dX9_doPlay_149 : decode cX9_doPlay 149 = .ok (.iload 10, 2) := by decide +kernel
theorem dX9_doPlay_151 : decode cX9_doPlay 151 = .ok (.aload_n 0, 1) := by decide +kernel
theorem dX9_doPlay_152 : decode cX9_doPlay 152 = .ok (.iload_n 1, 1) := by decide +kernel
theorem dX9_doPlay_153 : decode cX9_doPlay 153 = .ok (.iconst 1, 1) := by decide +kernel
theorem dX9_doPlay_154 : decode cX9_doPlay 154 = .ok (.invokevirtual 58, 3) := by decide +kernel
theorem dX9_doPlay_157 : decode cX9_doPlay 157 = .ok (.isub, 1) := by decide +kernel
theorem dX9_doPlay_158 : decode cX9_doPlay 158 = .ok (.istore 11, 2) := by decide +kernel
theorem dX9_doPlay_160 : decode cX9_doPlay 160 = .ok (.aload_n 0, 1) := by decide +kernel
theorem dX9_doPlay_161 : decode cX9_doPlay 161 = .ok (.getfield 7, 3) := by decide +kernel
theorem dX9_doPlay_164 : decode cX9_doPlay 164 = .ok (.bipush 9, 2) := by decide +kernel
theorem dX9_doPlay_166 : decode cX9_doPlay 166 = .ok (.bipush 11, 2) := by decide +kernel
theorem dX9_doPlay_168 : decode cX9_doPlay 168 = .ok (.iload 5, 2) := by decide +kernel
theorem dX9_doPlay_170 : decode cX9_doPlay 170 = .ok (.imul, 1) := by decide +kernel
theorem dX9_doPlay_171 : decode cX9_doPlay 171 = .ok (.iadd, 1) := by decide +kernel
theorem dX9_doPlay_172 : decode cX9_doPlay 172 = .ok (.iconst 4, 1) := by decide +kernel
theorem dX9_doPlay_173 : decode cX9_doPlay 173 = .ok (.iadd, 1) := by decide +kernel
theorem dX9_doPlay_174 : decode cX9_doPlay 174 = .ok (.iload 10, 2) := by decide +kernel
theorem dX9_doPlay_176 : decode cX9_doPlay 176 = .ok (.iload 9, 2) := by decide +kernel
theorem dX9_doPlay_178 : decode cX9_doPlay 178 = .ok (.iadd, 1) := by decide +kernel
theorem dX9_doPlay_179 : decode cX9_doPlay 179 = .ok (.aload_n 0, 1) := by decide +kernel
theorem dX9_doPlay_180 : decode cX9_doPlay 180 = .ok (.iload 5, 2) := by decide +kernel
theorem dX9_doPlay_182 : decode cX9_doPlay 182 = .ok (.iconst 1, 1) := by decide +kernel
theorem dX9_doPlay_183 : decode cX9_doPlay 183 = .ok (.invokevirtual 48, 3) := by decide +kernel
theorem dX9_doPlay_186 : decode cX9_doPlay 186 = .ok (.iadd, 1) := by decide +kernel
theorem dX9_doPlay_187 : decode cX9_doPlay 187 = .ok (.iload 4, 2) := by decide +kernel
theorem dX9_doPlay_189 : decode cX9_doPlay 189 = .ok (.aload_n 0, 1) := by decide +kernel
theorem dX9_doPlay_190 : decode cX9_doPlay 190 = .ok (.getfield 7, 3) := by decide +kernel
theorem dX9_doPlay_193 : decode cX9_doPlay 193 = .ok (.bipush 6, 2) := by decide +kernel
theorem dX9_doPlay_195 : decode cX9_doPlay 195 = .ok (.iaload, 1) := by decide +kernel
theorem dX9_doPlay_196 : decode cX9_doPlay 196 = .ok (.imul, 1) := by decide +kernel
theorem dX9_doPlay_197 : decode cX9_doPlay 197 = .ok (.iadd, 1) := by decide +kernel
theorem dX9_doPlay_198 : decode cX9_doPlay 198 = .ok (.iastore, 1) := by decide +kernel
theorem dX9_doPlay_199 : decode cX9_doPlay 199 = .ok (.aload_n 0, 1) := by decide +kernel
theorem dX9_doPlay_200 : decode cX9_doPlay 200 = .ok (.iload 5, 2) := by decide +kernel
theorem dX9_doPlay_202 : decode cX9_doPlay 202 = .ok (.iconst 5, 1) := by decide +kernel
theorem dX9_doPlay_203 : decode cX9_doPlay 203 = .ok (.iconst 1, 1) := by decide +kernel
theorem dX9_doPlay_204 : decode cX9_doPlay 204 = .ok (.invokevirtual 105, 3) := by decide +kernel
theorem dX9_doPlay_207 : decode cX9_doPlay 207 = .ok (.aload_n 0, 1) := by decide +kernel
theorem dX9_doPlay_208 : decode cX9_doPlay 208 = .ok (.iload 5, 2) := by decide +kernel
theorem dX9_doPlay_210 : decode cX9_doPlay 210 = .ok (.bipush 6, 2) := by decide +kernel
theorem dX9_doPlay_212 : decode cX9_doPlay 212 = .ok (.iload_n 2, 1) := by decide +kernel
theorem dX9_doPlay_213 : decode cX9_doPlay 213 = .ok (.ifCond .le 14, 3) := by decide +kernel
theorem dX9_doPlay_216 : decode cX9_doPlay 216 = .ok (.iload 8, 2) := by decide +kernel
theorem dX9_doPlay_218 : decode cX9_doPlay 218 = .ok (.iload 7, 2) := by decide +kernel
theorem dX9_doPlay_220 : decode cX9_doPlay 220 = .ok (.if_icmp .gt 7, 3) := by decide +kernel
theorem dX9_doPlay_223 : decode cX9_doPlay 223 = .ok (.iconst 1, 1) := by decide +kernel
theorem dX9_doPlay_224 : decode cX9_doPlay 224 = .ok (.goto 4, 3) := by decide +kernel
theorem dX9_doPlay_227 : decode cX9_doPlay 227 = .ok (.iconst 0, 1) := by decide +kernel
theorem dX9_doPlay_228 : decode cX9_doPlay 228 = .ok (.invokevirtual 105, 3) := by decide +kernel
theorem dX9_doPlay_231 : decode cX9_doPlay 231 = .ok (.aload_n 0, 1) := by decide +kernel
theorem dX9_doPlay_232 : decode cX9_doPlay 232 = .ok (.iload 5, 2) := by decide +kernel
theorem dX9_doPlay_234 : decode cX9_doPlay 234 = .ok (.bipush 7, 2) := by decide +kernel
theorem dX9_doPlay_236 : decode cX9_doPlay 236 = .ok (.iload_n 3, 1) := by decide +kernel
theorem dX9_doPlay_237 : decode cX9_doPlay 237 = .ok (.invokevirtual 105, 3) := by decide +kernel
theorem dX9_doPlay_240 : decode cX9_doPlay 240 = .ok (.aload_n 0, 1) := by decide +kernel
theorem dX9_doPlay_241 : decode cX9_doPlay 241 = .ok (.iload 5, 2) := by decide +kernel
theorem dX9_doPlay_243 : decode cX9_doPlay 243 = .ok (.bipush 8, 2) := by decide +kernel
theorem dX9_doPlay_245 : decode cX9_doPlay 245 = .ok (.iload 9, 2) := by decide +kernel
theorem dX9_doPlay_247 : decode cX9_doPlay 247 = .ok (.invokevirtual 105, 3) := by decide +kernel
theorem dX9_doPlay_250 : decode cX9_doPlay 250 = .ok (.aload_n 0, 1) := by decide +kernel
theorem dX9_doPlay_251 : decode cX9_doPlay 251 = .ok (.iload 5, 2) := by decide +kernel
theorem dX9_doPlay_253 : decode cX9_doPlay 253 = .ok (.bipush 10, 2) := by decide +kernel
theorem dX9_doPlay_255 : decode cX9_doPlay 255 = .ok (.iload_n 2, 1) := by decide +kernel
theorem dX9_doPlay_256 : decode cX9_doPlay 256 = .ok (.ifCond .le 14, 3) := by decide +kernel
theorem dX9_doPlay_259 : decode cX9_doPlay 259 = .ok (.iload 8, 2) := by decide +kernel
theorem dX9_doPlay_261 : decode cX9_doPlay 261 = .ok (.iload 6, 2) := by decide +kernel
theorem dX9_doPlay_263 : decode cX9_doPlay 263 = .ok (.if_icmp .le 7, 3) := by decide +kernel
theorem dX9_doPlay_266 : decode cX9_doPlay 266 = .ok (.iconst 1, 1) := by decide +kernel
theorem dX9_doPlay_267 : decode cX9_doPlay 267 = .ok (.goto 4, 3) := by decide +kernel
theorem dX9_doPlay_270 : decode cX9_doPlay 270 = .ok (.iconst 0, 1) := by decide +kernel
theorem dX9_doPlay_271 : decode cX9_doPlay 271 = .ok (.invokevirtual 105, 3) := by decide +kernel
theorem dX9_doPlay_274 : decode cX9_doPlay 274 = .ok (.aload_n 0, 1) := by decide +kernel
theorem dX9_doPlay_275 : decode cX9_doPlay 275 = .ok (.getfield 7, 3) := by decide +kernel
theorem dX9_doPlay_278 : decode cX9_doPlay 278 = .ok (.bipush 9, 2) := by decide +kernel
theorem dX9_doPlay_280 : decode cX9_doPlay 280 = .ok (.bipush 11, 2) := by decide +kernel
theorem dX9_doPlay_282 : decode cX9_doPlay 282 = .ok (.iload 5, 2) := by decide +kernel
theorem dX9_doPlay_284 : decode cX9_doPlay 284 = .ok (.imul, 1) := by decide +kernel
theorem dX9_doPlay_285 : decode cX9_doPlay 285 = .ok (.iadd, 1) := by decide +kernel
theorem dX9_doPlay_286 : decode cX9_doPlay 286 = .ok (.bipush 9, 2) := by decide +kernel
theorem dX9_doPlay_288 : decode cX9_doPlay 288 = .ok (.iadd, 1) := by decide +kernel
theorem dX9_doPlay_289 : decode cX9_doPlay 289 = .ok (.aload_n 0, 1) := by decide +kernel
theorem dX9_doPlay_290 : decode cX9_doPlay 290 = .ok (.iload 5, 2) := by decide +kernel
theorem dX9_doPlay_292 : decode cX9_doPlay 292 = .ok (.bipush 9, 2) := by decide +kernel
theorem dX9_doPlay_294 : decode cX9_doPlay 294 = .ok (.invokevirtual 48, 3) := by decide +kernel
theorem dX9_doPlay_297 : decode cX9_doPlay 297 = .ok (.iload 11, 2) := by decide +kernel
theorem dX9_doPlay_299 : decode cX9_doPlay 299 = .ok (.invokestatic 86, 3) := by decide +kernel
theorem dX9_doPlay_302 : decode cX9_doPlay 302 = .ok (.iastore, 1) := by decide +kernel
theorem dX9_doPlay_303 : decode cX9_doPlay 303 = .ok (.aload_n 0, 1) := by decide +kernel
theorem dX9_doPlay_304 : decode cX9_doPlay 304 = .ok (.iload_n 1, 1) := by decide +kernel
theorem dX9_doPlay_305 : decode cX9_doPlay 305 = .ok (.iconst 3, 1) := by decide +kernel
theorem dX9_doPlay_306 : decode cX9_doPlay 306 = .ok (.iconst 1, 1) := by decide +kernel
theorem dX9_doPlay_307 : decode cX9_doPlay 307 = .ok (.invokevirtual 70, 3) := by decide +kernel
theorem dX9_doPlay_310 : decode cX9_doPlay 310 = .ok (.aload_n 0, 1) := by decide +kernel
theorem dX9_doPlay_311 : decode cX9_doPlay 311 = .ok (.iload_n 1, 1) := by decide +kernel
theorem dX9_doPlay_312 : decode cX9_doPlay 312 = .ok (.bipush 7, 2) := by decide +kernel
theorem dX9_doPlay_314 : decode cX9_doPlay 314 = .ok (.iload 10, 2) := by decide +kernel
theorem dX9_doPlay_316 : decode cX9_doPlay 316 = .ok (.invokevirtual 70, 3) := by decide +kernel
theorem dX9_doPlay_319 : decode cX9_doPlay 319 = .ok (.aload_n 0, 1) := by decide +kernel
theorem dX9_doPlay_320 : decode cX9_doPlay 320 = .ok (.iload_n 1, 1) := by decide +kernel
theorem dX9_doPlay_321 : decode cX9_doPlay 321 = .ok (.bipush 8, 2) := by decide +kernel
theorem dX9_doPlay_323 : decode cX9_doPlay 323 = .ok (.iload 9, 2) := by decide +kernel
theorem dX9_doPlay_325 : decode cX9_doPlay 325 = .ok (.invokevirtual 70, 3) := by decide +kernel
theorem dX9_doPlay_328 : decode cX9_doPlay 328 = .ok (.aload_n 0, 1) := by decide +kernel
theorem dX9_doPlay_329 : decode cX9_doPlay 329 = .ok (.iload_n 1, 1) := by decide +kernel
theorem dX9_doPlay_330 : decode cX9_doPlay 330 = .ok (.aload_n 0, 1) := by decide +kernel
theorem dX9_doPlay_331 : decode cX9_doPlay 331 = .ok (.aload_n 0, 1) := by decide +kernel
theorem dX9_doPlay_332 : decode cX9_doPlay 332 = .ok (.iload_n 1, 1) := by decide +kernel
theorem dX9_doPlay_333 : decode cX9_doPlay 333 = .ok (.iconst 4, 1) := by decide +kernel
theorem dX9_doPlay_334 : decode cX9_doPlay 334 = .ok (.invokevirtual 58, 3) := by decide +kernel
theorem dX9_doPlay_337 : decode cX9_doPlay 337 = .ok (.iload 11, 2) := by decide +kernel
theorem dX9_doPlay_339 : decode cX9_doPlay 339 = .ok (.invokevirtual 108, 3) := by decide +kernel
theorem dX9_doPlay_342 : decode cX9_doPlay 342 = .ok (.invokevirtual 95, 3) := by decide +kernel
theorem dX9_doPlay_345 : decode cX9_doPlay 345 = .ok (.iload 9, 2) := by decide +kernel
theorem dX9_doPlay_347 : decode cX9_doPlay 347 = .ok (.ireturn, 1) := by decide +kernel
theorem dX9_play_0 : decode cX9_play 0 = .ok (.aload_n 0, 1) := by decide +kernel
theorem dX9_play_1 : decode cX9_play 1 = .ok (.invokevirtual 33, 3) := by decide +kernel
theorem dX9_play_4 : decode cX9_play 4 = .ok (.aload_n 0, 1) := by decide +kernel
theorem dX9_play_5 : decode cX9_play 5 = .ok (.aload_n 0, 1) := by decide +kernel
theorem dX9_play_6 : decode cX9_play 6 = .ok (.iload_n 1, 1) := by decide +kernel
theorem dX9_play_7 : decode cX9_play 7 = .ok (.iload_n 2, 1) := by decide +kernel
theorem dX9_play_8 : decode cX9_play 8 = .ok (.iload_n 3, 1) := by decide +kernel
theorem dX9_play_9 : decode cX9_play 9 = .ok (.iload 4, 2) := by decide +kernel
theorem dX9_play_11 : decode cX9_play 11 = .ok (.invokevirtual 111, 3) := by decide +kernel
theorem dX9_play_14 : decode cX9_play 14 = .ok (.invokevirtual 40, 3) := by decide +kernel
theorem dX9_play_17 : decode cX9_play 17 = .ok (.ireturn, 1) := by decide +kernel
theorem dX9_take_0 : decode cX9_take 0 = .ok (.iload_n 1, 1) := by decide +kernel
theorem dX9_take_1 : decode cX9_take 1 = .ok (.iconst 0, 1) := by decide +kernel
theorem dX9_take_2 : decode cX9_take 2 = .ok (.iconst 1, 1) := by decide +kernel
theorem dX9_take_3 : decode cX9_take 3 = .ok (.invokestatic 29, 3) := by decide +kernel
theorem dX9_take_6 : decode cX9_take 6 = .ok (.ifCond .ne 5, 3) := by decide +kernel
theorem dX9_take_9 : decode cX9_take 9 = .ok (.iconst (-1), 1) := by decide +kernel
theorem dX9_take_10 : decode cX9_take 10 = .ok (.ireturn, 1) := by decide +kernel
theorem dX9_take_11 : decode cX9_take 11 = .ok (.aload_n 0, 1) := by decide +kernel
theorem dX9_take_12 : decode cX9_take 12 = .ok (.invokevirtual 33, 3) := by decide +kernel
theorem dX9_take_15 : decode cX9_take 15 = .ok (.sipush 517, 3) := by decide +kernel
theorem dX9_take_18 : decode cX9_take 18 = .ok (.sipush 518, 3) := by decide +kernel
theorem dX9_take_21 : decode cX9_take 21 = .ok (.iload_n 1, 1) := by decide +kernel
theorem dX9_take_22 : decode cX9_take 22 = .ok (.imul, 1) := by decide +kernel
theorem dX9_take_23 : decode cX9_take 23 = .ok (.iadd, 1) := by decide +kernel
theorem dX9_take_24 : decode cX9_take 24 = .ok (.istore_n 2, 1) := by decide +kernel
theorem dX9_take_25 : decode cX9_take 25 = .ok (.aload_n 0, 1) := by decide +kernel
theorem dX9_take_26 : decode cX9_take 26 = .ok (.getfield 7, 3) := by decide +kernel
theorem dX9_take_29 : decode cX9_take 29 = .ok (.iload_n 2, 1) := by decide +kernel
theorem dX9_take_30 : decode cX9_take 30 = .ok (.iconst 1, 1) := by decide +kernel
theorem dX9_take_31 : decode cX9_take 31 = .ok (.iastore, 1) := by decide +kernel
theorem dX9_take_32 : decode cX9_take 32 = .ok (.iconst 0, 1) := by decide +kernel
theorem dX9_take_33 : decode cX9_take 33 = .ok (.istore_n 3, 1) := by decide +kernel
theorem dX9_take_34 : decode cX9_take 34 = .ok (.iload_n 3, 1) := by decide +kernel
theorem dX9_take_35 : decode cX9_take 35 = .ok (.sipush 517, 3) := by decide +kernel
theorem dX9_take_38 : decode cX9_take 38 = .ok (.if_icmp .ge 25, 3) := by decide +kernel
theorem dX9_take_41 : decode cX9_take 41 = .ok (.aload_n 0, 1) := by decide +kernel
theorem dX9_take_42 : decode cX9_take 42 = .ok (.getfield 7, 3) := by decide +kernel
theorem dX9_take_45 : decode cX9_take 45 = .ok (.iload_n 2, 1) := by decide +kernel
theorem dX9_take_46 : decode cX9_take 46 = .ok (.iconst 1, 1) := by decide +kernel
theorem dX9_take_47 : decode cX9_take 47 = .ok (.iadd, 1) := by decide +kernel
theorem dX9_take_48 : decode cX9_take 48 = .ok (.iload_n 3, 1) := by decide +kernel
theorem dX9_take_49 : decode cX9_take 49 = .ok (.iadd, 1) := by decide +kernel
theorem dX9_take_50 : decode cX9_take 50 = .ok (.aload_n 0, 1) := by decide +kernel
theorem dX9_take_51 : decode cX9_take 51 = .ok (.getfield 7, 3) := by decide +kernel
theorem dX9_take_54 : decode cX9_take 54 = .ok (.iload_n 3, 1) := by decide +kernel
theorem dX9_take_55 : decode cX9_take 55 = .ok (.iaload, 1) := by decide +kernel
theorem dX9_take_56 : decode cX9_take 56 = .ok (.iastore, 1) := by decide +kernel
theorem dX9_take_57 : decode cX9_take 57 = .ok (.iinc 3 1, 3) := by decide +kernel
theorem dX9_take_60 : decode cX9_take 60 = .ok (.goto (-26), 3) := by decide +kernel
theorem dX9_take_63 : decode cX9_take 63 = .ok (.aload_n 0, 1) := by decide +kernel
theorem dX9_take_64 : decode cX9_take 64 = .ok (.aload_n 0, 1) := by decide +kernel
theorem dX9_take_65 : decode cX9_take 65 = .ok (.getfield 7, 3) := by decide +kernel
theorem dX9_take_68 : decode cX9_take 68 = .ok (.iconst 3, 1) := by decide +kernel
theorem dX9_take_69 : decode cX9_take 69 = .ok (.iaload, 1) := by decide +kernel
theorem dX9_take_70 : decode cX9_take 70 = .ok (.invokevirtual 40, 3) := by decide +kernel
theorem dX9_take_73 : decode cX9_take 73 = .ok (.ireturn, 1) := by decide +kernel
theorem dX9_restore_0 : decode cX9_restore 0 = .ok (.iload_n 1, 1) := by decide +kernel
theorem dX9_restore_1 : decode cX9_restore 1 = .ok (.iconst 0, 1) := by decide +kernel
theorem dX9_restore_2 : decode cX9_restore 2 = .ok (.iconst 1, 1) := by decide +kernel
theorem dX9_restore_3 : decode cX9_restore 3 = .ok (.invokestatic 29, 3) := by decide +kernel
theorem dX9_restore_6 : decode cX9_restore 6 = .ok (.ifCond .ne 5, 3) := by decide +kernel
theorem dX9_restore_9 : decode cX9_restore 9 = .ok (.iconst (-1), 1) := by decide +kernel
theorem dX9_restore_10 : decode cX9_restore 10 = .ok (.ireturn, 1) := by decide +kernel
theorem dX9_restore_11 : decode cX9_restore 11 = .ok (.sipush 517, 3) := by decide +kernel
theorem dX9_restore_14 : decode cX9_restore 14 = .ok (.sipush 518, 3) := by decide +kernel
theorem dX9_restore_17 : decode cX9_restore 17 = .ok (.iload_n 1, 1) := by decide +kernel
theorem dX9_restore_18 : decode cX9_restore 18 = .ok (.imul, 1) := by decide +kernel
theorem dX9_restore_19 : decode cX9_restore 19 = .ok (.iadd, 1) := by decide +kernel
theorem dX9_restore_20 : decode cX9_restore 20 = .ok (.istore_n 2, 1) := by decide +kernel
theorem dX9_restore_21 : decode cX9_restore 21 = .ok (.aload_n 0, 1) := by decide +kernel
theorem dX9_restore_22 : decode cX9_restore 22 = .ok (.getfield 7, 3) := by decide +kernel
theorem dX9_restore_25 : decode cX9_restore 25 = .ok (.iload_n 2, 1) := by decide +kernel
theorem dX9_restore_26 : decode cX9_restore 26 = .ok (.iaload, 1) := by decide +kernel
theorem dX9_restore_27 : decode cX9_restore 27 = .ok (.ifCond .ne 6, 3) := by decide +kernel
theorem dX9_restore_30 : decode cX9_restore 30 = .ok (.bipush (-2), 2) := by decide +kernel
theorem dX9_restore_32 : decode cX9_restore 32 = .ok (.ireturn, 1) := by decide +kernel
theorem dX9_restore_33 : decode cX9_restore 33 = .ok (.aload_n 0, 1) := by decide +kernel
theorem dX9_restore_34 : decode cX9_restore 34 = .ok (.invokevirtual 33, 3) := by decide +kernel
theorem dX9_restore_37 : decode cX9_restore 37 = .ok (.iconst 0, 1) := by decide +kernel
theorem dX9_restore_38 : decode cX9_restore 38 = .ok (.istore_n 3, 1) := by decide +kernel
theorem dX9_restore_39 : decode cX9_restore 39 = .ok (.iload_n 3, 1) := by decide +kernel
theorem dX9_restore_40 : decode cX9_restore 40 = .ok (.sipush 517, 3) := by decide +kernel
theorem dX9_restore_43 : decode cX9_restore 43 = .ok (.if_icmp .ge 25, 3) := by decide +kernel
theorem dX9_restore_46 : decode cX9_restore 46 = .ok (.aload_n 0, 1) := by decide +kernel
theorem dX9_restore_47 : decode cX9_restore 47 = .ok (.getfield 7, 3) := by decide +kernel
theorem dX9_restore_50 : decode cX9_restore 50 = .ok (.iload_n 3, 1) := by decide +kernel
theorem dX9_restore_51 : decode cX9_restore 51 = .ok (.aload_n 0, 1) := by decide +kernel
theorem dX9_restore_52 : decode cX9_restore 52 = .ok (.getfield 7, 3) := by decide +kernel
theorem dX9_restore_55 : decode cX9_restore 55 = .ok (.iload_n 2, 1) := by decide +kernel
theorem dX9_restore_56 : decode cX9_restore 56 = .ok (.iconst 1, 1) := by decide +kernel
theorem dX9_restore_57 : decode cX9_restore 57 = .ok (.iadd, 1) := by decide +kernel
theorem dX9_restore_58 : decode cX9_restore 58 = .ok (.iload_n 3, 1) := by decide +kernel
theorem dX9_restore_59 : decode cX9_restore 59 = .ok (.iadd, 1) := by decide +kernel
theorem dX9_restore_60 : decode cX9_restore 60 = .ok (.iaload, 1) := by decide +kernel
theorem dX9_restore_61 : decode cX9_restore 61 = .ok (.iastore, 1) := by decide +kernel
theorem dX9_restore_62 : decode cX9_restore 62 = .ok (.iinc 3 1, 3) := by decide +kernel
theorem dX9_restore_65 : decode cX9_restore 65 = .ok (.goto (-26), 3) := by decide +kernel
theorem dX9_restore_68 : decode cX9_restore 68 = .ok (.aload_n 0, 1) := by decide +kernel
theorem dX9_restore_69 : decode cX9_restore 69 = .ok (.aload_n 0, 1) := by decide +kernel
theorem dX9_restore_70 : decode cX9_restore 70 = .ok (.getfield 7, 3) := by decide +kernel
theorem dX9_restore_73 : decode cX9_restore 73 = .ok (.iconst 3, 1) := by decide +kernel
theorem dX9_restore_74 : decode cX9_restore 74 = .ok (.iaload, 1) := by decide +kernel
theorem dX9_restore_75 : decode cX9_restore 75 = .ok (.invokevirtual 40, 3) := by decide +kernel
theorem dX9_restore_78 : decode cX9_restore 78 = .ok (.ireturn, 1) := by decide +kernel
theorem dX9_undo_0 : decode cX9_undo 0 = .ok (.aload_n 0, 1) := by decide +kernel
theorem dX9_undo_1 : decode cX9_undo 1 = .ok (.getfield 25, 3) := by decide +kernel
theorem dX9_undo_4 : decode cX9_undo 4 = .ok (.ifCond .ne 6, 3) := by decide +kernel
theorem dX9_undo_7 : decode cX9_undo 7 = .ok (.bipush (-2), 2) := by decide +kernel
theorem dX9_undo_9 : decode cX9_undo 9 = .ok (.ireturn, 1) := by decide +kernel
theorem dX9_undo_10 : decode cX9_undo 10 = .ok (.aload_n 0, 1) := by decide +kernel
theorem dX9_undo_11 : decode cX9_undo 11 = .ok (.dup, 1) := by decide +kernel
theorem dX9_undo_12 : decode cX9_undo 12 = .ok (.getfield 25, 3) := by decide +kernel
theorem dX9_undo_15 : decode cX9_undo 15 = .ok (.iconst 1, 1) := by decide +kernel
theorem dX9_undo_16 : decode cX9_undo 16 = .ok (.isub, 1) := by decide +kernel
theorem dX9_undo_17 : decode cX9_undo 17 = .ok (.putfield 25, 3) := by decide +kernel
theorem dX9_undo_20 : decode cX9_undo 20 = .ok (.iconst 0, 1) := by decide +kernel
theorem dX9_undo_21 : decode cX9_undo 21 = .ok (.istore_n 1, 1) := by decide +kernel
theorem dX9_undo_22 : decode cX9_undo 22 = .ok (.iload_n 1, 1) := by decide +kernel
theorem dX9_undo_23 : decode cX9_undo 23 = .ok (.sipush 1553, 3) := by decide +kernel
theorem dX9_undo_26 : decode cX9_undo 26 = .ok (.if_icmp .ge 30, 3) := by decide +kernel
theorem dX9_undo_29 : decode cX9_undo 29 = .ok (.aload_n 0, 1) := by decide +kernel
theorem dX9_undo_30 : decode cX9_undo 30 = .ok (.getfield 7, 3) := by decide +kernel
theorem dX9_undo_33 : decode cX9_undo 33 = .ok (.iload_n 1, 1) := by decide +kernel
theorem dX9_undo_34 : decode cX9_undo 34 = .ok (.aload_n 0, 1) := by decide +kernel
theorem dX9_undo_35 : decode cX9_undo 35 = .ok (.getfield 13, 3) := by decide +kernel
theorem dX9_undo_38 : decode cX9_undo 38 = .ok (.sipush 1553, 3) := by decide +kernel
theorem dX9_undo_41 : decode cX9_undo 41 = .ok (.aload_n 0, 1) := by decide +kernel
theorem dX9_undo_42 : decode cX9_undo 42 = .ok (.getfield 25, 3) := by decide +kernel
theorem dX9_undo_45 : decode cX9_undo 45 = .ok (.imul, 1) := by decide +kernel
theorem dX9_undo_46 : decode cX9_undo 46 = .ok (.iload_n 1, 1) := by decide +kernel
theorem dX9_undo_47 : decode cX9_undo 47 = .ok (.iadd, 1) := by decide +kernel
theorem dX9_undo_48 : decode cX9_undo 48 = .ok (.iaload, 1) := by decide +kernel
theorem dX9_undo_49 : decode cX9_undo 49 = .ok (.iastore, 1) := by decide +kernel
theorem dX9_undo_50 : decode cX9_undo 50 = .ok (.iinc 1 1, 3) := by decide +kernel
theorem dX9_undo_53 : decode cX9_undo 53 = .ok (.goto (-31), 3) := by decide +kernel
theorem dX9_undo_56 : decode cX9_undo 56 = .ok (.aload_n 0, 1) := by decide +kernel
theorem dX9_undo_57 : decode cX9_undo 57 = .ok (.getfield 25, 3) := by decide +kernel
theorem dX9_undo_60 : decode cX9_undo 60 = .ok (.ireturn, 1) := by decide +kernel
theorem dX9_append_0 : decode cX9_append 0 = .ok (.iload_n 1, 1) := by decide +kernel
theorem dX9_append_1 : decode cX9_append 1 = .ok (.iconst 1, 1) := by decide +kernel
theorem dX9_append_2 : decode cX9_append 2 = .ok (.sipush 255, 3) := by decide +kernel
theorem dX9_append_5 : decode cX9_append 5 = .ok (.invokestatic 29, 3) := by decide +kernel
theorem dX9_append_8 : decode cX9_append 8 = .ok (.ifCond .ne 5, 3) := by decide +kernel
theorem dX9_append_11 : decode cX9_append 11 = .ok (.iconst (-1), 1) := by decide +kernel
theorem dX9_append_12 : decode cX9_append 12 = .ok (.ireturn, 1) := by decide +kernel
theorem dX9_append_13 : decode cX9_append 13 = .ok (.aload_n 0, 1) := by decide +kernel
theorem dX9_append_14 : decode cX9_append 14 = .ok (.getfield 114, 3) := by decide +kernel
theorem dX9_append_17 : decode cX9_append 17 = .ok (.sipush 140, 3) := by decide +kernel
theorem dX9_append_20 : decode cX9_append 20 = .ok (.if_icmp .ne 6, 3) := by decide +kernel
theorem dX9_append_23 : decode cX9_append 23 = .ok (.bipush (-3), 2) := by decide +kernel
theorem dX9_append_25 : decode cX9_append 25 = .ok (.ireturn, 1) := by decide +kernel
theorem dX9_append_26 : decode cX9_append 26 = .ok (.aload_n 0, 1) := by decide +kernel
theorem dX9_append_27 : decode cX9_append 27 = .ok (.getfield 19, 3) := by decide +kernel
theorem dX9_append_30 : decode cX9_append 30 = .ok (.aload_n 0, 1) := by decide +kernel
theorem dX9_append_31 : decode cX9_append 31 = .ok (.getfield 114, 3) := by decide +kernel
theorem dX9_append_34 : decode cX9_append 34 = .ok (.iload_n 1, 1) := by decide +kernel
theorem dX9_append_35 : decode cX9_append 35 = .ok (.iastore, 1) := by decide +kernel
theorem dX9_append_36 : decode cX9_append 36 = .ok (.aload_n 0, 1) := by decide +kernel
theorem dX9_append_37 : decode cX9_append 37 = .ok (.dup, 1) := by decide +kernel
theorem dX9_append_38 : decode cX9_append 38 = .ok (.getfield 114, 3) := by decide +kernel
theorem dX9_append_41 : decode cX9_append 41 = .ok (.iconst 1, 1) := by decide +kernel
theorem dX9_append_42 : decode cX9_append 42 = .ok (.iadd, 1) := by decide +kernel
theorem dX9_append_43 : decode cX9_append 43 = .ok (.putfield 114, 3) := by decide +kernel
theorem dX9_append_46 : decode cX9_append 46 = .ok (.aload_n 0, 1) := by decide +kernel
theorem dX9_append_47 : decode cX9_append 47 = .ok (.getfield 114, 3) := by decide +kernel
theorem dX9_append_50 : decode cX9_append 50 = .ok (.ireturn, 1) := by decide +kernel
theorem dX9_clearText_0 : decode cX9_clearText 0 = .ok (.aload_n 0, 1) := by decide +kernel
theorem dX9_clearText_1 : decode cX9_clearText 1 = .ok (.getfield 114, 3) := by decide +kernel
theorem dX9_clearText_4 : decode cX9_clearText 4 = .ok (.istore_n 1, 1) := by decide +kernel
theorem dX9_clearText_5 : decode cX9_clearText 5 = .ok (.aload_n 0, 1) := by decide +kernel
theorem dX9_clearText_6 : decode cX9_clearText 6 = .ok (.iconst 0, 1) := by decide +kernel
theorem dX9_clearText_7 : decode cX9_clearText 7 = .ok (.putfield 114, 3) := by decide +kernel
theorem dX9_clearText_10 : decode cX9_clearText 10 = .ok (.iload_n 1, 1) := by decide +kernel
theorem dX9_clearText_11 : decode cX9_clearText 11 = .ok (.ireturn, 1) := by decide +kernel
theorem dX9_isAt_0 : decode cX9_isAt 0 = .ok (.aload_n 0, 1) := by decide +kernel
theorem dX9_isAt_1 : decode cX9_isAt 1 = .ok (.getfield 117, 3) := by decide +kernel
theorem dX9_isAt_4 : decode cX9_isAt 4 = .ok (.aload_n 0, 1) := by decide +kernel
theorem dX9_isAt_5 : decode cX9_isAt 5 = .ok (.getfield 114, 3) := by decide +kernel
theorem dX9_isAt_8 : decode cX9_isAt 8 = .ok (.if_icmp .ge 24, 3) := by decide +kernel
theorem dX9_isAt_11 : decode cX9_isAt 11 = .ok (.aload_n 0, 1) := by decide +kernel
theorem dX9_isAt_12 : decode cX9_isAt 12 = .ok (.getfield 19, 3) := by decide +kernel
theorem dX9_isAt_15 : decode cX9_isAt 15 = .ok (.aload_n 0, 1) := by decide +kernel
theorem dX9_isAt_16 : decode cX9_isAt 16 = .ok (.getfield 117, 3) := by decide +kernel
theorem dX9_isAt_19 : decode cX9_isAt 19 = .ok (.iaload, 1) := by decide +kernel
theorem dX9_isAt_20 : decode cX9_isAt 20 = .ok (.iload_n 1, 1) := by decide +kernel
theorem dX9_isAt_21 : decode cX9_isAt 21 = .ok (.iload_n 2, 1) := by decide +kernel
theorem dX9_isAt_22 : decode cX9_isAt 22 = .ok (.invokestatic 29, 3) := by decide +kernel
theorem dX9_isAt_25 : decode cX9_isAt 25 = .ok (.ifCond .eq 7, 3) := by decide +kernel
theorem dX9_isAt_28 : decode cX9_isAt 28 = .ok (.iconst 1, 1) := by decide +kernel
theorem dX9_isAt_29 : decode cX9_isAt 29 = .ok (.goto 4, 3) := by decide +kernel
theorem dX9_isAt_32 : decode cX9_isAt 32 = .ok (.iconst 0, 1) := by decide +kernel
theorem dX9_isAt_33 : decode cX9_isAt 33 = .ok (.ireturn, 1) := by decide +kernel
theorem dX9_skips_0 : decode cX9_skips 0 = .ok (.aload_n 0, 1) := by decide +kernel
theorem dX9_skips_1 : decode cX9_skips 1 = .ok (.bipush 32, 2) := by decide +kernel
theorem dX9_skips_3 : decode cX9_skips 3 = .ok (.bipush 32, 2) := by decide +kernel
theorem dX9_skips_5 : decode cX9_skips 5 = .ok (.invokevirtual 120, 3) := by decide +kernel
theorem dX9_skips_8 : decode cX9_skips 8 = .ok (.ifCond .eq 16, 3) := by decide +kernel
theorem dX9_skips_11 : decode cX9_skips 11 = .ok (.aload_n 0, 1) := by decide +kernel
theorem dX9_skips_12 : decode cX9_skips 12 = .ok (.dup, 1) := by decide +kernel
theorem dX9_skips_13 : decode cX9_skips 13 = .ok (.getfield 117, 3) := by decide +kernel
theorem dX9_skips_16 : decode cX9_skips 16 = .ok (.iconst 1, 1) := by decide +kernel
theorem dX9_skips_17 : decode cX9_skips 17 = .ok (.iadd, 1) := by decide +kernel
theorem dX9_skips_18 : decode cX9_skips 18 = .ok (.putfield 117, 3) := by decide +kernel
theorem dX9_skips_21 : decode cX9_skips 21 = .ok (.goto (-21), 3) := by decide +kernel
theorem dX9_skips_24 : decode cX9_skips 24 = .ok (.aload_n 0, 1) := by decide +kernel
theorem dX9_skips_25 : decode cX9_skips 25 = .ok (.aload_n 0, 1) := by decide +kernel
theorem dX9_skips_26 : decode cX9_skips 26 = .ok (.getfield 117, 3) := by decide +kernel
theorem dX9_skips_29 : decode cX9_skips 29 = .ok (.putfield 124, 3) := by decide +kernel
theorem dX9_skips_32 : decode cX9_skips 32 = .ok (.return_, 1) := by decide +kernel
theorem dX9_manyOf_0 : decode cX9_manyOf 0 = .ok (.lload_n 0, 1) := by decide +kernel
theorem dX9_manyOf_1 : decode cX9_manyOf 1 = .ok (.ldc2_w 127, 3) := by decide +kernel
theorem dX9_manyOf_4 : decode cX9_manyOf 4 = .ok (.lcmp, 1) := by decide +kernel
theorem dX9_manyOf_5 : decode cX9_manyOf 5 = .ok (.ifCond .eq 19, 3) := by decide +kernel
theorem dX9_manyOf_8 : decode cX9_manyOf 8 = .ok (.lload_n 0, 1) := by decide +kernel
theorem dX9_manyOf_9 : decode cX9_manyOf 9 = .ok (.ldc2_w 129, 3) := by decide +kernel
theorem dX9_manyOf_12 : decode cX9_manyOf 12 = .ok (.lcmp, 1) := by decide +kernel
theorem dX9_manyOf_13 : decode cX9_manyOf 13 = .ok (.ifCond .eq 11, 3) := by decide +kernel
theorem dX9_manyOf_16 : decode cX9_manyOf 16 = .ok (.lload_n 0, 1) := by decide +kernel
theorem dX9_manyOf_17 : decode cX9_manyOf 17 = .ok (.ldc2_w 131, 3) := by decide +kernel
theorem dX9_manyOf_20 : decode cX9_manyOf 20 = .ok (.lcmp, 1) := by decide +kernel
theorem dX9_manyOf_21 : decode cX9_manyOf 21 = .ok (.ifCond .ne 5, 3) := by decide +kernel
theorem dX9_manyOf_24 : decode cX9_manyOf 24 = .ok (.iconst 4, 1) := by decide +kernel
theorem dX9_manyOf_25 : decode cX9_manyOf 25 = .ok (.ireturn, 1) := by decide +kernel
theorem dX9_manyOf_26 : decode cX9_manyOf 26 = .ok (.lload_n 0, 1) := by decide +kernel
theorem dX9_manyOf_27 : decode cX9_manyOf 27 = .ok (.ldc2_w 133, 3) := by decide +kernel
theorem dX9_manyOf_30 : decode cX9_manyOf 30 = .ok (.lcmp, 1) := by decide +kernel
theorem dX9_manyOf_31 : decode cX9_manyOf 31 = .ok (.ifCond .ne 7, 3) := by decide +kernel
theorem dX9_manyOf_34 : decode cX9_manyOf 34 = .ok (.iconst 3, 1) := by decide +kernel
theorem dX9_manyOf_35 : decode cX9_manyOf 35 = .ok (.goto 36, 3) := by decide +kernel
theorem dX9_manyOf_38 : decode cX9_manyOf 38 = .ok (.lload_n 0, 1) := by decide +kernel
theorem dX9_manyOf_39 : decode cX9_manyOf 39 = .ok (.ldc2_w 135, 3) := by decide +kernel
theorem dX9_manyOf_42 : decode cX9_manyOf 42 = .ok (.lcmp, 1) := by decide +kernel
theorem dX9_manyOf_43 : decode cX9_manyOf 43 = .ok (.ifCond .ne 7, 3) := by decide +kernel
theorem dX9_manyOf_46 : decode cX9_manyOf 46 = .ok (.iconst 2, 1) := by decide +kernel
theorem dX9_manyOf_47 : decode cX9_manyOf 47 = .ok (.goto 24, 3) := by decide +kernel
theorem dX9_manyOf_50 : decode cX9_manyOf 50 = .ok (.lload_n 0, 1) := by decide +kernel
theorem dX9_manyOf_51 : decode cX9_manyOf 51 = .ok (.ldc2_w 137, 3) := by decide +kernel
theorem dX9_manyOf_54 : decode cX9_manyOf 54 = .ok (.lcmp, 1) := by decide +kernel
theorem dX9_manyOf_55 : decode cX9_manyOf 55 = .ok (.ifCond .eq 11, 3) := by decide +kernel
theorem dX9_manyOf_58 : decode cX9_manyOf 58 = .ok (.lload_n 0, 1) := by decide +kernel
theorem dX9_manyOf_59 : decode cX9_manyOf 59 = .ok (.ldc2_w 139, 3) := by decide +kernel
theorem dX9_manyOf_62 : decode cX9_manyOf 62 = .ok (.lcmp, 1) := by decide +kernel
theorem dX9_manyOf_63 : decode cX9_manyOf 63 = .ok (.ifCond .ne 7, 3) := by decide +kernel
theorem dX9_manyOf_66 : decode cX9_manyOf 66 = .ok (.iconst 1, 1) := by decide +kernel
theorem dX9_manyOf_67 : decode cX9_manyOf 67 = .ok (.goto 4, 3) := by decide +kernel
theorem dX9_manyOf_70 : decode cX9_manyOf 70 = .ok (.iconst 0, 1) := by decide +kernel
theorem dX9_manyOf_71 : decode cX9_manyOf 71 = .ok (.ireturn, 1) := by decide +kernel
theorem dX9_isWord_0 : decode cX9_isWord 0 = .ok (.aload_n 0, 1) := by decide +kernel
theorem dX9_isWord_1 : decode cX9_isWord 1 = .ok (.invokevirtual 141, 3) := by decide +kernel
theorem dX9_isWord_4 : decode cX9_isWord 4 = .ok (.aload_n 0, 1) := by decide +kernel
theorem dX9_isWord_5 : decode cX9_isWord 5 = .ok (.lconst 0, 1) := by decide +kernel
theorem dX9_isWord_6 : decode cX9_isWord 6 = .ok (.putfield 144, 3) := by decide +kernel
theorem dX9_isWord_9 : decode cX9_isWord 9 = .ok (.aload_n 0, 1) := by decide +kernel
theorem dX9_isWord_10 : decode cX9_isWord 10 = .ok (.bipush 97, 2) := by decide +kernel
theorem dX9_isWord_12 : decode cX9_isWord 12 = .ok (.bipush 122, 2) := by decide +kernel
theorem dX9_isWord_14 : decode cX9_isWord 14 = .ok (.invokevirtual 120, 3) := by decide +kernel
theorem dX9_isWord_17 : decode cX9_isWord 17 = .ok (.ifCond .eq 55, 3) := by decide +kernel
theorem dX9_isWord_20 : decode cX9_isWord 20 = .ok (.aload_n 0, 1) := by decide +kernel
theorem dX9_isWord_21 : decode cX9_isWord 21 = .ok (.aload_n 0, 1) := by decide +kernel
theorem dX9_isWord_22 : decode cX9_isWord 22 = .ok (.getfield 117, 3) := by decide +kernel
theorem dX9_isWord_25 : decode cX9_isWord 25 = .ok (.aload_n 0, 1) := by decide +kernel
theorem dX9_isWord_26 : decode cX9_isWord 26 = .ok (.getfield 124, 3) := by decide +kernel
theorem dX9_isWord_29 : decode cX9_isWord 29 = .ok (.isub, 1) := by decide +kernel
theorem dX9_isWord_30 : decode cX9_isWord 30 = .ok (.iconst 4, 1) := by decide +kernel
theorem dX9_isWord_31 : decode cX9_isWord 31 = .ok (.if_icmp .ge 24, 3) := by decide +kernel
theorem dX9_isWord_34 : decode cX9_isWord 34 = .ok (.aload_n 0, 1) := by decide +kernel
theorem dX9_isWord_35 : decode cX9_isWord 35 = .ok (.getfield 144, 3) := by decide +kernel
theorem dX9_isWord_38 : decode cX9_isWord 38 = .ok (.bipush 8, 2) := by decide +kernel
theorem dX9_isWord_40 : decode cX9_isWord 40 = .ok (.lshl, 1) := by decide +kernel
theorem dX9_isWord_41 : decode cX9_isWord 41 = .ok (.aload_n 0, 1) := by decide +kernel
theorem dX9_isWord_42 : decode cX9_isWord 42 = .ok (.getfield 19, 3) := by decide +kernel
theorem dX9_isWord_45 : decode cX9_isWord 45 = .ok (.aload_n 0, 1) := by decide +kernel
theorem dX9_isWord_46 : decode cX9_isWord 46 = .ok (.getfield 117, 3) := by decide +kernel
theorem dX9_isWord_49 : decode cX9_isWord 49 = .ok (.iaload, 1) := by decide +kernel
theorem dX9_isWord_50 : decode cX9_isWord 50 = .ok (.i2l, 1) := by decide +kernel
theorem dX9_isWord_51 : decode cX9_isWord 51 = .ok (.lor, 1) := by decide +kernel
theorem dX9_isWord_52 : decode cX9_isWord 52 = .ok (.goto 4, 3) := by decide +kernel
theorem dX9_isWord_55 : decode cX9_isWord 55 = .ok (.lconst 0, 1) := by decide +kernel
theorem dX9_isWord_56 : decode cX9_isWord 56 = .ok (.putfield 144, 3) := by decide +kernel
theorem dX9_isWord_59 : decode cX9_isWord 59 = .ok (.aload_n 0, 1) := by decide +kernel
theorem dX9_isWord_60 : decode cX9_isWord 60 = .ok (.dup, 1) := by decide +kernel
theorem dX9_isWord_61 : decode cX9_isWord 61 = .ok (.getfield 117, 3) := by decide +kernel
theorem dX9_isWord_64 : decode cX9_isWord 64 = .ok (.iconst 1, 1) := by decide +kernel
theorem dX9_isWord_65 : decode cX9_isWord 65 = .ok (.iadd, 1) := by decide +kernel
theorem dX9_isWord_66 : decode cX9_isWord 66 = .ok (.putfield 117, 3) := by decide +kernel
theorem dX9_isWord_69 : decode cX9_isWord 69 = .ok (.goto (-60), 3) := by decide +kernel
theorem dX9_isWord_72 : decode cX9_isWord 72 = .ok (.aload_n 0, 1) := by decide +kernel
theorem dX9_isWord_73 : decode cX9_isWord 73 = .ok (.getfield 117, 3) := by decide +kernel
theorem dX9_isWord_76 : decode cX9_isWord 76 = .ok (.aload_n 0, 1) := by decide +kernel
theorem dX9_isWord_77 : decode cX9_isWord 77 = .ok (.getfield 124, 3) := by decide +kernel
theorem dX9_isWord_80 : decode cX9_isWord 80 = .ok (.isub, 1) := by decide +kernel
theorem dX9_isWord_81 : decode cX9_isWord 81 = .ok (.iconst 4, 1) := by decide +kernel
theorem dX9_isWord_82 : decode cX9_isWord 82 = .ok (.if_icmp .gt 17, 3) := by decide +kernel
theorem dX9_isWord_85 : decode cX9_isWord 85 = .ok (.aload_n 0, 1) := by decide +kernel
theorem dX9_isWord_86 : decode cX9_isWord 86 = .ok (.getfield 144, 3) := by decide +kernel
theorem dX9_isWord_89 : decode cX9_isWord 89 = .ok (.invokestatic 148, 3) := by decide +kernel
theorem dX9_isWord_92 : decode cX9_isWord 92 = .ok (.ifCond .le 7, 3) := by decide +kernel
theorem dX9_isWord_95 : decode cX9_isWord 95 = .ok (.iconst 1, 1) := by decide +kernel
theorem dX9_isWord_96 : decode cX9_isWord 96 = .ok (.goto 4, 3) := by decide +kernel
theorem dX9_isWord_99 : decode cX9_isWord 99 = .ok (.iconst 0, 1) := by decide +kernel
theorem dX9_isWord_100 : decode cX9_isWord 100 = .ok (.ireturn, 1) := by decide +kernel
theorem dX9_isNumber_0 : decode cX9_isNumber 0 = .ok (.aload_n 0, 1) := by decide +kernel
theorem dX9_isNumber_1 : decode cX9_isNumber 1 = .ok (.invokevirtual 141, 3) := by decide +kernel
theorem dX9_isNumber_4 : decode cX9_isNumber 4 = .ok (.iconst 0, 1) := by decide +kernel
theorem dX9_isNumber_5 : decode cX9_isNumber 5 = .ok (.istore_n 2, 1) := by decide +kernel
theorem dX9_isNumber_6 : decode cX9_isNumber 6 = .ok (.aload_n 0, 1) := by decide +kernel
theorem dX9_isNumber_7 : decode cX9_isNumber 7 = .ok (.bipush 48, 2) := by decide +kernel
theorem dX9_isNumber_9 : decode cX9_isNumber 9 = .ok (.bipush 57, 2) := by decide +kernel
theorem dX9_isNumber_11 : decode cX9_isNumber 11 = .ok (.invokevirtual 120, 3) := by decide +kernel
theorem dX9_isNumber_14 : decode cX9_isNumber 14 = .ok (.ifCond .eq 51, 3) := by decide +kernel
theorem dX9_isNumber_17 : decode cX9_isNumber 17 = .ok (.aload_n 0, 1) := by decide +kernel
theorem dX9_isNumber_18 : decode cX9_isNumber 18 = .ok (.getfield 117, 3) := by decide +kernel
theorem dX9_isNumber_21 : decode cX9_isNumber 21 = .ok (.aload_n 0, 1) := by decide +kernel
theorem dX9_isNumber_22 : decode cX9_isNumber 22 = .ok (.getfield 124, 3) := by decide +kernel
theorem dX9_isNumber_25 : decode cX9_isNumber 25 = .ok (.isub, 1) := by decide +kernel
theorem dX9_isNumber_26 : decode cX9_isNumber 26 = .ok (.iconst 4, 1) := by decide +kernel
theorem dX9_isNumber_27 : decode cX9_isNumber 27 = .ok (.if_icmp .ge 23, 3) := by decide +kernel
theorem dX9_isNumber_30 : decode cX9_isNumber 30 = .ok (.bipush 10, 2) := by decide +kernel
theorem dX9_isNumber_32 : decode cX9_isNumber 32 = .ok (.iload_n 2, 1) := by decide +kernel
theorem dX9_isNumber_33 : decode cX9_isNumber 33 = .ok (.imul, 1) := by decide +kernel
theorem dX9_isNumber_34 : decode cX9_isNumber 34 = .ok (.aload_n 0, 1) := by decide +kernel
theorem dX9_isNumber_35 : decode cX9_isNumber 35 = .ok (.getfield 19, 3) := by decide +kernel
theorem dX9_isNumber_38 : decode cX9_isNumber 38 = .ok (.aload_n 0, 1) := by decide +kernel
theorem dX9_isNumber_39 : decode cX9_isNumber 39 = .ok (.getfield 117, 3) := by decide +kernel
theorem dX9_isNumber_42 : decode cX9_isNumber 42 = .ok (.iaload, 1) := by decide +kernel
theorem dX9_isNumber_43 : decode cX9_isNumber 43 = .ok (.iadd, 1) := by decide +kernel
theorem dX9_isNumber_44 : decode cX9_isNumber 44 = .ok (.bipush 48, 2) := by decide +kernel
theorem dX9_isNumber_46 : decode cX9_isNumber 46 = .ok (.isub, 1) := by decide +kernel
theorem dX9_isNumber_47 : decode cX9_isNumber 47 = .ok (.goto 4, 3) := by decide +kernel
theorem dX9_isNumber_50 : decode cX9_isNumber 50 = .ok (.iload_n 2, 1) := by decide +kernel
theorem dX9_isNumber_51 : decode cX9_isNumber 51 = .ok (.istore_n 2, 1) := by decide +kernel
theorem dX9_isNumber_52 : decode cX9_isNumber 52 = .ok (.aload_n 0, 1) := by decide +kernel
theorem dX9_isNumber_53 : decode cX9_isNumber 53 = .ok (.dup, 1) := by decide +kernel
theorem dX9_isNumber_54 : decode cX9_isNumber 54 = .ok (.getfield 117, 3) := by decide +kernel
theorem dX9_isNumber_57 : decode cX9_isNumber 57 = .ok (.iconst 1, 1) := by decide +kernel
theorem dX9_isNumber_58 : decode cX9_isNumber 58 = .ok (.iadd, 1) := by decide +kernel
theorem dX9_isNumber_59 : decode cX9_isNumber 59 = .ok (.putfield 117, 3) := by decide +kernel
theorem dX9_isNumber_62 : decode cX9_isNumber 62 = .ok (.goto (-56), 3) := by decide +kernel
theorem dX9_isNumber_65 : decode cX9_isNumber 65 = .ok (.aload_n 0, 1) := by decide +kernel
theorem dX9_isNumber_66 : decode cX9_isNumber 66 = .ok (.getfield 22, 3) := by decide +kernel
theorem dX9_isNumber_69 : decode cX9_isNumber 69 = .ok (.iload_n 1, 1) := by decide +kernel
theorem dX9_isNumber_70 : decode cX9_isNumber 70 = .ok (.iload_n 2, 1) := by decide +kernel
theorem dX9_isNumber_71 : decode cX9_isNumber 71 = .ok (.iastore, 1) := by decide +kernel
theorem dX9_isNumber_72 : decode cX9_isNumber 72 = .ok (.aload_n 0, 1) := by decide +kernel
theorem dX9_isNumber_73 : decode cX9_isNumber 73 = .ok (.getfield 117, 3) := by decide +kernel
theorem dX9_isNumber_76 : decode cX9_isNumber 76 = .ok (.aload_n 0, 1) := by decide +kernel
theorem dX9_isNumber_77 : decode cX9_isNumber 77 = .ok (.getfield 124, 3) := by decide +kernel
theorem dX9_isNumber_80 : decode cX9_isNumber 80 = .ok (.isub, 1) := by decide +kernel
theorem dX9_isNumber_81 : decode cX9_isNumber 81 = .ok (.iconst 1, 1) := by decide +kernel
theorem dX9_isNumber_82 : decode cX9_isNumber 82 = .ok (.iconst 4, 1) := by decide +kernel
theorem dX9_isNumber_83 : decode cX9_isNumber 83 = .ok (.invokestatic 29, 3) := by decide +kernel
theorem dX9_isNumber_86 : decode cX9_isNumber 86 = .ok (.ifCond .eq 34, 3) := by decide +kernel
theorem dX9_isNumber_89 : decode cX9_isNumber 89 = .ok (.aload_n 0, 1) := by decide +kernel
theorem dX9_isNumber_90 : decode cX9_isNumber 90 = .ok (.getfield 117, 3) := by decide +kernel
theorem dX9_isNumber_93 : decode cX9_isNumber 93 = .ok (.aload_n 0, 1) := by decide +kernel
theorem dX9_isNumber_94 : decode cX9_isNumber 94 = .ok (.getfield 124, 3) := by decide +kernel
end
section
theorem dX9_isNumber_97 : decode cX9_isNumber 97 = .ok (.isub, 1) := by decide +kernel
theorem dX9_isNumber_98 : decode cX9_isNumber 98 = .ok (.iconst 1, 1) := by decide +kernel
theorem dX9_isNumber_99 : decode cX9_isNumber 99 = .ok (.if_icmp .eq 17, 3) := by decide +kernel
theorem dX9_isNumber_102 : decode cX9_isNumber 102 = .ok (.aload_n 0, 1) := by decide +kernel
theorem dX9_isNumber_103 : decode cX9_isNumber 103 = .ok (.getfield 19, 3) := by decide +kernel
theorem dX9_isNumber_106 : decode cX9_isNumber 106 = .ok (.aload_n 0, 1) := by decide +kernel
theorem dX9_isNumber_107 : decode cX9_isNumber 107 = .ok (.getfield 124, 3) := by decide +kernel
theorem dX9_isNumber_110 : decode cX9_isNumber 110 = .ok (.iaload, 1) := by decide +kernel
theorem dX9_isNumber_111 : decode cX9_isNumber 111 = .ok (.bipush 48, 2) := by decide +kernel
theorem dX9_isNumber_113 : decode cX9_isNumber 113 = .ok (.if_icmp .eq 7, 3) := by decide +kernel
theorem dX9_isNumber_116 : decode cX9_isNumber 116 = .ok (.iconst 1, 1) := by decide +kernel
theorem dX9_isNumber_117 : decode cX9_isNumber 117 = .ok (.goto 4, 3) := by decide +kernel
theorem dX9_isNumber_120 : decode cX9_isNumber 120 = .ok (.iconst 0, 1) := by decide +kernel
theorem dX9_isNumber_121 : decode cX9_isNumber 121 = .ok (.ireturn, 1) := by decide +kernel
theorem dX9_isStop_0 : decode cX9_isStop 0 = .ok (.aload_n 0, 1) := by decide +kernel
theorem dX9_isStop_1 : decode cX9_isStop 1 = .ok (.invokevirtual 141, 3) := by decide +kernel
theorem dX9_isStop_4 : decode cX9_isStop 4 = .ok (.aload_n 0, 1) := by decide +kernel
theorem dX9_isStop_5 : decode cX9_isStop 5 = .ok (.bipush 59, 2) := by decide +kernel
theorem dX9_isStop_7 : decode cX9_isStop 7 = .ok (.bipush 59, 2) := by decide +kernel
theorem dX9_isStop_9 : decode cX9_isStop 9 = .ok (.invokevirtual 120, 3) := by decide +kernel
theorem dX9_isStop_12 : decode cX9_isStop 12 = .ok (.istore_n 1, 1) := by decide +kernel
theorem dX9_isStop_13 : decode cX9_isStop 13 = .ok (.aload_n 0, 1) := by decide +kernel
theorem dX9_isStop_14 : decode cX9_isStop 14 = .ok (.dup, 1) := by decide +kernel
theorem dX9_isStop_15 : decode cX9_isStop 15 = .ok (.getfield 117, 3) := by decide +kernel
theorem dX9_isStop_18 : decode cX9_isStop 18 = .ok (.iload_n 1, 1) := by decide +kernel
theorem dX9_isStop_19 : decode cX9_isStop 19 = .ok (.ifCond .eq 7, 3) := by decide +kernel
theorem dX9_isStop_22 : decode cX9_isStop 22 = .ok (.iconst 1, 1) := by decide +kernel
theorem dX9_isStop_23 : decode cX9_isStop 23 = .ok (.goto 4, 3) := by decide +kernel
theorem dX9_isStop_26 : decode cX9_isStop 26 = .ok (.iconst 0, 1) := by decide +kernel
theorem dX9_isStop_27 : decode cX9_isStop 27 = .ok (.iadd, 1) := by decide +kernel
theorem dX9_isStop_28 : decode cX9_isStop 28 = .ok (.putfield 117, 3) := by decide +kernel
theorem dX9_isStop_31 : decode cX9_isStop 31 = .ok (.iload_n 1, 1) := by decide +kernel
theorem dX9_isStop_32 : decode cX9_isStop 32 = .ok (.ireturn, 1) := by decide +kernel
theorem dX9_does_0 : decode cX9_does 0 = .ok (.aload_n 0, 1) := by decide +kernel
theorem dX9_does_1 : decode cX9_does 1 = .ok (.getfield 22, 3) := by decide +kernel
theorem dX9_does_4 : decode cX9_does 4 = .ok (.iconst 0, 1) := by decide +kernel
theorem dX9_does_5 : decode cX9_does 5 = .ok (.iaload, 1) := by decide +kernel
theorem dX9_does_6 : decode cX9_does 6 = .ok (.istore_n 1, 1) := by decide +kernel
theorem dX9_does_7 : decode cX9_does 7 = .ok (.aload_n 0, 1) := by decide +kernel
theorem dX9_does_8 : decode cX9_does 8 = .ok (.getfield 22, 3) := by decide +kernel
theorem dX9_does_11 : decode cX9_does 11 = .ok (.iconst 1, 1) := by decide +kernel
theorem dX9_does_12 : decode cX9_does 12 = .ok (.iaload, 1) := by decide +kernel
theorem dX9_does_13 : decode cX9_does 13 = .ok (.istore_n 2, 1) := by decide +kernel
theorem dX9_does_14 : decode cX9_does 14 = .ok (.aload_n 0, 1) := by decide +kernel
theorem dX9_does_15 : decode cX9_does 15 = .ok (.getfield 22, 3) := by decide +kernel
theorem dX9_does_18 : decode cX9_does 18 = .ok (.iconst 2, 1) := by decide +kernel
theorem dX9_does_19 : decode cX9_does 19 = .ok (.iaload, 1) := by decide +kernel
theorem dX9_does_20 : decode cX9_does 20 = .ok (.istore_n 3, 1) := by decide +kernel
theorem dX9_does_21 : decode cX9_does 21 = .ok (.aload_n 0, 1) := by decide +kernel
theorem dX9_does_22 : decode cX9_does 22 = .ok (.getfield 22, 3) := by decide +kernel
theorem dX9_does_25 : decode cX9_does 25 = .ok (.iconst 3, 1) := by decide +kernel
theorem dX9_does_26 : decode cX9_does 26 = .ok (.iaload, 1) := by decide +kernel
theorem dX9_does_27 : decode cX9_does 27 = .ok (.istore 4, 2) := by decide +kernel
theorem dX9_does_29 : decode cX9_does 29 = .ok (.aload_n 0, 1) := by decide +kernel
theorem dX9_does_30 : decode cX9_does 30 = .ok (.getfield 144, 3) := by decide +kernel
theorem dX9_does_33 : decode cX9_does 33 = .ok (.ldc2_w 127, 3) := by decide +kernel
theorem dX9_does_36 : decode cX9_does 36 = .ok (.lcmp, 1) := by decide +kernel
theorem dX9_does_37 : decode cX9_does 37 = .ok (.ifCond .ne 13, 3) := by decide +kernel
theorem dX9_does_40 : decode cX9_does 40 = .ok (.aload_n 0, 1) := by decide +kernel
theorem dX9_does_41 : decode cX9_does 41 = .ok (.iload_n 1, 1) := by decide +kernel
theorem dX9_does_42 : decode cX9_does 42 = .ok (.iload_n 2, 1) := by decide +kernel
theorem dX9_does_43 : decode cX9_does 43 = .ok (.iload_n 3, 1) := by decide +kernel
theorem dX9_does_44 : decode cX9_does 44 = .ok (.iload 4, 2) := by decide +kernel
theorem dX9_does_46 : decode cX9_does 46 = .ok (.invokevirtual 36, 3) := by decide +kernel
theorem dX9_does_49 : decode cX9_does 49 = .ok (.ireturn, 1) := by decide +kernel
theorem dX9_does_50 : decode cX9_does 50 = .ok (.aload_n 0, 1) := by decide +kernel
theorem dX9_does_51 : decode cX9_does 51 = .ok (.getfield 144, 3) := by decide +kernel
theorem dX9_does_54 : decode cX9_does 54 = .ok (.ldc2_w 137, 3) := by decide +kernel
theorem dX9_does_57 : decode cX9_does 57 = .ok (.lcmp, 1) := by decide +kernel
theorem dX9_does_58 : decode cX9_does 58 = .ok (.ifCond .ne 9, 3) := by decide +kernel
theorem dX9_does_61 : decode cX9_does 61 = .ok (.aload_n 0, 1) := by decide +kernel
theorem dX9_does_62 : decode cX9_does 62 = .ok (.iload_n 1, 1) := by decide +kernel
theorem dX9_does_63 : decode cX9_does 63 = .ok (.invokevirtual 55, 3) := by decide +kernel
theorem dX9_does_66 : decode cX9_does 66 = .ok (.ireturn, 1) := by decide +kernel
theorem dX9_does_67 : decode cX9_does 67 = .ok (.aload_n 0, 1) := by decide +kernel
theorem dX9_does_68 : decode cX9_does 68 = .ok (.getfield 144, 3) := by decide +kernel
theorem dX9_does_71 : decode cX9_does 71 = .ok (.ldc2_w 133, 3) := by decide +kernel
theorem dX9_does_74 : decode cX9_does 74 = .ok (.lcmp, 1) := by decide +kernel
theorem dX9_does_75 : decode cX9_does 75 = .ok (.ifCond .eq 14, 3) := by decide +kernel
theorem dX9_does_78 : decode cX9_does 78 = .ok (.aload_n 0, 1) := by decide +kernel
theorem dX9_does_79 : decode cX9_does 79 = .ok (.getfield 144, 3) := by decide +kernel
theorem dX9_does_82 : decode cX9_does 82 = .ok (.ldc2_w 129, 3) := by decide +kernel
theorem dX9_does_85 : decode cX9_does 85 = .ok (.lcmp, 1) := by decide +kernel
theorem dX9_does_86 : decode cX9_does 86 = .ok (.ifCond .ne 28, 3) := by decide +kernel
theorem dX9_does_89 : decode cX9_does 89 = .ok (.aload_n 0, 1) := by decide +kernel
theorem dX9_does_90 : decode cX9_does 90 = .ok (.iload_n 1, 1) := by decide +kernel
theorem dX9_does_91 : decode cX9_does 91 = .ok (.iload_n 2, 1) := by decide +kernel
theorem dX9_does_92 : decode cX9_does 92 = .ok (.iload_n 3, 1) := by decide +kernel
theorem dX9_does_93 : decode cX9_does 93 = .ok (.aload_n 0, 1) := by decide +kernel
theorem dX9_does_94 : decode cX9_does 94 = .ok (.getfield 144, 3) := by decide +kernel
theorem dX9_does_97 : decode cX9_does 97 = .ok (.ldc2_w 129, 3) := by decide +kernel
theorem dX9_does_100 : decode cX9_does 100 = .ok (.lcmp, 1) := by decide +kernel
theorem dX9_does_101 : decode cX9_does 101 = .ok (.ifCond .ne 8, 3) := by decide +kernel
theorem dX9_does_104 : decode cX9_does 104 = .ok (.iload 4, 2) := by decide +kernel
theorem dX9_does_106 : decode cX9_does 106 = .ok (.goto 4, 3) := by decide +kernel
theorem dX9_does_109 : decode cX9_does 109 = .ok (.iconst (-1), 1) := by decide +kernel
theorem dX9_does_110 : decode cX9_does 110 = .ok (.invokevirtual 74, 3) := by decide +kernel
theorem dX9_does_113 : decode cX9_does 113 = .ok (.ireturn, 1) := by decide +kernel
theorem dX9_does_114 : decode cX9_does 114 = .ok (.aload_n 0, 1) := by decide +kernel
theorem dX9_does_115 : decode cX9_does 115 = .ok (.getfield 144, 3) := by decide +kernel
theorem dX9_does_118 : decode cX9_does 118 = .ok (.ldc2_w 131, 3) := by decide +kernel
theorem dX9_does_121 : decode cX9_does 121 = .ok (.lcmp, 1) := by decide +kernel
theorem dX9_does_122 : decode cX9_does 122 = .ok (.ifCond .ne 15, 3) := by decide +kernel
theorem dX9_does_125 : decode cX9_does 125 = .ok (.aload_n 0, 1) := by decide +kernel
theorem dX9_does_126 : decode cX9_does 126 = .ok (.iload_n 1, 1) := by decide +kernel
theorem dX9_does_127 : decode cX9_does 127 = .ok (.iload_n 2, 1) := by decide +kernel
theorem dX9_does_128 : decode cX9_does 128 = .ok (.iload_n 3, 1) := by decide +kernel
theorem dX9_does_129 : decode cX9_does 129 = .ok (.iload 4, 2) := by decide +kernel
theorem dX9_does_131 : decode cX9_does 131 = .ok (.invokevirtual 111, 3) := by decide +kernel
theorem dX9_does_134 : decode cX9_does 134 = .ok (.goto 28, 3) := by decide +kernel
theorem dX9_does_137 : decode cX9_does 137 = .ok (.aload_n 0, 1) := by decide +kernel
theorem dX9_does_138 : decode cX9_does 138 = .ok (.getfield 144, 3) := by decide +kernel
theorem dX9_does_141 : decode cX9_does 141 = .ok (.ldc2_w 139, 3) := by decide +kernel
theorem dX9_does_144 : decode cX9_does 144 = .ok (.lcmp, 1) := by decide +kernel
theorem dX9_does_145 : decode cX9_does 145 = .ok (.ifCond .ne 11, 3) := by decide +kernel
theorem dX9_does_148 : decode cX9_does 148 = .ok (.aload_n 0, 1) := by decide +kernel
theorem dX9_does_149 : decode cX9_does 149 = .ok (.iload_n 1, 1) := by decide +kernel
theorem dX9_does_150 : decode cX9_does 150 = .ok (.invokevirtual 99, 3) := by decide +kernel
theorem dX9_does_153 : decode cX9_does 153 = .ok (.goto 9, 3) := by decide +kernel
theorem dX9_does_156 : decode cX9_does 156 = .ok (.aload_n 0, 1) := by decide +kernel
theorem dX9_does_157 : decode cX9_does 157 = .ok (.iload_n 1, 1) := by decide +kernel
theorem dX9_does_158 : decode cX9_does 158 = .ok (.iload_n 2, 1) := by decide +kernel
theorem dX9_does_159 : decode cX9_does 159 = .ok (.invokevirtual 102, 3) := by decide +kernel
theorem dX9_does_162 : decode cX9_does 162 = .ok (.ireturn, 1) := by decide +kernel
theorem dX9_isDone_0 : decode cX9_isDone 0 = .ok (.aload_n 0, 1) := by decide +kernel
theorem dX9_isDone_1 : decode cX9_isDone 1 = .ok (.invokevirtual 152, 3) := by decide +kernel
theorem dX9_isDone_4 : decode cX9_isDone 4 = .ok (.ifCond .ne 5, 3) := by decide +kernel
theorem dX9_isDone_7 : decode cX9_isDone 7 = .ok (.iconst 0, 1) := by decide +kernel
theorem dX9_isDone_8 : decode cX9_isDone 8 = .ok (.ireturn, 1) := by decide +kernel
theorem dX9_isDone_9 : decode cX9_isDone 9 = .ok (.aload_n 0, 1) := by decide +kernel
theorem dX9_isDone_10 : decode cX9_isDone 10 = .ok (.getfield 124, 3) := by decide +kernel
theorem dX9_isDone_13 : decode cX9_isDone 13 = .ok (.istore_n 1, 1) := by decide +kernel
theorem dX9_isDone_14 : decode cX9_isDone 14 = .ok (.aload_n 0, 1) := by decide +kernel
theorem dX9_isDone_15 : decode cX9_isDone 15 = .ok (.getfield 144, 3) := by decide +kernel
theorem dX9_isDone_18 : decode cX9_isDone 18 = .ok (.invokestatic 148, 3) := by decide +kernel
theorem dX9_isDone_21 : decode cX9_isDone 21 = .ok (.istore_n 2, 1) := by decide +kernel
theorem dX9_isDone_22 : decode cX9_isDone 22 = .ok (.iconst 0, 1) := by decide +kernel
theorem dX9_isDone_23 : decode cX9_isDone 23 = .ok (.istore_n 3, 1) := by decide +kernel
theorem dX9_isDone_24 : decode cX9_isDone 24 = .ok (.iload_n 3, 1) := by decide +kernel
theorem dX9_isDone_25 : decode cX9_isDone 25 = .ok (.iload_n 2, 1) := by decide +kernel
theorem dX9_isDone_26 : decode cX9_isDone 26 = .ok (.if_icmp .ge 19, 3) := by decide +kernel
theorem dX9_isDone_29 : decode cX9_isDone 29 = .ok (.aload_n 0, 1) := by decide +kernel
theorem dX9_isDone_30 : decode cX9_isDone 30 = .ok (.iload_n 3, 1) := by decide +kernel
theorem dX9_isDone_31 : decode cX9_isDone 31 = .ok (.invokevirtual 156, 3) := by decide +kernel
theorem dX9_isDone_34 : decode cX9_isDone 34 = .ok (.ifCond .ne 5, 3) := by decide +kernel
theorem dX9_isDone_37 : decode cX9_isDone 37 = .ok (.iconst 0, 1) := by decide +kernel
theorem dX9_isDone_38 : decode cX9_isDone 38 = .ok (.ireturn, 1) := by decide +kernel
theorem dX9_isDone_39 : decode cX9_isDone 39 = .ok (.iinc 3 1, 3) := by decide +kernel
theorem dX9_isDone_42 : decode cX9_isDone 42 = .ok (.goto (-18), 3) := by decide +kernel
theorem dX9_isDone_45 : decode cX9_isDone 45 = .ok (.aload_n 0, 1) := by decide +kernel
theorem dX9_isDone_46 : decode cX9_isDone 46 = .ok (.invokevirtual 159, 3) := by decide +kernel
theorem dX9_isDone_49 : decode cX9_isDone 49 = .ok (.ifCond .ne 5, 3) := by decide +kernel
theorem dX9_isDone_52 : decode cX9_isDone 52 = .ok (.iconst 0, 1) := by decide +kernel
theorem dX9_isDone_53 : decode cX9_isDone 53 = .ok (.ireturn, 1) := by decide +kernel
theorem dX9_isDone_54 : decode cX9_isDone 54 = .ok (.aload_n 0, 1) := by decide +kernel
theorem dX9_isDone_55 : decode cX9_isDone 55 = .ok (.iload_n 1, 1) := by decide +kernel
theorem dX9_isDone_56 : decode cX9_isDone 56 = .ok (.putfield 124, 3) := by decide +kernel
theorem dX9_isDone_59 : decode cX9_isDone 59 = .ok (.aload_n 0, 1) := by decide +kernel
theorem dX9_isDone_60 : decode cX9_isDone 60 = .ok (.invokevirtual 162, 3) := by decide +kernel
theorem dX9_isDone_63 : decode cX9_isDone 63 = .ok (.ifCond .lt 7, 3) := by decide +kernel
theorem dX9_isDone_66 : decode cX9_isDone 66 = .ok (.iconst 1, 1) := by decide +kernel
theorem dX9_isDone_67 : decode cX9_isDone 67 = .ok (.goto 4, 3) := by decide +kernel
theorem dX9_isDone_70 : decode cX9_isDone 70 = .ok (.iconst 0, 1) := by decide +kernel
theorem dX9_isDone_71 : decode cX9_isDone 71 = .ok (.ireturn, 1) := by decide +kernel
theorem dX9_run_0 : decode cX9_run 0 = .ok (.aload_n 0, 1) := by decide +kernel
theorem dX9_run_1 : decode cX9_run 1 = .ok (.invokevirtual 33, 3) := by decide +kernel
theorem dX9_run_4 : decode cX9_run 4 = .ok (.aload_n 0, 1) := by decide +kernel
theorem dX9_run_5 : decode cX9_run 5 = .ok (.iconst 0, 1) := by decide +kernel
theorem dX9_run_6 : decode cX9_run 6 = .ok (.putfield 117, 3) := by decide +kernel
theorem dX9_run_9 : decode cX9_run 9 = .ok (.aload_n 0, 1) := by decide +kernel
theorem dX9_run_10 : decode cX9_run 10 = .ok (.invokevirtual 141, 3) := by decide +kernel
theorem dX9_run_13 : decode cX9_run 13 = .ok (.iconst 0, 1) := by decide +kernel
theorem dX9_run_14 : decode cX9_run 14 = .ok (.istore_n 1, 1) := by decide +kernel
theorem dX9_run_15 : decode cX9_run 15 = .ok (.aload_n 0, 1) := by decide +kernel
theorem dX9_run_16 : decode cX9_run 16 = .ok (.getfield 117, 3) := by decide +kernel
theorem dX9_run_19 : decode cX9_run 19 = .ok (.aload_n 0, 1) := by decide +kernel
theorem dX9_run_20 : decode cX9_run 20 = .ok (.getfield 114, 3) := by decide +kernel
theorem dX9_run_23 : decode cX9_run 23 = .ok (.if_icmp .ge 33, 3) := by decide +kernel
theorem dX9_run_26 : decode cX9_run 26 = .ok (.aload_n 0, 1) := by decide +kernel
theorem dX9_run_27 : decode cX9_run 27 = .ok (.invokevirtual 166, 3) := by decide +kernel
theorem dX9_run_30 : decode cX9_run 30 = .ok (.ifCond .ne 16, 3) := by decide +kernel
theorem dX9_run_33 : decode cX9_run 33 = .ok (.aload_n 0, 1) := by decide +kernel
theorem dX9_run_34 : decode cX9_run 34 = .ok (.invokevirtual 169, 3) := by decide +kernel
theorem dX9_run_37 : decode cX9_run 37 = .ok (.sipush (-1000), 3) := by decide +kernel
theorem dX9_run_40 : decode cX9_run 40 = .ok (.aload_n 0, 1) := by decide +kernel
theorem dX9_run_41 : decode cX9_run 41 = .ok (.getfield 124, 3) := by decide +kernel
theorem dX9_run_44 : decode cX9_run 44 = .ok (.isub, 1) := by decide +kernel
theorem dX9_run_45 : decode cX9_run 45 = .ok (.ireturn, 1) := by decide +kernel
theorem dX9_run_46 : decode cX9_run 46 = .ok (.iinc 1 1, 3) := by decide +kernel
theorem dX9_run_49 : decode cX9_run 49 = .ok (.aload_n 0, 1) := by decide +kernel
theorem dX9_run_50 : decode cX9_run 50 = .ok (.invokevirtual 141, 3) := by decide +kernel
theorem dX9_run_53 : decode cX9_run 53 = .ok (.goto (-38), 3) := by decide +kernel
theorem dX9_run_56 : decode cX9_run 56 = .ok (.aload_n 0, 1) := by decide +kernel
theorem dX9_run_57 : decode cX9_run 57 = .ok (.iconst 0, 1) := by decide +kernel
theorem dX9_run_58 : decode cX9_run 58 = .ok (.putfield 114, 3) := by decide +kernel
theorem dX9_run_61 : decode cX9_run 61 = .ok (.aload_n 0, 1) := by decide +kernel
theorem dX9_run_62 : decode cX9_run 62 = .ok (.iload_n 1, 1) := by decide +kernel
theorem dX9_run_63 : decode cX9_run 63 = .ok (.invokevirtual 40, 3) := by decide +kernel
theorem dX9_run_66 : decode cX9_run 66 = .ok (.ireturn, 1) := by decide +kernel
theorem dX9_inState_0 : decode cX9_inState 0 = .ok (.iconst 0, 1) := by decide +kernel
theorem dX9_inState_1 : decode cX9_inState 1 = .ok (.istore_n 2, 1) := by decide +kernel
theorem dX9_inState_2 : decode cX9_inState 2 = .ok (.iconst 0, 1) := by decide +kernel
theorem dX9_inState_3 : decode cX9_inState 3 = .ok (.istore_n 3, 1) := by decide +kernel
theorem dX9_inState_4 : decode cX9_inState 4 = .ok (.iload_n 3, 1) := by decide +kernel
theorem dX9_inState_5 : decode cX9_inState 5 = .ok (.aload_n 0, 1) := by decide +kernel
theorem dX9_inState_6 : decode cX9_inState 6 = .ok (.getfield 7, 3) := by decide +kernel
theorem dX9_inState_9 : decode cX9_inState 9 = .ok (.iconst 1, 1) := by decide +kernel
theorem dX9_inState_10 : decode cX9_inState 10 = .ok (.iaload, 1) := by decide +kernel
theorem dX9_inState_11 : decode cX9_inState 11 = .ok (.if_icmp .ge 27, 3) := by decide +kernel
theorem dX9_inState_14 : decode cX9_inState 14 = .ok (.iload_n 2, 1) := by decide +kernel
theorem dX9_inState_15 : decode cX9_inState 15 = .ok (.aload_n 0, 1) := by decide +kernel
theorem dX9_inState_16 : decode cX9_inState 16 = .ok (.iload_n 3, 1) := by decide +kernel
theorem dX9_inState_17 : decode cX9_inState 17 = .ok (.iconst 3, 1) := by decide +kernel
theorem dX9_inState_18 : decode cX9_inState 18 = .ok (.invokevirtual 58, 3) := by decide +kernel
theorem dX9_inState_21 : decode cX9_inState 21 = .ok (.iload_n 1, 1) := by decide +kernel
theorem dX9_inState_22 : decode cX9_inState 22 = .ok (.if_icmp .ne 7, 3) := by decide +kernel
theorem dX9_inState_25 : decode cX9_inState 25 = .ok (.iconst 1, 1) := by decide +kernel
theorem dX9_inState_26 : decode cX9_inState 26 = .ok (.goto 4, 3) := by decide +kernel
theorem dX9_inState_29 : decode cX9_inState 29 = .ok (.iconst 0, 1) := by decide +kernel
theorem dX9_inState_30 : decode cX9_inState 30 = .ok (.iadd, 1) := by decide +kernel
theorem dX9_inState_31 : decode cX9_inState 31 = .ok (.istore_n 2, 1) := by decide +kernel
theorem dX9_inState_32 : decode cX9_inState 32 = .ok (.iinc 3 1, 3) := by decide +kernel
theorem dX9_inState_35 : decode cX9_inState 35 = .ok (.goto (-31), 3) := by decide +kernel
theorem dX9_inState_38 : decode cX9_inState 38 = .ok (.iload_n 2, 1) := by decide +kernel
theorem dX9_inState_39 : decode cX9_inState 39 = .ok (.ireturn, 1) := by decide +kernel
theorem dX9_count_0 : decode cX9_count 0 = .ok (.iload_n 1, 1) := by decide +kernel
theorem dX9_count_1 : decode cX9_count 1 = .ok (.tableswitch 74 0 5 #[39, 39, 39, 46, 64, 69], 39) := by decide +kernel
theorem dX9_count_40 : decode cX9_count 40 = .ok (.aload_n 0, 1) := by decide +kernel
theorem dX9_count_41 : decode cX9_count 41 = .ok (.getfield 7, 3) := by decide +kernel
theorem dX9_count_44 : decode cX9_count 44 = .ok (.iload_n 1, 1) := by decide +kernel
theorem dX9_count_45 : decode cX9_count 45 = .ok (.iaload, 1) := by decide +kernel
theorem dX9_count_46 : decode cX9_count 46 = .ok (.ireturn, 1) := by decide +kernel
theorem dX9_count_47 : decode cX9_count 47 = .ok (.aload_n 0, 1) := by decide +kernel
theorem dX9_count_48 : decode cX9_count 48 = .ok (.getfield 7, 3) := by decide +kernel
theorem dX9_count_51 : decode cX9_count 51 = .ok (.sipush 517, 3) := by decide +kernel
theorem dX9_count_54 : decode cX9_count 54 = .ok (.iaload, 1) := by decide +kernel
theorem dX9_count_55 : decode cX9_count 55 = .ok (.aload_n 0, 1) := by decide +kernel
theorem dX9_count_56 : decode cX9_count 56 = .ok (.getfield 7, 3) := by decide +kernel
theorem dX9_count_59 : decode cX9_count 59 = .ok (.sipush 1035, 3) := by decide +kernel
theorem dX9_count_62 : decode cX9_count 62 = .ok (.iaload, 1) := by decide +kernel
theorem dX9_count_63 : decode cX9_count 63 = .ok (.iadd, 1) := by decide +kernel
theorem dX9_count_64 : decode cX9_count 64 = .ok (.ireturn, 1) := by decide +kernel
theorem dX9_count_65 : decode cX9_count 65 = .ok (.aload_n 0, 1) := by decide +kernel
theorem dX9_count_66 : decode cX9_count 66 = .ok (.getfield 25, 3) := by decide +kernel
theorem dX9_count_69 : decode cX9_count 69 = .ok (.ireturn, 1) := by decide +kernel
theorem dX9_count_70 : decode cX9_count 70 = .ok (.aload_n 0, 1) := by decide +kernel
theorem dX9_count_71 : decode cX9_count 71 = .ok (.getfield 114, 3) := by decide +kernel
theorem dX9_count_74 : decode cX9_count 74 = .ok (.ireturn, 1) := by decide +kernel
theorem dX9_count_75 : decode cX9_count 75 = .ok (.iload_n 1, 1) := by decide +kernel
theorem dX9_count_76 : decode cX9_count 76 = .ok (.bipush 6, 2) := by decide +kernel
theorem dX9_count_78 : decode cX9_count 78 = .ok (.bipush 10, 2) := by decide +kernel
theorem dX9_count_80 : decode cX9_count 80 = .ok (.invokestatic 29, 3) := by decide +kernel
theorem dX9_count_83 : decode cX9_count 83 = .ok (.ifCond .eq 17, 3) := by decide +kernel
theorem dX9_count_86 : decode cX9_count 86 = .ok (.aload_n 0, 1) := by decide +kernel
theorem dX9_count_87 : decode cX9_count 87 = .ok (.getfield 7, 3) := by decide +kernel
theorem dX9_count_90 : decode cX9_count 90 = .ok (.iconst 4, 1) := by decide +kernel
theorem dX9_count_91 : decode cX9_count 91 = .ok (.iload_n 1, 1) := by decide +kernel
theorem dX9_count_92 : decode cX9_count 92 = .ok (.iadd, 1) := by decide +kernel
theorem dX9_count_93 : decode cX9_count 93 = .ok (.bipush 6, 2) := by decide +kernel
theorem dX9_count_95 : decode cX9_count 95 = .ok (.isub, 1) := by decide +kernel
theorem dX9_count_96 : decode cX9_count 96 = .ok (.iaload, 1) := by decide +kernel
theorem dX9_count_97 : decode cX9_count 97 = .ok (.goto 26, 3) := by decide +kernel
theorem dX9_count_100 : decode cX9_count 100 = .ok (.iload_n 1, 1) := by decide +kernel
theorem dX9_count_101 : decode cX9_count 101 = .ok (.bipush 11, 2) := by decide +kernel
theorem dX9_count_103 : decode cX9_count 103 = .ok (.bipush 14, 2) := by decide +kernel
theorem dX9_count_105 : decode cX9_count 105 = .ok (.invokestatic 29, 3) := by decide +kernel
theorem dX9_count_108 : decode cX9_count 108 = .ok (.ifCond .eq 14, 3) := by decide +kernel
theorem dX9_count_111 : decode cX9_count 111 = .ok (.aload_n 0, 1) := by decide +kernel
theorem dX9_count_112 : decode cX9_count 112 = .ok (.iload_n 1, 1) := by decide +kernel
theorem dX9_count_113 : decode cX9_count 113 = .ok (.bipush 11, 2) := by decide +kernel
theorem dX9_count_115 : decode cX9_count 115 = .ok (.isub, 1) := by decide +kernel
theorem dX9_count_116 : decode cX9_count 116 = .ok (.invokevirtual 172, 3) := by decide +kernel
theorem dX9_count_119 : decode cX9_count 119 = .ok (.goto 4, 3) := by decide +kernel
theorem dX9_count_122 : decode cX9_count 122 = .ok (.iconst (-1), 1) := by decide +kernel
theorem dX9_count_123 : decode cX9_count 123 = .ok (.ireturn, 1) := by decide +kernel
theorem dX9_room_0 : decode cX9_room 0 = .ok (.aload_n 0, 1) := by decide +kernel
theorem dX9_room_1 : decode cX9_room 1 = .ok (.iload_n 1, 1) := by decide +kernel
theorem dX9_room_2 : decode cX9_room 2 = .ok (.invokevirtual 44, 3) := by decide +kernel
theorem dX9_room_5 : decode cX9_room 5 = .ok (.ifCond .eq 13, 3) := by decide +kernel
theorem dX9_room_8 : decode cX9_room 8 = .ok (.iload_n 2, 1) := by decide +kernel
theorem dX9_room_9 : decode cX9_room 9 = .ok (.iconst 0, 1) := by decide +kernel
theorem dX9_room_10 : decode cX9_room 10 = .ok (.bipush 11, 2) := by decide +kernel
theorem dX9_room_12 : decode cX9_room 12 = .ok (.invokestatic 29, 3) := by decide +kernel
theorem dX9_room_15 : decode cX9_room 15 = .ok (.ifCond .ne 5, 3) := by decide +kernel
theorem dX9_room_18 : decode cX9_room 18 = .ok (.iconst (-1), 1) := by decide +kernel
theorem dX9_room_19 : decode cX9_room 19 = .ok (.ireturn, 1) := by decide +kernel
theorem dX9_room_20 : decode cX9_room 20 = .ok (.iload_n 2, 1) := by decide +kernel
theorem dX9_room_21 : decode cX9_room 21 = .ok (.bipush 11, 2) := by decide +kernel
theorem dX9_room_23 : decode cX9_room 23 = .ok (.if_icmp .ge 12, 3) := by decide +kernel
theorem dX9_room_26 : decode cX9_room 26 = .ok (.aload_n 0, 1) := by decide +kernel
theorem dX9_room_27 : decode cX9_room 27 = .ok (.iload_n 1, 1) := by decide +kernel
theorem dX9_room_28 : decode cX9_room 28 = .ok (.iload_n 2, 1) := by decide +kernel
theorem dX9_room_29 : decode cX9_room 29 = .ok (.invokevirtual 48, 3) := by decide +kernel
theorem dX9_room_32 : decode cX9_room 32 = .ok (.goto 9, 3) := by decide +kernel
theorem dX9_room_35 : decode cX9_room 35 = .ok (.aload_n 0, 1) := by decide +kernel
theorem dX9_room_36 : decode cX9_room 36 = .ok (.iload_n 1, 1) := by decide +kernel
theorem dX9_room_37 : decode cX9_room 37 = .ok (.iconst (-1), 1) := by decide +kernel
theorem dX9_room_38 : decode cX9_room 38 = .ok (.invokevirtual 83, 3) := by decide +kernel
theorem dX9_room_41 : decode cX9_room 41 = .ok (.ireturn, 1) := by decide +kernel
theorem dX9_paymentsOf_0 : decode cX9_paymentsOf 0 = .ok (.iconst 0, 1) := by decide +kernel
theorem dX9_paymentsOf_1 : decode cX9_paymentsOf 1 = .ok (.istore_n 2, 1) := by decide +kernel
theorem dX9_paymentsOf_2 : decode cX9_paymentsOf 2 = .ok (.iconst 0, 1) := by decide +kernel
theorem dX9_paymentsOf_3 : decode cX9_paymentsOf 3 = .ok (.istore_n 3, 1) := by decide +kernel
theorem dX9_paymentsOf_4 : decode cX9_paymentsOf 4 = .ok (.iload_n 3, 1) := by decide +kernel
theorem dX9_paymentsOf_5 : decode cX9_paymentsOf 5 = .ok (.aload_n 0, 1) := by decide +kernel
theorem dX9_paymentsOf_6 : decode cX9_paymentsOf 6 = .ok (.getfield 7, 3) := by decide +kernel
theorem dX9_paymentsOf_9 : decode cX9_paymentsOf 9 = .ok (.sipush 197, 3) := by decide +kernel
theorem dX9_paymentsOf_12 : decode cX9_paymentsOf 12 = .ok (.iload_n 1, 1) := by decide +kernel
theorem dX9_paymentsOf_13 : decode cX9_paymentsOf 13 = .ok (.iadd, 1) := by decide +kernel
theorem dX9_paymentsOf_14 : decode cX9_paymentsOf 14 = .ok (.iaload, 1) := by decide +kernel
theorem dX9_paymentsOf_15 : decode cX9_paymentsOf 15 = .ok (.if_icmp .ge 44, 3) := by decide +kernel
theorem dX9_paymentsOf_18 : decode cX9_paymentsOf 18 = .ok (.iload_n 2, 1) := by decide +kernel
theorem dX9_paymentsOf_19 : decode cX9_paymentsOf 19 = .ok (.aload_n 0, 1) := by decide +kernel
theorem dX9_paymentsOf_20 : decode cX9_paymentsOf 20 = .ok (.getfield 7, 3) := by decide +kernel
theorem dX9_paymentsOf_23 : decode cX9_paymentsOf 23 = .ok (.sipush 485, 3) := by decide +kernel
theorem dX9_paymentsOf_26 : decode cX9_paymentsOf 26 = .ok (.aload_n 0, 1) := by decide +kernel
theorem dX9_paymentsOf_27 : decode cX9_paymentsOf 27 = .ok (.getfield 7, 3) := by decide +kernel
theorem dX9_paymentsOf_30 : decode cX9_paymentsOf 30 = .ok (.sipush 213, 3) := by decide +kernel
theorem dX9_paymentsOf_33 : decode cX9_paymentsOf 33 = .ok (.bipush 16, 2) := by decide +kernel
theorem dX9_paymentsOf_35 : decode cX9_paymentsOf 35 = .ok (.iload_n 1, 1) := by decide +kernel
theorem dX9_paymentsOf_36 : decode cX9_paymentsOf 36 = .ok (.imul, 1) := by decide +kernel
theorem dX9_paymentsOf_37 : decode cX9_paymentsOf 37 = .ok (.iadd, 1) := by decide +kernel
theorem dX9_paymentsOf_38 : decode cX9_paymentsOf 38 = .ok (.iload_n 3, 1) := by decide +kernel
theorem dX9_paymentsOf_39 : decode cX9_paymentsOf 39 = .ok (.iadd, 1) := by decide +kernel
theorem dX9_paymentsOf_40 : decode cX9_paymentsOf 40 = .ok (.iaload, 1) := by decide +kernel
theorem dX9_paymentsOf_41 : decode cX9_paymentsOf 41 = .ok (.iadd, 1) := by decide +kernel
theorem dX9_paymentsOf_42 : decode cX9_paymentsOf 42 = .ok (.iaload, 1) := by decide +kernel
theorem dX9_paymentsOf_43 : decode cX9_paymentsOf 43 = .ok (.ifCond .le 7, 3) := by decide +kernel
theorem dX9_paymentsOf_46 : decode cX9_paymentsOf 46 = .ok (.iconst 1, 1) := by decide +kernel
theorem dX9_paymentsOf_47 : decode cX9_paymentsOf 47 = .ok (.goto 4, 3) := by decide +kernel
theorem dX9_paymentsOf_50 : decode cX9_paymentsOf 50 = .ok (.iconst 0, 1) := by decide +kernel
theorem dX9_paymentsOf_51 : decode cX9_paymentsOf 51 = .ok (.iadd, 1) := by decide +kernel
theorem dX9_paymentsOf_52 : decode cX9_paymentsOf 52 = .ok (.istore_n 2, 1) := by decide +kernel
theorem dX9_paymentsOf_53 : decode cX9_paymentsOf 53 = .ok (.iinc 3 1, 3) := by decide +kernel
theorem dX9_paymentsOf_56 : decode cX9_paymentsOf 56 = .ok (.goto (-52), 3) := by decide +kernel
theorem dX9_paymentsOf_59 : decode cX9_paymentsOf 59 = .ok (.iload_n 2, 1) := by decide +kernel
theorem dX9_paymentsOf_60 : decode cX9_paymentsOf 60 = .ok (.ireturn, 1) := by decide +kernel
theorem dX9_booking_0 : decode cX9_booking 0 = .ok (.aload_n 0, 1) := by decide +kernel
theorem dX9_booking_1 : decode cX9_booking 1 = .ok (.iload_n 1, 1) := by decide +kernel
theorem dX9_booking_2 : decode cX9_booking 2 = .ok (.invokevirtual 77, 3) := by decide +kernel
theorem dX9_booking_5 : decode cX9_booking 5 = .ok (.ifCond .eq 13, 3) := by decide +kernel
theorem dX9_booking_8 : decode cX9_booking 8 = .ok (.iload_n 2, 1) := by decide +kernel
theorem dX9_booking_9 : decode cX9_booking 9 = .ok (.iconst 0, 1) := by decide +kernel
theorem dX9_booking_10 : decode cX9_booking 10 = .ok (.bipush 10, 2) := by decide +kernel
theorem dX9_booking_12 : decode cX9_booking 12 = .ok (.invokestatic 29, 3) := by decide +kernel
theorem dX9_booking_15 : decode cX9_booking 15 = .ok (.ifCond .ne 5, 3) := by decide +kernel
theorem dX9_booking_18 : decode cX9_booking 18 = .ok (.iconst (-1), 1) := by decide +kernel
theorem dX9_booking_19 : decode cX9_booking 19 = .ok (.ireturn, 1) := by decide +kernel
theorem dX9_booking_20 : decode cX9_booking 20 = .ok (.iload_n 2, 1) := by decide +kernel
theorem dX9_booking_21 : decode cX9_booking 21 = .ok (.bipush 6, 2) := by decide +kernel
theorem dX9_booking_23 : decode cX9_booking 23 = .ok (.if_icmp .ge 12, 3) := by decide +kernel
theorem dX9_booking_26 : decode cX9_booking 26 = .ok (.aload_n 0, 1) := by decide +kernel
theorem dX9_booking_27 : decode cX9_booking 27 = .ok (.iload_n 1, 1) := by decide +kernel
theorem dX9_booking_28 : decode cX9_booking 28 = .ok (.iload_n 2, 1) := by decide +kernel
theorem dX9_booking_29 : decode cX9_booking 29 = .ok (.invokevirtual 58, 3) := by decide +kernel
theorem dX9_booking_32 : decode cX9_booking 32 = .ok (.goto 39, 3) := by decide +kernel
theorem dX9_booking_35 : decode cX9_booking 35 = .ok (.iload_n 2, 1) := by decide +kernel
theorem dX9_booking_36 : decode cX9_booking 36 = .ok (.bipush 6, 2) := by decide +kernel
theorem dX9_booking_38 : decode cX9_booking 38 = .ok (.if_icmp .ne 11, 3) := by decide +kernel
theorem dX9_booking_41 : decode cX9_booking 41 = .ok (.aload_n 0, 1) := by decide +kernel
theorem dX9_booking_42 : decode cX9_booking 42 = .ok (.iload_n 1, 1) := by decide +kernel
theorem dX9_booking_43 : decode cX9_booking 43 = .ok (.invokevirtual 89, 3) := by decide +kernel
theorem dX9_booking_46 : decode cX9_booking 46 = .ok (.goto 25, 3) := by decide +kernel
theorem dX9_booking_49 : decode cX9_booking 49 = .ok (.iload_n 2, 1) := by decide +kernel
theorem dX9_booking_50 : decode cX9_booking 50 = .ok (.bipush 10, 2) := by decide +kernel
theorem dX9_booking_52 : decode cX9_booking 52 = .ok (.if_icmp .ne 11, 3) := by decide +kernel
theorem dX9_booking_55 : decode cX9_booking 55 = .ok (.aload_n 0, 1) := by decide +kernel
theorem dX9_booking_56 : decode cX9_booking 56 = .ok (.iload_n 1, 1) := by decide +kernel
theorem dX9_booking_57 : decode cX9_booking 57 = .ok (.invokevirtual 175, 3) := by decide +kernel
theorem dX9_booking_60 : decode cX9_booking 60 = .ok (.goto 11, 3) := by decide +kernel
theorem dX9_booking_63 : decode cX9_booking 63 = .ok (.aload_n 0, 1) := by decide +kernel
theorem dX9_booking_64 : decode cX9_booking 64 = .ok (.iload_n 1, 1) := by decide +kernel
theorem dX9_booking_65 : decode cX9_booking 65 = .ok (.iload_n 2, 1) := by decide +kernel
theorem dX9_booking_66 : decode cX9_booking 66 = .ok (.iconst 1, 1) := by decide +kernel
theorem dX9_booking_67 : decode cX9_booking 67 = .ok (.isub, 1) := by decide +kernel
theorem dX9_booking_68 : decode cX9_booking 68 = .ok (.invokevirtual 58, 3) := by decide +kernel
theorem dX9_booking_71 : decode cX9_booking 71 = .ok (.ireturn, 1) := by decide +kernel
theorem dX9_hasFrom_0 : decode cX9_hasFrom 0 = .ok (.iconst 0, 1) := by decide +kernel
theorem dX9_hasFrom_1 : decode cX9_hasFrom 1 = .ok (.istore_n 3, 1) := by decide +kernel
theorem dX9_hasFrom_2 : decode cX9_hasFrom 2 = .ok (.iconst 0, 1) := by decide +kernel
theorem dX9_hasFrom_3 : decode cX9_hasFrom 3 = .ok (.istore 4, 2) := by decide +kernel
theorem dX9_hasFrom_5 : decode cX9_hasFrom 5 = .ok (.iload 4, 2) := by decide +kernel
theorem dX9_hasFrom_7 : decode cX9_hasFrom 7 = .ok (.aload_n 0, 1) := by decide +kernel
theorem dX9_hasFrom_8 : decode cX9_hasFrom 8 = .ok (.getfield 7, 3) := by decide +kernel
theorem dX9_hasFrom_11 : decode cX9_hasFrom 11 = .ok (.sipush 197, 3) := by decide +kernel
theorem dX9_hasFrom_14 : decode cX9_hasFrom 14 = .ok (.iload_n 1, 1) := by decide +kernel
theorem dX9_hasFrom_15 : decode cX9_hasFrom 15 = .ok (.iadd, 1) := by decide +kernel
theorem dX9_hasFrom_16 : decode cX9_hasFrom 16 = .ok (.iaload, 1) := by decide +kernel
theorem dX9_hasFrom_17 : decode cX9_hasFrom 17 = .ok (.if_icmp .ge 66, 3) := by decide +kernel
theorem dX9_hasFrom_20 : decode cX9_hasFrom 20 = .ok (.aload_n 0, 1) := by decide +kernel
theorem dX9_hasFrom_21 : decode cX9_hasFrom 21 = .ok (.getfield 7, 3) := by decide +kernel
theorem dX9_hasFrom_24 : decode cX9_hasFrom 24 = .ok (.sipush 213, 3) := by decide +kernel
theorem dX9_hasFrom_27 : decode cX9_hasFrom 27 = .ok (.bipush 16, 2) := by decide +kernel
theorem dX9_hasFrom_29 : decode cX9_hasFrom 29 = .ok (.iload_n 1, 1) := by decide +kernel
theorem dX9_hasFrom_30 : decode cX9_hasFrom 30 = .ok (.imul, 1) := by decide +kernel
theorem dX9_hasFrom_31 : decode cX9_hasFrom 31 = .ok (.iadd, 1) := by decide +kernel
theorem dX9_hasFrom_32 : decode cX9_hasFrom 32 = .ok (.iload 4, 2) := by decide +kernel
theorem dX9_hasFrom_34 : decode cX9_hasFrom 34 = .ok (.iadd, 1) := by decide +kernel
theorem dX9_hasFrom_35 : decode cX9_hasFrom 35 = .ok (.iaload, 1) := by decide +kernel
theorem dX9_hasFrom_36 : decode cX9_hasFrom 36 = .ok (.istore 5, 2) := by decide +kernel
theorem dX9_hasFrom_38 : decode cX9_hasFrom 38 = .ok (.iload_n 3, 1) := by decide +kernel
theorem dX9_hasFrom_39 : decode cX9_hasFrom 39 = .ok (.ifCond .ne 32, 3) := by decide +kernel
theorem dX9_hasFrom_42 : decode cX9_hasFrom 42 = .ok (.aload_n 0, 1) := by decide +kernel
theorem dX9_hasFrom_43 : decode cX9_hasFrom 43 = .ok (.getfield 7, 3) := by decide +kernel
theorem dX9_hasFrom_46 : decode cX9_hasFrom 46 = .ok (.sipush 469, 3) := by decide +kernel
theorem dX9_hasFrom_49 : decode cX9_hasFrom 49 = .ok (.iload 5, 2) := by decide +kernel
theorem dX9_hasFrom_51 : decode cX9_hasFrom 51 = .ok (.iadd, 1) := by decide +kernel
theorem dX9_hasFrom_52 : decode cX9_hasFrom 52 = .ok (.iaload, 1) := by decide +kernel
theorem dX9_hasFrom_53 : decode cX9_hasFrom 53 = .ok (.iload_n 2, 1) := by decide +kernel
theorem dX9_hasFrom_54 : decode cX9_hasFrom 54 = .ok (.if_icmp .ne 21, 3) := by decide +kernel
theorem dX9_hasFrom_57 : decode cX9_hasFrom 57 = .ok (.aload_n 0, 1) := by decide +kernel
theorem dX9_hasFrom_58 : decode cX9_hasFrom 58 = .ok (.getfield 7, 3) := by decide +kernel
theorem dX9_hasFrom_61 : decode cX9_hasFrom 61 = .ok (.sipush 485, 3) := by decide +kernel
theorem dX9_hasFrom_64 : decode cX9_hasFrom 64 = .ok (.iload 5, 2) := by decide +kernel
theorem dX9_hasFrom_66 : decode cX9_hasFrom 66 = .ok (.iadd, 1) := by decide +kernel
theorem dX9_hasFrom_67 : decode cX9_hasFrom 67 = .ok (.iaload, 1) := by decide +kernel
theorem dX9_hasFrom_68 : decode cX9_hasFrom 68 = .ok (.ifCond .le 7, 3) := by decide +kernel
theorem dX9_hasFrom_71 : decode cX9_hasFrom 71 = .ok (.iconst 1, 1) := by decide +kernel
theorem dX9_hasFrom_72 : decode cX9_hasFrom 72 = .ok (.goto 4, 3) := by decide +kernel
theorem dX9_hasFrom_75 : decode cX9_hasFrom 75 = .ok (.iconst 0, 1) := by decide +kernel
theorem dX9_hasFrom_76 : decode cX9_hasFrom 76 = .ok (.istore_n 3, 1) := by decide +kernel
theorem dX9_hasFrom_77 : decode cX9_hasFrom 77 = .ok (.iinc 4 1, 3) := by decide +kernel
theorem dX9_hasFrom_80 : decode cX9_hasFrom 80 = .ok (.goto (-75), 3) := by decide +kernel
theorem dX9_hasFrom_83 : decode cX9_hasFrom 83 = .ok (.iload_n 3, 1) := by decide +kernel
theorem dX9_hasFrom_84 : decode cX9_hasFrom 84 = .ok (.ireturn, 1) := by decide +kernel
theorem dX9_voucher_0 : decode cX9_voucher 0 = .ok (.aload_n 0, 1) := by decide +kernel
theorem dX9_voucher_1 : decode cX9_voucher 1 = .ok (.iload_n 1, 1) := by decide +kernel
theorem dX9_voucher_2 : decode cX9_voucher 2 = .ok (.invokevirtual 61, 3) := by decide +kernel
theorem dX9_voucher_5 : decode cX9_voucher 5 = .ok (.ifCond .eq 12, 3) := by decide +kernel
theorem dX9_voucher_8 : decode cX9_voucher 8 = .ok (.iload_n 2, 1) := by decide +kernel
theorem dX9_voucher_9 : decode cX9_voucher 9 = .ok (.iconst 0, 1) := by decide +kernel
theorem dX9_voucher_10 : decode cX9_voucher 10 = .ok (.iconst 2, 1) := by decide +kernel
theorem dX9_voucher_11 : decode cX9_voucher 11 = .ok (.invokestatic 29, 3) := by decide +kernel
theorem dX9_voucher_14 : decode cX9_voucher 14 = .ok (.ifCond .ne 5, 3) := by decide +kernel
theorem dX9_voucher_17 : decode cX9_voucher 17 = .ok (.iconst (-1), 1) := by decide +kernel
theorem dX9_voucher_18 : decode cX9_voucher 18 = .ok (.ireturn, 1) := by decide +kernel
theorem dX9_voucher_19 : decode cX9_voucher 19 = .ok (.iconst 0, 1) := by decide +kernel
theorem dX9_voucher_20 : decode cX9_voucher 20 = .ok (.istore_n 3, 1) := by decide +kernel
theorem dX9_voucher_21 : decode cX9_voucher 21 = .ok (.iconst 0, 1) := by decide +kernel
theorem dX9_voucher_22 : decode cX9_voucher 22 = .ok (.istore 4, 2) := by decide +kernel
theorem dX9_voucher_24 : decode cX9_voucher 24 = .ok (.iload 4, 2) := by decide +kernel
theorem dX9_voucher_26 : decode cX9_voucher 26 = .ok (.aload_n 0, 1) := by decide +kernel
theorem dX9_voucher_27 : decode cX9_voucher 27 = .ok (.getfield 7, 3) := by decide +kernel
theorem dX9_voucher_30 : decode cX9_voucher 30 = .ok (.iconst 1, 1) := by decide +kernel
theorem dX9_voucher_31 : decode cX9_voucher 31 = .ok (.iaload, 1) := by decide +kernel
theorem dX9_voucher_32 : decode cX9_voucher 32 = .ok (.if_icmp .ge 27, 3) := by decide +kernel
theorem dX9_voucher_35 : decode cX9_voucher 35 = .ok (.iload_n 3, 1) := by decide +kernel
theorem dX9_voucher_36 : decode cX9_voucher 36 = .ok (.aload_n 0, 1) := by decide +kernel
theorem dX9_voucher_37 : decode cX9_voucher 37 = .ok (.iload 4, 2) := by decide +kernel
theorem dX9_voucher_39 : decode cX9_voucher 39 = .ok (.iload_n 1, 1) := by decide +kernel
theorem dX9_voucher_40 : decode cX9_voucher 40 = .ok (.invokevirtual 178, 3) := by decide +kernel
theorem dX9_voucher_43 : decode cX9_voucher 43 = .ok (.ifCond .eq 7, 3) := by decide +kernel
theorem dX9_voucher_46 : decode cX9_voucher 46 = .ok (.iconst 1, 1) := by decide +kernel
theorem dX9_voucher_47 : decode cX9_voucher 47 = .ok (.goto 4, 3) := by decide +kernel
theorem dX9_voucher_50 : decode cX9_voucher 50 = .ok (.iconst 0, 1) := by decide +kernel
theorem dX9_voucher_51 : decode cX9_voucher 51 = .ok (.iadd, 1) := by decide +kernel
theorem dX9_voucher_52 : decode cX9_voucher 52 = .ok (.istore_n 3, 1) := by decide +kernel
theorem dX9_voucher_53 : decode cX9_voucher 53 = .ok (.iinc 4 1, 3) := by decide +kernel
theorem dX9_voucher_56 : decode cX9_voucher 56 = .ok (.goto (-32), 3) := by decide +kernel
theorem dX9_voucher_59 : decode cX9_voucher 59 = .ok (.iload_n 2, 1) := by decide +kernel
theorem dX9_voucher_60 : decode cX9_voucher 60 = .ok (.iconst 2, 1) := by decide +kernel
theorem dX9_voucher_61 : decode cX9_voucher 61 = .ok (.if_icmp .ge 20, 3) := by decide +kernel
theorem dX9_voucher_64 : decode cX9_voucher 64 = .ok (.aload_n 0, 1) := by decide +kernel
theorem dX9_voucher_65 : decode cX9_voucher 65 = .ok (.getfield 7, 3) := by decide +kernel
theorem dX9_voucher_68 : decode cX9_voucher 68 = .ok (.sipush 501, 3) := by decide +kernel
theorem dX9_voucher_71 : decode cX9_voucher 71 = .ok (.iconst 2, 1) := by decide +kernel
theorem dX9_voucher_72 : decode cX9_voucher 72 = .ok (.iload_n 1, 1) := by decide +kernel
theorem dX9_voucher_73 : decode cX9_voucher 73 = .ok (.imul, 1) := by decide +kernel
theorem dX9_voucher_74 : decode cX9_voucher 74 = .ok (.iadd, 1) := by decide +kernel
theorem dX9_voucher_75 : decode cX9_voucher 75 = .ok (.iload_n 2, 1) := by decide +kernel
theorem dX9_voucher_76 : decode cX9_voucher 76 = .ok (.iadd, 1) := by decide +kernel
theorem dX9_voucher_77 : decode cX9_voucher 77 = .ok (.iaload, 1) := by decide +kernel
theorem dX9_voucher_78 : decode cX9_voucher 78 = .ok (.goto 4, 3) := by decide +kernel
theorem dX9_voucher_81 : decode cX9_voucher 81 = .ok (.iload_n 3, 1) := by decide +kernel
theorem dX9_voucher_82 : decode cX9_voucher 82 = .ok (.ireturn, 1) := by decide +kernel
theorem dX9_sumOf_0 : decode cX9_sumOf 0 = .ok (.iconst 0, 1) := by decide +kernel
theorem dX9_sumOf_1 : decode cX9_sumOf 1 = .ok (.istore_n 2, 1) := by decide +kernel
theorem dX9_sumOf_2 : decode cX9_sumOf 2 = .ok (.iconst 0, 1) := by decide +kernel
theorem dX9_sumOf_3 : decode cX9_sumOf 3 = .ok (.istore_n 3, 1) := by decide +kernel
theorem dX9_sumOf_4 : decode cX9_sumOf 4 = .ok (.iload_n 3, 1) := by decide +kernel
theorem dX9_sumOf_5 : decode cX9_sumOf 5 = .ok (.aload_n 0, 1) := by decide +kernel
theorem dX9_sumOf_6 : decode cX9_sumOf 6 = .ok (.getfield 7, 3) := by decide +kernel
theorem dX9_sumOf_9 : decode cX9_sumOf 9 = .ok (.iconst 1, 1) := by decide +kernel
theorem dX9_sumOf_10 : decode cX9_sumOf 10 = .ok (.iaload, 1) := by decide +kernel
theorem dX9_sumOf_11 : decode cX9_sumOf 11 = .ok (.if_icmp .ge 69, 3) := by decide +kernel
theorem dX9_sumOf_14 : decode cX9_sumOf 14 = .ok (.iload_n 2, 1) := by decide +kernel
theorem dX9_sumOf_15 : decode cX9_sumOf 15 = .ok (.iload_n 1, 1) := by decide +kernel
theorem dX9_sumOf_16 : decode cX9_sumOf 16 = .ok (.iconst 2, 1) := by decide +kernel
theorem dX9_sumOf_17 : decode cX9_sumOf 17 = .ok (.if_icmp .ne 12, 3) := by decide +kernel
theorem dX9_sumOf_20 : decode cX9_sumOf 20 = .ok (.aload_n 0, 1) := by decide +kernel
theorem dX9_sumOf_21 : decode cX9_sumOf 21 = .ok (.iload_n 3, 1) := by decide +kernel
theorem dX9_sumOf_22 : decode cX9_sumOf 22 = .ok (.iconst 4, 1) := by decide +kernel
theorem dX9_sumOf_23 : decode cX9_sumOf 23 = .ok (.invokevirtual 58, 3) := by decide +kernel
theorem dX9_sumOf_26 : decode cX9_sumOf 26 = .ok (.goto 46, 3) := by decide +kernel
theorem dX9_sumOf_29 : decode cX9_sumOf 29 = .ok (.iload_n 1, 1) := by decide +kernel
theorem dX9_sumOf_30 : decode cX9_sumOf 30 = .ok (.iconst 3, 1) := by decide +kernel
theorem dX9_sumOf_31 : decode cX9_sumOf 31 = .ok (.if_icmp .ne 13, 3) := by decide +kernel
theorem dX9_sumOf_34 : decode cX9_sumOf 34 = .ok (.aload_n 0, 1) := by decide +kernel
theorem dX9_sumOf_35 : decode cX9_sumOf 35 = .ok (.iload_n 3, 1) := by decide +kernel
theorem dX9_sumOf_36 : decode cX9_sumOf 36 = .ok (.bipush 6, 2) := by decide +kernel
theorem dX9_sumOf_38 : decode cX9_sumOf 38 = .ok (.invokevirtual 58, 3) := by decide +kernel
theorem dX9_sumOf_41 : decode cX9_sumOf 41 = .ok (.goto 31, 3) := by decide +kernel
theorem dX9_sumOf_44 : decode cX9_sumOf 44 = .ok (.iload_n 1, 1) := by decide +kernel
theorem dX9_sumOf_45 : decode cX9_sumOf 45 = .ok (.iconst 4, 1) := by decide +kernel
theorem dX9_sumOf_46 : decode cX9_sumOf 46 = .ok (.if_icmp .ne 12, 3) := by decide +kernel
theorem dX9_sumOf_49 : decode cX9_sumOf 49 = .ok (.aload_n 0, 1) := by decide +kernel
theorem dX9_sumOf_50 : decode cX9_sumOf 50 = .ok (.iload_n 3, 1) := by decide +kernel
theorem dX9_sumOf_51 : decode cX9_sumOf 51 = .ok (.iconst 5, 1) := by decide +kernel
theorem dX9_sumOf_52 : decode cX9_sumOf 52 = .ok (.invokevirtual 58, 3) := by decide +kernel
theorem dX9_sumOf_55 : decode cX9_sumOf 55 = .ok (.goto 17, 3) := by decide +kernel
theorem dX9_sumOf_58 : decode cX9_sumOf 58 = .ok (.iload_n 1, 1) := by decide +kernel
theorem dX9_sumOf_59 : decode cX9_sumOf 59 = .ok (.iconst 5, 1) := by decide +kernel
theorem dX9_sumOf_60 : decode cX9_sumOf 60 = .ok (.if_icmp .ne 11, 3) := by decide +kernel
theorem dX9_sumOf_63 : decode cX9_sumOf 63 = .ok (.aload_n 0, 1) := by decide +kernel
theorem dX9_sumOf_64 : decode cX9_sumOf 64 = .ok (.iload_n 3, 1) := by decide +kernel
theorem dX9_sumOf_65 : decode cX9_sumOf 65 = .ok (.invokevirtual 89, 3) := by decide +kernel
theorem dX9_sumOf_68 : decode cX9_sumOf 68 = .ok (.goto 4, 3) := by decide +kernel
theorem dX9_sumOf_71 : decode cX9_sumOf 71 = .ok (.iconst 0, 1) := by decide +kernel
theorem dX9_sumOf_72 : decode cX9_sumOf 72 = .ok (.iadd, 1) := by decide +kernel
theorem dX9_sumOf_73 : decode cX9_sumOf 73 = .ok (.istore_n 2, 1) := by decide +kernel
theorem dX9_sumOf_74 : decode cX9_sumOf 74 = .ok (.iinc 3 1, 3) := by decide +kernel
theorem dX9_sumOf_77 : decode cX9_sumOf 77 = .ok (.goto (-73), 3) := by decide +kernel
theorem dX9_sumOf_80 : decode cX9_sumOf 80 = .ok (.iconst 0, 1) := by decide +kernel
theorem dX9_sumOf_81 : decode cX9_sumOf 81 = .ok (.istore_n 3, 1) := by decide +kernel
theorem dX9_sumOf_82 : decode cX9_sumOf 82 = .ok (.iload_n 3, 1) := by decide +kernel
theorem dX9_sumOf_83 : decode cX9_sumOf 83 = .ok (.aload_n 0, 1) := by decide +kernel
theorem dX9_sumOf_84 : decode cX9_sumOf 84 = .ok (.getfield 7, 3) := by decide +kernel
theorem dX9_sumOf_87 : decode cX9_sumOf 87 = .ok (.iconst 2, 1) := by decide +kernel
theorem dX9_sumOf_88 : decode cX9_sumOf 88 = .ok (.iaload, 1) := by decide +kernel
theorem dX9_sumOf_89 : decode cX9_sumOf 89 = .ok (.if_icmp .ge 56, 3) := by decide +kernel
theorem dX9_sumOf_92 : decode cX9_sumOf 92 = .ok (.iload_n 2, 1) := by decide +kernel
theorem dX9_sumOf_93 : decode cX9_sumOf 93 = .ok (.iload_n 1, 1) := by decide +kernel
theorem dX9_sumOf_94 : decode cX9_sumOf 94 = .ok (.iconst 1, 1) := by decide +kernel
theorem dX9_sumOf_95 : decode cX9_sumOf 95 = .ok (.if_icmp .ne 20, 3) := by decide +kernel
theorem dX9_sumOf_98 : decode cX9_sumOf 98 = .ok (.aload_n 0, 1) := by decide +kernel
theorem dX9_sumOf_99 : decode cX9_sumOf 99 = .ok (.getfield 7, 3) := by decide +kernel
theorem dX9_sumOf_102 : decode cX9_sumOf 102 = .ok (.sipush 501, 3) := by decide +kernel
theorem dX9_sumOf_105 : decode cX9_sumOf 105 = .ok (.iconst 2, 1) := by decide +kernel
theorem dX9_sumOf_106 : decode cX9_sumOf 106 = .ok (.iload_n 3, 1) := by decide +kernel
theorem dX9_sumOf_107 : decode cX9_sumOf 107 = .ok (.imul, 1) := by decide +kernel
theorem dX9_sumOf_108 : decode cX9_sumOf 108 = .ok (.iadd, 1) := by decide +kernel
theorem dX9_sumOf_109 : decode cX9_sumOf 109 = .ok (.iconst 1, 1) := by decide +kernel
theorem dX9_sumOf_110 : decode cX9_sumOf 110 = .ok (.iadd, 1) := by decide +kernel
theorem dX9_sumOf_111 : decode cX9_sumOf 111 = .ok (.iaload, 1) := by decide +kernel
theorem dX9_sumOf_112 : decode cX9_sumOf 112 = .ok (.goto 25, 3) := by decide +kernel
theorem dX9_sumOf_115 : decode cX9_sumOf 115 = .ok (.iload_n 1, 1) := by decide +kernel
theorem dX9_sumOf_116 : decode cX9_sumOf 116 = .ok (.bipush 6, 2) := by decide +kernel
theorem dX9_sumOf_118 : decode cX9_sumOf 118 = .ok (.if_icmp .ne 18, 3) := by decide +kernel
theorem dX9_sumOf_121 : decode cX9_sumOf 121 = .ok (.aload_n 0, 1) := by decide +kernel
theorem dX9_sumOf_122 : decode cX9_sumOf 122 = .ok (.getfield 7, 3) := by decide +kernel
theorem dX9_sumOf_125 : decode cX9_sumOf 125 = .ok (.sipush 501, 3) := by decide +kernel
theorem dX9_sumOf_128 : decode cX9_sumOf 128 = .ok (.iconst 2, 1) := by decide +kernel
theorem dX9_sumOf_129 : decode cX9_sumOf 129 = .ok (.iload_n 3, 1) := by decide +kernel
theorem dX9_sumOf_130 : decode cX9_sumOf 130 = .ok (.imul, 1) := by decide +kernel
theorem dX9_sumOf_131 : decode cX9_sumOf 131 = .ok (.iadd, 1) := by decide +kernel
theorem dX9_sumOf_132 : decode cX9_sumOf 132 = .ok (.iaload, 1) := by decide +kernel
theorem dX9_sumOf_133 : decode cX9_sumOf 133 = .ok (.goto 4, 3) := by decide +kernel
theorem dX9_sumOf_136 : decode cX9_sumOf 136 = .ok (.iconst 0, 1) := by decide +kernel
theorem dX9_sumOf_137 : decode cX9_sumOf 137 = .ok (.iadd, 1) := by decide +kernel
theorem dX9_sumOf_138 : decode cX9_sumOf 138 = .ok (.istore_n 2, 1) := by decide +kernel
theorem dX9_sumOf_139 : decode cX9_sumOf 139 = .ok (.iinc 3 1, 3) := by decide +kernel
theorem dX9_sumOf_142 : decode cX9_sumOf 142 = .ok (.goto (-60), 3) := by decide +kernel
theorem dX9_sumOf_145 : decode cX9_sumOf 145 = .ok (.iload_n 2, 1) := by decide +kernel
theorem dX9_sumOf_146 : decode cX9_sumOf 146 = .ok (.ireturn, 1) := by decide +kernel
theorem dX9_money_0 : decode cX9_money 0 = .ok (.iload_n 1, 1) := by decide +kernel
theorem dX9_money_1 : decode cX9_money 1 = .ok (.iconst 0, 1) := by decide +kernel
theorem dX9_money_2 : decode cX9_money 2 = .ok (.bipush 6, 2) := by decide +kernel
theorem dX9_money_4 : decode cX9_money 4 = .ok (.invokestatic 29, 3) := by decide +kernel
theorem dX9_money_7 : decode cX9_money 7 = .ok (.ifCond .ne 7, 3) := by decide +kernel
theorem dX9_money_10 : decode cX9_money 10 = .ok (.iconst (-1), 1) := by decide +kernel
theorem dX9_money_11 : decode cX9_money 11 = .ok (.goto 21, 3) := by decide +kernel
theorem dX9_money_14 : decode cX9_money 14 = .ok (.iload_n 1, 1) := by decide +kernel
theorem dX9_money_15 : decode cX9_money 15 = .ok (.ifCond .ne 12, 3) := by decide +kernel
theorem dX9_money_18 : decode cX9_money 18 = .ok (.aload_n 0, 1) := by decide +kernel
theorem dX9_money_19 : decode cX9_money 19 = .ok (.getfield 7, 3) := by decide +kernel
theorem dX9_money_22 : decode cX9_money 22 = .ok (.iconst 3, 1) := by decide +kernel
theorem dX9_money_23 : decode cX9_money 23 = .ok (.iaload, 1) := by decide +kernel
theorem dX9_money_24 : decode cX9_money 24 = .ok (.goto 8, 3) := by decide +kernel
theorem dX9_money_27 : decode cX9_money 27 = .ok (.aload_n 0, 1) := by decide +kernel
theorem dX9_money_28 : decode cX9_money 28 = .ok (.iload_n 1, 1) := by decide +kernel
theorem dX9_money_29 : decode cX9_money 29 = .ok (.invokevirtual 181, 3) := by decide +kernel
theorem dX9_money_32 : decode cX9_money 32 = .ok (.ireturn, 1) := by decide +kernel
theorem dX9_forecast_0 : decode cX9_forecast 0 = .ok (.aload_n 0, 1) := by decide +kernel
theorem dX9_forecast_1 : decode cX9_forecast 1 = .ok (.iload_n 1, 1) := by decide +kernel
theorem dX9_forecast_2 : decode cX9_forecast 2 = .ok (.invokevirtual 77, 3) := by decide +kernel
theorem dX9_forecast_5 : decode cX9_forecast 5 = .ok (.ifCond .eq 12, 3) := by decide +kernel
theorem dX9_forecast_8 : decode cX9_forecast 8 = .ok (.iload_n 2, 1) := by decide +kernel
theorem dX9_forecast_9 : decode cX9_forecast 9 = .ok (.iconst 0, 1) := by decide +kernel
theorem dX9_forecast_10 : decode cX9_forecast 10 = .ok (.iconst 2, 1) := by decide +kernel
theorem dX9_forecast_11 : decode cX9_forecast 11 = .ok (.invokestatic 29, 3) := by decide +kernel
theorem dX9_forecast_14 : decode cX9_forecast 14 = .ok (.ifCond .ne 5, 3) := by decide +kernel
theorem dX9_forecast_17 : decode cX9_forecast 17 = .ok (.iconst (-1), 1) := by decide +kernel
theorem dX9_forecast_18 : decode cX9_forecast 18 = .ok (.ireturn, 1) := by decide +kernel
theorem dX9_forecast_19 : decode cX9_forecast 19 = .ok (.aload_n 0, 1) := by decide +kernel
theorem dX9_forecast_20 : decode cX9_forecast 20 = .ok (.iload_n 1, 1) := by decide +kernel
theorem dX9_forecast_21 : decode cX9_forecast 21 = .ok (.iconst 3, 1) := by decide +kernel
theorem dX9_forecast_22 : decode cX9_forecast 22 = .ok (.invokevirtual 58, 3) := by decide +kernel
theorem dX9_forecast_25 : decode cX9_forecast 25 = .ok (.ifCond .eq 6, 3) := by decide +kernel
theorem dX9_forecast_28 : decode cX9_forecast 28 = .ok (.bipush (-9), 2) := by decide +kernel
theorem dX9_forecast_30 : decode cX9_forecast 30 = .ok (.ireturn, 1) := by decide +kernel
theorem dX9_forecast_31 : decode cX9_forecast 31 = .ok (.aload_n 0, 1) := by decide +kernel
theorem dX9_forecast_32 : decode cX9_forecast 32 = .ok (.iload_n 1, 1) := by decide +kernel
theorem dX9_forecast_33 : decode cX9_forecast 33 = .ok (.iconst 0, 1) := by decide +kernel
theorem dX9_forecast_34 : decode cX9_forecast 34 = .ok (.invokevirtual 92, 3) := by decide +kernel
theorem dX9_forecast_37 : decode cX9_forecast 37 = .ok (.istore_n 3, 1) := by decide +kernel
theorem dX9_forecast_38 : decode cX9_forecast 38 = .ok (.iload_n 3, 1) := by decide +kernel
theorem dX9_forecast_39 : decode cX9_forecast 39 = .ok (.aload_n 0, 1) := by decide +kernel
theorem dX9_forecast_40 : decode cX9_forecast 40 = .ok (.iload_n 1, 1) := by decide +kernel
theorem dX9_forecast_41 : decode cX9_forecast 41 = .ok (.iconst 1, 1) := by decide +kernel
theorem dX9_forecast_42 : decode cX9_forecast 42 = .ok (.invokevirtual 58, 3) := by decide +kernel
theorem dX9_forecast_45 : decode cX9_forecast 45 = .ok (.isub, 1) := by decide +kernel
theorem dX9_forecast_46 : decode cX9_forecast 46 = .ok (.istore 4, 2) := by decide +kernel
theorem dX9_forecast_48 : decode cX9_forecast 48 = .ok (.iload_n 2, 1) := by decide +kernel
theorem dX9_forecast_49 : decode cX9_forecast 49 = .ok (.ifCond .ne 7, 3) := by decide +kernel
theorem dX9_forecast_52 : decode cX9_forecast 52 = .ok (.iload_n 3, 1) := by decide +kernel
theorem dX9_forecast_53 : decode cX9_forecast 53 = .ok (.goto 25, 3) := by decide +kernel
theorem dX9_forecast_56 : decode cX9_forecast 56 = .ok (.iload_n 2, 1) := by decide +kernel
theorem dX9_forecast_57 : decode cX9_forecast 57 = .ok (.iconst 1, 1) := by decide +kernel
theorem dX9_forecast_58 : decode cX9_forecast 58 = .ok (.if_icmp .ne 8, 3) := by decide +kernel
theorem dX9_forecast_61 : decode cX9_forecast 61 = .ok (.iload 4, 2) := by decide +kernel
theorem dX9_forecast_63 : decode cX9_forecast 63 = .ok (.goto 15, 3) := by decide +kernel
theorem dX9_forecast_66 : decode cX9_forecast 66 = .ok (.aload_n 0, 1) := by decide +kernel
theorem dX9_forecast_67 : decode cX9_forecast 67 = .ok (.aload_n 0, 1) := by decide +kernel
theorem dX9_forecast_68 : decode cX9_forecast 68 = .ok (.iload_n 1, 1) := by decide +kernel
theorem dX9_forecast_69 : decode cX9_forecast 69 = .ok (.iconst 4, 1) := by decide +kernel
theorem dX9_forecast_70 : decode cX9_forecast 70 = .ok (.invokevirtual 58, 3) := by decide +kernel
theorem dX9_forecast_73 : decode cX9_forecast 73 = .ok (.iload 4, 2) := by decide +kernel
theorem dX9_forecast_75 : decode cX9_forecast 75 = .ok (.invokevirtual 108, 3) := by decide +kernel
theorem dX9_forecast_78 : decode cX9_forecast 78 = .ok (.ireturn, 1) := by decide +kernel
theorem dX9_freeTime_0 : decode cX9_freeTime 0 = .ok (.aload_n 0, 1) := by decide +kernel
theorem dX9_freeTime_1 : decode cX9_freeTime 1 = .ok (.iload_n 1, 1) := by decide +kernel
theorem dX9_freeTime_2 : decode cX9_freeTime 2 = .ok (.invokevirtual 44, 3) := by decide +kernel
theorem dX9_freeTime_5 : decode cX9_freeTime 5 = .ok (.ifCond .eq 14, 3) := by decide +kernel
theorem dX9_freeTime_8 : decode cX9_freeTime 8 = .ok (.iload_n 2, 1) := by decide +kernel
theorem dX9_freeTime_9 : decode cX9_freeTime 9 = .ok (.iconst 0, 1) := by decide +kernel
theorem dX9_freeTime_10 : decode cX9_freeTime 10 = .ok (.sipush 720, 3) := by decide +kernel
theorem dX9_freeTime_13 : decode cX9_freeTime 13 = .ok (.invokestatic 29, 3) := by decide +kernel
theorem dX9_freeTime_16 : decode cX9_freeTime 16 = .ok (.ifCond .ne 5, 3) := by decide +kernel
theorem dX9_freeTime_19 : decode cX9_freeTime 19 = .ok (.iconst (-1), 1) := by decide +kernel
theorem dX9_freeTime_20 : decode cX9_freeTime 20 = .ok (.ireturn, 1) := by decide +kernel
theorem dX9_freeTime_21 : decode cX9_freeTime 21 = .ok (.iload_n 2, 1) := by decide +kernel
theorem dX9_freeTime_22 : decode cX9_freeTime 22 = .ok (.istore_n 3, 1) := by decide +kernel
theorem dX9_freeTime_23 : decode cX9_freeTime 23 = .ok (.iload_n 3, 1) := by decide +kernel
theorem dX9_freeTime_24 : decode cX9_freeTime 24 = .ok (.sipush 720, 3) := by decide +kernel
theorem dX9_freeTime_27 : decode cX9_freeTime 27 = .ok (.if_icmp .gt 22, 3) := by decide +kernel
theorem dX9_freeTime_30 : decode cX9_freeTime 30 = .ok (.aload_n 0, 1) := by decide +kernel
theorem dX9_freeTime_31 : decode cX9_freeTime 31 = .ok (.iload_n 1, 1) := by decide +kernel
theorem dX9_freeTime_32 : decode cX9_freeTime 32 = .ok (.iload_n 3, 1) := by decide +kernel
theorem dX9_freeTime_33 : decode cX9_freeTime 33 = .ok (.bipush (-9), 2) := by decide +kernel
theorem dX9_freeTime_35 : decode cX9_freeTime 35 = .ok (.invokevirtual 64, 3) := by decide +kernel
theorem dX9_freeTime_38 : decode cX9_freeTime 38 = .ok (.ifCond .eq 5, 3) := by decide +kernel
theorem dX9_freeTime_41 : decode cX9_freeTime 41 = .ok (.iload_n 3, 1) := by decide +kernel
theorem dX9_freeTime_42 : decode cX9_freeTime 42 = .ok (.ireturn, 1) := by decide +kernel
theorem dX9_freeTime_43 : decode cX9_freeTime 43 = .ok (.iinc 3 1, 3) := by decide +kernel
theorem dX9_freeTime_46 : decode cX9_freeTime 46 = .ok (.goto (-23), 3) := by decide +kernel
theorem dX9_freeTime_49 : decode cX9_freeTime 49 = .ok (.bipush (-9), 2) := by decide +kernel
theorem dX9_freeTime_51 : decode cX9_freeTime 51 = .ok (.ireturn, 1) := by decide +kernel
theorem dX9_areMergeable_0 : decode cX9_areMergeable 0 = .ok (.aload_n 0, 1) := by decide +kernel
theorem dX9_areMergeable_1 : decode cX9_areMergeable 1 = .ok (.iload_n 1, 1) := by decide +kernel
theorem dX9_areMergeable_2 : decode cX9_areMergeable 2 = .ok (.iconst 3, 1) := by decide +kernel
theorem dX9_areMergeable_3 : decode cX9_areMergeable 3 = .ok (.invokevirtual 58, 3) := by decide +kernel
theorem dX9_areMergeable_6 : decode cX9_areMergeable 6 = .ok (.ifCond .ne 36, 3) := by decide +kernel
theorem dX9_areMergeable_9 : decode cX9_areMergeable 9 = .ok (.aload_n 0, 1) := by decide +kernel
theorem dX9_areMergeable_10 : decode cX9_areMergeable 10 = .ok (.iload_n 2, 1) := by decide +kernel
theorem dX9_areMergeable_11 : decode cX9_areMergeable 11 = .ok (.iconst 3, 1) := by decide +kernel
theorem dX9_areMergeable_12 : decode cX9_areMergeable 12 = .ok (.invokevirtual 58, 3) := by decide +kernel
theorem dX9_areMergeable_15 : decode cX9_areMergeable 15 = .ok (.ifCond .ne 27, 3) := by decide +kernel
theorem dX9_areMergeable_18 : decode cX9_areMergeable 18 = .ok (.aload_n 0, 1) := by decide +kernel
theorem dX9_areMergeable_19 : decode cX9_areMergeable 19 = .ok (.iload_n 1, 1) := by decide +kernel
theorem dX9_areMergeable_20 : decode cX9_areMergeable 20 = .ok (.iconst 0, 1) := by decide +kernel
theorem dX9_areMergeable_21 : decode cX9_areMergeable 21 = .ok (.invokevirtual 58, 3) := by decide +kernel
theorem dX9_areMergeable_24 : decode cX9_areMergeable 24 = .ok (.iload_n 3, 1) := by decide +kernel
theorem dX9_areMergeable_25 : decode cX9_areMergeable 25 = .ok (.if_icmp .ne 17, 3) := by decide +kernel
theorem dX9_areMergeable_28 : decode cX9_areMergeable 28 = .ok (.aload_n 0, 1) := by decide +kernel
theorem dX9_areMergeable_29 : decode cX9_areMergeable 29 = .ok (.iload_n 2, 1) := by decide +kernel
theorem dX9_areMergeable_30 : decode cX9_areMergeable 30 = .ok (.iconst 0, 1) := by decide +kernel
theorem dX9_areMergeable_31 : decode cX9_areMergeable 31 = .ok (.invokevirtual 58, 3) := by decide +kernel
theorem dX9_areMergeable_34 : decode cX9_areMergeable 34 = .ok (.iload_n 3, 1) := by decide +kernel
theorem dX9_areMergeable_35 : decode cX9_areMergeable 35 = .ok (.if_icmp .ne 7, 3) := by decide +kernel
theorem dX9_areMergeable_38 : decode cX9_areMergeable 38 = .ok (.iconst 1, 1) := by decide +kernel
theorem dX9_areMergeable_39 : decode cX9_areMergeable 39 = .ok (.goto 4, 3) := by decide +kernel
theorem dX9_areMergeable_42 : decode cX9_areMergeable 42 = .ok (.iconst 0, 1) := by decide +kernel
theorem dX9_areMergeable_43 : decode cX9_areMergeable 43 = .ok (.istore 4, 2) := by decide +kernel
theorem dX9_areMergeable_45 : decode cX9_areMergeable 45 = .ok (.iload 4, 2) := by decide +kernel
theorem dX9_areMergeable_47 : decode cX9_areMergeable 47 = .ok (.ifCond .eq 29, 3) := by decide +kernel
theorem dX9_areMergeable_50 : decode cX9_areMergeable 50 = .ok (.aload_n 0, 1) := by decide +kernel
theorem dX9_areMergeable_51 : decode cX9_areMergeable 51 = .ok (.iload_n 1, 1) := by decide +kernel
theorem dX9_areMergeable_52 : decode cX9_areMergeable 52 = .ok (.iconst 2, 1) := by decide +kernel
theorem dX9_areMergeable_53 : decode cX9_areMergeable 53 = .ok (.invokevirtual 58, 3) := by decide +kernel
theorem dX9_areMergeable_56 : decode cX9_areMergeable 56 = .ok (.aload_n 0, 1) := by decide +kernel
theorem dX9_areMergeable_57 : decode cX9_areMergeable 57 = .ok (.iload_n 2, 1) := by decide +kernel
theorem dX9_areMergeable_58 : decode cX9_areMergeable 58 = .ok (.iconst 2, 1) := by decide +kernel
theorem dX9_areMergeable_59 : decode cX9_areMergeable 59 = .ok (.invokevirtual 58, 3) := by decide +kernel
theorem dX9_areMergeable_62 : decode cX9_areMergeable 62 = .ok (.iadd, 1) := by decide +kernel
theorem dX9_areMergeable_63 : decode cX9_areMergeable 63 = .ok (.aload_n 0, 1) := by decide +kernel
theorem dX9_areMergeable_64 : decode cX9_areMergeable 64 = .ok (.iload_n 3, 1) := by decide +kernel
theorem dX9_areMergeable_65 : decode cX9_areMergeable 65 = .ok (.iconst 3, 1) := by decide +kernel
theorem dX9_areMergeable_66 : decode cX9_areMergeable 66 = .ok (.invokevirtual 48, 3) := by decide +kernel
theorem dX9_areMergeable_69 : decode cX9_areMergeable 69 = .ok (.if_icmp .gt 7, 3) := by decide +kernel
theorem dX9_areMergeable_72 : decode cX9_areMergeable 72 = .ok (.iconst 1, 1) := by decide +kernel
theorem dX9_areMergeable_73 : decode cX9_areMergeable 73 = .ok (.goto 4, 3) := by decide +kernel
theorem dX9_areMergeable_76 : decode cX9_areMergeable 76 = .ok (.iconst 0, 1) := by decide +kernel
theorem dX9_areMergeable_77 : decode cX9_areMergeable 77 = .ok (.ireturn, 1) := by decide +kernel
theorem dX9_mergeable_0 : decode cX9_mergeable 0 = .ok (.aload_n 0, 1) := by decide +kernel
theorem dX9_mergeable_1 : decode cX9_mergeable 1 = .ok (.iload_n 1, 1) := by decide +kernel
theorem dX9_mergeable_2 : decode cX9_mergeable 2 = .ok (.invokevirtual 44, 3) := by decide +kernel
theorem dX9_mergeable_5 : decode cX9_mergeable 5 = .ok (.ifCond .eq 12, 3) := by decide +kernel
theorem dX9_mergeable_8 : decode cX9_mergeable 8 = .ok (.iload_n 2, 1) := by decide +kernel
theorem dX9_mergeable_9 : decode cX9_mergeable 9 = .ok (.iconst 0, 1) := by decide +kernel
theorem dX9_mergeable_10 : decode cX9_mergeable 10 = .ok (.iconst 2, 1) := by decide +kernel
theorem dX9_mergeable_11 : decode cX9_mergeable 11 = .ok (.invokestatic 29, 3) := by decide +kernel
theorem dX9_mergeable_14 : decode cX9_mergeable 14 = .ok (.ifCond .ne 5, 3) := by decide +kernel
theorem dX9_mergeable_17 : decode cX9_mergeable 17 = .ok (.iconst (-1), 1) := by decide +kernel
theorem dX9_mergeable_18 : decode cX9_mergeable 18 = .ok (.ireturn, 1) := by decide +kernel
theorem dX9_mergeable_19 : decode cX9_mergeable 19 = .ok (.bipush (-9), 2) := by decide +kernel
theorem dX9_mergeable_21 : decode cX9_mergeable 21 = .ok (.istore_n 3, 1) := by decide +kernel
theorem dX9_mergeable_22 : decode cX9_mergeable 22 = .ok (.bipush (-9), 2) := by decide +kernel
theorem dX9_mergeable_24 : decode cX9_mergeable 24 = .ok (.istore 4, 2) := by decide +kernel
theorem dX9_mergeable_26 : decode cX9_mergeable 26 = .ok (.bipush (-9), 2) := by decide +kernel
theorem dX9_mergeable_28 : decode cX9_mergeable 28 = .ok (.istore 5, 2) := by decide +kernel
theorem dX9_mergeable_30 : decode cX9_mergeable 30 = .ok (.iconst 0, 1) := by decide +kernel
theorem dX9_mergeable_31 : decode cX9_mergeable 31 = .ok (.istore 6, 2) := by decide +kernel
theorem dX9_mergeable_33 : decode cX9_mergeable 33 = .ok (.iload 6, 2) := by decide +kernel
theorem dX9_mergeable_35 : decode cX9_mergeable 35 = .ok (.aload_n 0, 1) := by decide +kernel
theorem dX9_mergeable_36 : decode cX9_mergeable 36 = .ok (.getfield 7, 3) := by decide +kernel
theorem dX9_mergeable_39 : decode cX9_mergeable 39 = .ok (.iconst 1, 1) := by decide +kernel
theorem dX9_mergeable_40 : decode cX9_mergeable 40 = .ok (.iaload, 1) := by decide +kernel
theorem dX9_mergeable_41 : decode cX9_mergeable 41 = .ok (.if_icmp .ge 78, 3) := by decide +kernel
theorem dX9_mergeable_44 : decode cX9_mergeable 44 = .ok (.iload 6, 2) := by decide +kernel
theorem dX9_mergeable_46 : decode cX9_mergeable 46 = .ok (.iconst 1, 1) := by decide +kernel
theorem dX9_mergeable_47 : decode cX9_mergeable 47 = .ok (.iadd, 1) := by decide +kernel
theorem dX9_mergeable_48 : decode cX9_mergeable 48 = .ok (.istore 7, 2) := by decide +kernel
theorem dX9_mergeable_50 : decode cX9_mergeable 50 = .ok (.iload 7, 2) := by decide +kernel
theorem dX9_mergeable_52 : decode cX9_mergeable 52 = .ok (.aload_n 0, 1) := by decide +kernel
theorem dX9_mergeable_53 : decode cX9_mergeable 53 = .ok (.getfield 7, 3) := by decide +kernel
theorem dX9_mergeable_56 : decode cX9_mergeable 56 = .ok (.iconst 1, 1) := by decide +kernel
theorem dX9_mergeable_57 : decode cX9_mergeable 57 = .ok (.iaload, 1) := by decide +kernel
theorem dX9_mergeable_58 : decode cX9_mergeable 58 = .ok (.if_icmp .ge 55, 3) := by decide +kernel
theorem dX9_mergeable_61 : decode cX9_mergeable 61 = .ok (.aload_n 0, 1) := by decide +kernel
theorem dX9_mergeable_62 : decode cX9_mergeable 62 = .ok (.iload 6, 2) := by decide +kernel
theorem dX9_mergeable_64 : decode cX9_mergeable 64 = .ok (.iconst 2, 1) := by decide +kernel
theorem dX9_mergeable_65 : decode cX9_mergeable 65 = .ok (.invokevirtual 58, 3) := by decide +kernel
theorem dX9_mergeable_68 : decode cX9_mergeable 68 = .ok (.aload_n 0, 1) := by decide +kernel
theorem dX9_mergeable_69 : decode cX9_mergeable 69 = .ok (.iload 7, 2) := by decide +kernel
theorem dX9_mergeable_71 : decode cX9_mergeable 71 = .ok (.iconst 2, 1) := by decide +kernel
theorem dX9_mergeable_72 : decode cX9_mergeable 72 = .ok (.invokevirtual 58, 3) := by decide +kernel
theorem dX9_mergeable_75 : decode cX9_mergeable 75 = .ok (.iadd, 1) := by decide +kernel
theorem dX9_mergeable_76 : decode cX9_mergeable 76 = .ok (.istore 8, 2) := by decide +kernel
theorem dX9_mergeable_78 : decode cX9_mergeable 78 = .ok (.aload_n 0, 1) := by decide +kernel
theorem dX9_mergeable_79 : decode cX9_mergeable 79 = .ok (.iload 6, 2) := by decide +kernel
theorem dX9_mergeable_81 : decode cX9_mergeable 81 = .ok (.iload 7, 2) := by decide +kernel
theorem dX9_mergeable_83 : decode cX9_mergeable 83 = .ok (.iload_n 1, 1) := by decide +kernel
theorem dX9_mergeable_84 : decode cX9_mergeable 84 = .ok (.invokevirtual 184, 3) := by decide +kernel
theorem dX9_mergeable_87 : decode cX9_mergeable 87 = .ok (.ifCond .eq 20, 3) := by decide +kernel
theorem dX9_mergeable_90 : decode cX9_mergeable 90 = .ok (.iload 8, 2) := by decide +kernel
theorem dX9_mergeable_92 : decode cX9_mergeable 92 = .ok (.iload_n 3, 1) := by decide +kernel
theorem dX9_mergeable_93 : decode cX9_mergeable 93 = .ok (.if_icmp .le 14, 3) := by decide +kernel
theorem dX9_mergeable_96 : decode cX9_mergeable 96 = .ok (.iload 8, 2) := by decide +kernel
theorem dX9_mergeable_98 : decode cX9_mergeable 98 = .ok (.istore_n 3, 1) := by decide +kernel
theorem dX9_mergeable_99 : decode cX9_mergeable 99 = .ok (.iload 6, 2) := by decide +kernel
theorem dX9_mergeable_101 : decode cX9_mergeable 101 = .ok (.istore 4, 2) := by decide +kernel
theorem dX9_mergeable_103 : decode cX9_mergeable 103 = .ok (.iload 7, 2) := by decide +kernel
theorem dX9_mergeable_105 : decode cX9_mergeable 105 = .ok (.istore 5, 2) := by decide +kernel
theorem dX9_mergeable_107 : decode cX9_mergeable 107 = .ok (.iinc 7 1, 3) := by decide +kernel
theorem dX9_mergeable_110 : decode cX9_mergeable 110 = .ok (.goto (-60), 3) := by decide +kernel
theorem dX9_mergeable_113 : decode cX9_mergeable 113 = .ok (.iinc 6 1, 3) := by decide +kernel
theorem dX9_mergeable_116 : decode cX9_mergeable 116 = .ok (.goto (-83), 3) := by decide +kernel
theorem dX9_mergeable_119 : decode cX9_mergeable 119 = .ok (.iload_n 2, 1) := by decide +kernel
theorem dX9_mergeable_120 : decode cX9_mergeable 120 = .ok (.ifCond .ne 8, 3) := by decide +kernel
theorem dX9_mergeable_123 : decode cX9_mergeable 123 = .ok (.iload 4, 2) := by decide +kernel
theorem dX9_mergeable_125 : decode cX9_mergeable 125 = .ok (.goto 14, 3) := by decide +kernel
theorem dX9_mergeable_128 : decode cX9_mergeable 128 = .ok (.iload_n 2, 1) := by decide +kernel
theorem dX9_mergeable_129 : decode cX9_mergeable 129 = .ok (.iconst 1, 1) := by decide +kernel
theorem dX9_mergeable_130 : decode cX9_mergeable 130 = .ok (.if_icmp .ne 8, 3) := by decide +kernel
theorem dX9_mergeable_133 : decode cX9_mergeable 133 = .ok (.iload 5, 2) := by decide +kernel
theorem dX9_mergeable_135 : decode cX9_mergeable 135 = .ok (.goto 4, 3) := by decide +kernel
theorem dX9_mergeable_138 : decode cX9_mergeable 138 = .ok (.iload_n 3, 1) := by decide +kernel
theorem dX9_mergeable_139 : decode cX9_mergeable 139 = .ok (.ireturn, 1) := by decide +kernel
theorem dX9_isLate_0 : decode cX9_isLate 0 = .ok (.iconst 0, 1) := by decide +kernel
theorem dX9_isLate_1 : decode cX9_isLate 1 = .ok (.istore_n 3, 1) := by decide +kernel
theorem dX9_isLate_2 : decode cX9_isLate 2 = .ok (.iconst 0, 1) := by decide +kernel
theorem dX9_isLate_3 : decode cX9_isLate 3 = .ok (.istore 4, 2) := by decide +kernel
theorem dX9_isLate_5 : decode cX9_isLate 5 = .ok (.iload 4, 2) := by decide +kernel
theorem dX9_isLate_7 : decode cX9_isLate 7 = .ok (.aload_n 0, 1) := by decide +kernel
theorem dX9_isLate_8 : decode cX9_isLate 8 = .ok (.getfield 7, 3) := by decide +kernel
theorem dX9_isLate_11 : decode cX9_isLate 11 = .ok (.iconst 1, 1) := by decide +kernel
theorem dX9_isLate_12 : decode cX9_isLate 12 = .ok (.iaload, 1) := by decide +kernel
theorem dX9_isLate_13 : decode cX9_isLate 13 = .ok (.if_icmp .ge 65, 3) := by decide +kernel
theorem dX9_isLate_16 : decode cX9_isLate 16 = .ok (.iload_n 3, 1) := by decide +kernel
theorem dX9_isLate_17 : decode cX9_isLate 17 = .ok (.ifCond .ne 49, 3) := by decide +kernel
theorem dX9_isLate_20 : decode cX9_isLate 20 = .ok (.aload_n 0, 1) := by decide +kernel
theorem dX9_isLate_21 : decode cX9_isLate 21 = .ok (.iload 4, 2) := by decide +kernel
theorem dX9_isLate_23 : decode cX9_isLate 23 = .ok (.iconst 0, 1) := by decide +kernel
theorem dX9_isLate_24 : decode cX9_isLate 24 = .ok (.invokevirtual 58, 3) := by decide +kernel
theorem dX9_isLate_27 : decode cX9_isLate 27 = .ok (.iload_n 1, 1) := by decide +kernel
theorem dX9_isLate_28 : decode cX9_isLate 28 = .ok (.if_icmp .ne 42, 3) := by decide +kernel
theorem dX9_isLate_31 : decode cX9_isLate 31 = .ok (.aload_n 0, 1) := by decide +kernel
theorem dX9_isLate_32 : decode cX9_isLate 32 = .ok (.iload 4, 2) := by decide +kernel
theorem dX9_isLate_34 : decode cX9_isLate 34 = .ok (.iconst 3, 1) := by decide +kernel
theorem dX9_isLate_35 : decode cX9_isLate 35 = .ok (.invokevirtual 58, 3) := by decide +kernel
theorem dX9_isLate_38 : decode cX9_isLate 38 = .ok (.ifCond .ne 32, 3) := by decide +kernel
theorem dX9_isLate_41 : decode cX9_isLate 41 = .ok (.aload_n 0, 1) := by decide +kernel
theorem dX9_isLate_42 : decode cX9_isLate 42 = .ok (.iload 4, 2) := by decide +kernel
theorem dX9_isLate_44 : decode cX9_isLate 44 = .ok (.iload_n 2, 1) := by decide +kernel
theorem dX9_isLate_45 : decode cX9_isLate 45 = .ok (.invokevirtual 92, 3) := by decide +kernel
theorem dX9_isLate_48 : decode cX9_isLate 48 = .ok (.aload_n 0, 1) := by decide +kernel
theorem dX9_isLate_49 : decode cX9_isLate 49 = .ok (.iload 4, 2) := by decide +kernel
theorem dX9_isLate_51 : decode cX9_isLate 51 = .ok (.iconst 1, 1) := by decide +kernel
theorem dX9_isLate_52 : decode cX9_isLate 52 = .ok (.invokevirtual 58, 3) := by decide +kernel
theorem dX9_isLate_55 : decode cX9_isLate 55 = .ok (.isub, 1) := by decide +kernel
theorem dX9_isLate_56 : decode cX9_isLate 56 = .ok (.aload_n 0, 1) := by decide +kernel
theorem dX9_isLate_57 : decode cX9_isLate 57 = .ok (.getfield 7, 3) := by decide +kernel
theorem dX9_isLate_60 : decode cX9_isLate 60 = .ok (.bipush 7, 2) := by decide +kernel
theorem dX9_isLate_62 : decode cX9_isLate 62 = .ok (.iaload, 1) := by decide +kernel
theorem dX9_isLate_63 : decode cX9_isLate 63 = .ok (.if_icmp .le 7, 3) := by decide +kernel
theorem dX9_isLate_66 : decode cX9_isLate 66 = .ok (.iconst 1, 1) := by decide +kernel
theorem dX9_isLate_67 : decode cX9_isLate 67 = .ok (.goto 4, 3) := by decide +kernel
theorem dX9_isLate_70 : decode cX9_isLate 70 = .ok (.iconst 0, 1) := by decide +kernel
theorem dX9_isLate_71 : decode cX9_isLate 71 = .ok (.istore_n 3, 1) := by decide +kernel
theorem dX9_isLate_72 : decode cX9_isLate 72 = .ok (.iinc 4 1, 3) := by decide +kernel
theorem dX9_isLate_75 : decode cX9_isLate 75 = .ok (.goto (-70), 3) := by decide +kernel
theorem dX9_isLate_78 : decode cX9_isLate 78 = .ok (.iload_n 3, 1) := by decide +kernel
theorem dX9_isLate_79 : decode cX9_isLate 79 = .ok (.ireturn, 1) := by decide +kernel
theorem dX9_slack_0 : decode cX9_slack 0 = .ok (.aload_n 0, 1) := by decide +kernel
theorem dX9_slack_1 : decode cX9_slack 1 = .ok (.iload_n 1, 1) := by decide +kernel
theorem dX9_slack_2 : decode cX9_slack 2 = .ok (.invokevirtual 44, 3) := by decide +kernel
theorem dX9_slack_5 : decode cX9_slack 5 = .ok (.ifCond .ne 5, 3) := by decide +kernel
theorem dX9_slack_8 : decode cX9_slack 8 = .ok (.iconst (-1), 1) := by decide +kernel
theorem dX9_slack_9 : decode cX9_slack 9 = .ok (.ireturn, 1) := by decide +kernel
theorem dX9_slack_10 : decode cX9_slack 10 = .ok (.aload_n 0, 1) := by decide +kernel
theorem dX9_slack_11 : decode cX9_slack 11 = .ok (.iload_n 1, 1) := by decide +kernel
theorem dX9_slack_12 : decode cX9_slack 12 = .ok (.iconst (-1), 1) := by decide +kernel
theorem dX9_slack_13 : decode cX9_slack 13 = .ok (.invokevirtual 83, 3) := by decide +kernel
theorem dX9_slack_16 : decode cX9_slack 16 = .ok (.bipush (-9), 2) := by decide +kernel
theorem dX9_slack_18 : decode cX9_slack 18 = .ok (.if_icmp .eq 12, 3) := by decide +kernel
theorem dX9_slack_21 : decode cX9_slack 21 = .ok (.aload_n 0, 1) := by decide +kernel
theorem dX9_slack_22 : decode cX9_slack 22 = .ok (.iload_n 1, 1) := by decide +kernel
theorem dX9_slack_23 : decode cX9_slack 23 = .ok (.iconst 0, 1) := by decide +kernel
theorem dX9_slack_24 : decode cX9_slack 24 = .ok (.invokevirtual 187, 3) := by decide +kernel
theorem dX9_slack_27 : decode cX9_slack 27 = .ok (.ifCond .eq 6, 3) := by decide +kernel
theorem dX9_slack_30 : decode cX9_slack 30 = .ok (.bipush (-9), 2) := by decide +kernel
theorem dX9_slack_32 : decode cX9_slack 32 = .ok (.ireturn, 1) := by decide +kernel
theorem dX9_slack_33 : decode cX9_slack 33 = .ok (.iconst 0, 1) := by decide +kernel
theorem dX9_slack_34 : decode cX9_slack 34 = .ok (.istore_n 2, 1) := by decide +kernel
theorem dX9_slack_35 : decode cX9_slack 35 = .ok (.iload_n 2, 1) := by decide +kernel
theorem dX9_slack_36 : decode cX9_slack 36 = .ok (.sipush 999, 3) := by decide +kernel
theorem dX9_slack_39 : decode cX9_slack 39 = .ok (.if_icmp .ge 20, 3) := by decide +kernel
theorem dX9_slack_42 : decode cX9_slack 42 = .ok (.aload_n 0, 1) := by decide +kernel
theorem dX9_slack_43 : decode cX9_slack 43 = .ok (.iload_n 1, 1) := by decide +kernel
theorem dX9_slack_44 : decode cX9_slack 44 = .ok (.iload_n 2, 1) := by decide +kernel
theorem dX9_slack_45 : decode cX9_slack 45 = .ok (.iconst 1, 1) := by decide +kernel
theorem dX9_slack_46 : decode cX9_slack 46 = .ok (.iadd, 1) := by decide +kernel
theorem dX9_slack_47 : decode cX9_slack 47 = .ok (.invokevirtual 187, 3) := by decide +kernel
theorem dX9_slack_50 : decode cX9_slack 50 = .ok (.ifCond .ne 9, 3) := by decide +kernel
theorem dX9_slack_53 : decode cX9_slack 53 = .ok (.iinc 2 1, 3) := by decide +kernel
theorem dX9_slack_56 : decode cX9_slack 56 = .ok (.goto (-21), 3) := by decide +kernel
theorem dX9_slack_59 : decode cX9_slack 59 = .ok (.iload_n 2, 1) := by decide +kernel
theorem dX9_slack_60 : decode cX9_slack 60 = .ok (.ireturn, 1) := by decide +kernel
theorem dX9_hintsFor_0 : decode cX9_hintsFor 0 = .ok (.aload_n 0, 1) := by decide +kernel
theorem dX9_hintsFor_1 : decode cX9_hintsFor 1 = .ok (.iload_n 1, 1) := by decide +kernel
theorem dX9_hintsFor_2 : decode cX9_hintsFor 2 = .ok (.invokevirtual 77, 3) := by decide +kernel
theorem dX9_hintsFor_5 : decode cX9_hintsFor 5 = .ok (.ifCond .eq 22, 3) := by decide +kernel
theorem dX9_hintsFor_8 : decode cX9_hintsFor 8 = .ok (.iload_n 2, 1) := by decide +kernel
theorem dX9_hintsFor_9 : decode cX9_hintsFor 9 = .ok (.iconst 1, 1) := by decide +kernel
theorem dX9_hintsFor_10 : decode cX9_hintsFor 10 = .ok (.aload_n 0, 1) := by decide +kernel
theorem dX9_hintsFor_11 : decode cX9_hintsFor 11 = .ok (.aload_n 0, 1) := by decide +kernel
theorem dX9_hintsFor_12 : decode cX9_hintsFor 12 = .ok (.iload_n 1, 1) := by decide +kernel
theorem dX9_hintsFor_13 : decode cX9_hintsFor 13 = .ok (.iconst 0, 1) := by decide +kernel
theorem dX9_hintsFor_14 : decode cX9_hintsFor 14 = .ok (.invokevirtual 58, 3) := by decide +kernel
theorem dX9_hintsFor_17 : decode cX9_hintsFor 17 = .ok (.iconst 0, 1) := by decide +kernel
theorem dX9_hintsFor_18 : decode cX9_hintsFor 18 = .ok (.invokevirtual 48, 3) := by decide +kernel
theorem dX9_hintsFor_21 : decode cX9_hintsFor 21 = .ok (.invokestatic 29, 3) := by decide +kernel
theorem dX9_hintsFor_24 : decode cX9_hintsFor 24 = .ok (.ifCond .ne 5, 3) := by decide +kernel
theorem dX9_hintsFor_27 : decode cX9_hintsFor 27 = .ok (.iconst (-1), 1) := by decide +kernel
theorem dX9_hintsFor_28 : decode cX9_hintsFor 28 = .ok (.ireturn, 1) := by decide +kernel
theorem dX9_hintsFor_29 : decode cX9_hintsFor 29 = .ok (.aload_n 0, 1) := by decide +kernel
theorem dX9_hintsFor_30 : decode cX9_hintsFor 30 = .ok (.iload_n 1, 1) := by decide +kernel
theorem dX9_hintsFor_31 : decode cX9_hintsFor 31 = .ok (.iconst 3, 1) := by decide +kernel
theorem dX9_hintsFor_32 : decode cX9_hintsFor 32 = .ok (.invokevirtual 58, 3) := by decide +kernel
theorem dX9_hintsFor_35 : decode cX9_hintsFor 35 = .ok (.ifCond .eq 6, 3) := by decide +kernel
theorem dX9_hintsFor_38 : decode cX9_hintsFor 38 = .ok (.bipush (-2), 2) := by decide +kernel
theorem dX9_hintsFor_40 : decode cX9_hintsFor 40 = .ok (.ireturn, 1) := by decide +kernel
theorem dX9_hintsFor_41 : decode cX9_hintsFor 41 = .ok (.aload_n 0, 1) := by decide +kernel
theorem dX9_hintsFor_42 : decode cX9_hintsFor 42 = .ok (.aload_n 0, 1) := by decide +kernel
theorem dX9_hintsFor_43 : decode cX9_hintsFor 43 = .ok (.iload_n 1, 1) := by decide +kernel
theorem dX9_hintsFor_44 : decode cX9_hintsFor 44 = .ok (.iconst 0, 1) := by decide +kernel
theorem dX9_hintsFor_45 : decode cX9_hintsFor 45 = .ok (.invokevirtual 58, 3) := by decide +kernel
theorem dX9_hintsFor_48 : decode cX9_hintsFor 48 = .ok (.iconst 0, 1) := by decide +kernel
theorem dX9_hintsFor_49 : decode cX9_hintsFor 49 = .ok (.invokevirtual 48, 3) := by decide +kernel
theorem dX9_hintsFor_52 : decode cX9_hintsFor 52 = .ok (.aload_n 0, 1) := by decide +kernel
theorem dX9_hintsFor_53 : decode cX9_hintsFor 53 = .ok (.getfield 7, 3) := by decide +kernel
theorem dX9_hintsFor_56 : decode cX9_hintsFor 56 = .ok (.iconst 5, 1) := by decide +kernel
theorem dX9_hintsFor_57 : decode cX9_hintsFor 57 = .ok (.iaload, 1) := by decide +kernel
theorem dX9_hintsFor_58 : decode cX9_hintsFor 58 = .ok (.iadd, 1) := by decide +kernel
theorem dX9_hintsFor_59 : decode cX9_hintsFor 59 = .ok (.istore_n 3, 1) := by decide +kernel
theorem dX9_hintsFor_60 : decode cX9_hintsFor 60 = .ok (.iconst 0, 1) := by decide +kernel
theorem dX9_hintsFor_61 : decode cX9_hintsFor 61 = .ok (.istore 4, 2) := by decide +kernel
theorem dX9_hintsFor_63 : decode cX9_hintsFor 63 = .ok (.iload 4, 2) := by decide +kernel
theorem dX9_hintsFor_65 : decode cX9_hintsFor 65 = .ok (.bipush 20, 2) := by decide +kernel
theorem dX9_hintsFor_67 : decode cX9_hintsFor 67 = .ok (.if_icmp .ge 26, 3) := by decide +kernel
theorem dX9_hintsFor_70 : decode cX9_hintsFor 70 = .ok (.iload_n 2, 1) := by decide +kernel
theorem dX9_hintsFor_71 : decode cX9_hintsFor 71 = .ok (.iload 4, 2) := by decide +kernel
theorem dX9_hintsFor_73 : decode cX9_hintsFor 73 = .ok (.iconst 1, 1) := by decide +kernel
theorem dX9_hintsFor_74 : decode cX9_hintsFor 74 = .ok (.iadd, 1) := by decide +kernel
theorem dX9_hintsFor_75 : decode cX9_hintsFor 75 = .ok (.aload_n 0, 1) := by decide +kernel
theorem dX9_hintsFor_76 : decode cX9_hintsFor 76 = .ok (.getfield 7, 3) := by decide +kernel
theorem dX9_hintsFor_79 : decode cX9_hintsFor 79 = .ok (.iconst 4, 1) := by decide +kernel
theorem dX9_hintsFor_80 : decode cX9_hintsFor 80 = .ok (.iaload, 1) := by decide +kernel
theorem dX9_hintsFor_81 : decode cX9_hintsFor 81 = .ok (.imul, 1) := by decide +kernel
theorem dX9_hintsFor_82 : decode cX9_hintsFor 82 = .ok (.iadd, 1) := by decide +kernel
theorem dX9_hintsFor_83 : decode cX9_hintsFor 83 = .ok (.iload_n 3, 1) := by decide +kernel
theorem dX9_hintsFor_84 : decode cX9_hintsFor 84 = .ok (.if_icmp .gt 9, 3) := by decide +kernel
theorem dX9_hintsFor_87 : decode cX9_hintsFor 87 = .ok (.iinc 4 1, 3) := by decide +kernel
theorem dX9_hintsFor_90 : decode cX9_hintsFor 90 = .ok (.goto (-27), 3) := by decide +kernel
theorem dX9_hintsFor_93 : decode cX9_hintsFor 93 = .ok (.iload 4, 2) := by decide +kernel
theorem dX9_hintsFor_95 : decode cX9_hintsFor 95 = .ok (.ireturn, 1) := by decide +kernel
theorem dX9_busiest_0 : decode cX9_busiest 0 = .ok (.iload_n 1, 1) := by decide +kernel
theorem dX9_busiest_1 : decode cX9_busiest 1 = .ok (.ifCond .ge 5, 3) := by decide +kernel
theorem dX9_busiest_4 : decode cX9_busiest 4 = .ok (.iconst (-1), 1) := by decide +kernel
theorem dX9_busiest_5 : decode cX9_busiest 5 = .ok (.ireturn, 1) := by decide +kernel
theorem dX9_busiest_6 : decode cX9_busiest 6 = .ok (.iconst 0, 1) := by decide +kernel
theorem dX9_busiest_7 : decode cX9_busiest 7 = .ok (.istore_n 2, 1) := by decide +kernel
theorem dX9_busiest_8 : decode cX9_busiest 8 = .ok (.iload_n 2, 1) := by decide +kernel
theorem dX9_busiest_9 : decode cX9_busiest 9 = .ok (.aload_n 0, 1) := by decide +kernel
theorem dX9_busiest_10 : decode cX9_busiest 10 = .ok (.getfield 7, 3) := by decide +kernel
theorem dX9_busiest_13 : decode cX9_busiest 13 = .ok (.iconst 0, 1) := by decide +kernel
theorem dX9_busiest_14 : decode cX9_busiest 14 = .ok (.iaload, 1) := by decide +kernel
theorem dX9_busiest_15 : decode cX9_busiest 15 = .ok (.if_icmp .ge 88, 3) := by decide +kernel
theorem dX9_busiest_18 : decode cX9_busiest 18 = .ok (.iconst 0, 1) := by decide +kernel
theorem dX9_busiest_19 : decode cX9_busiest 19 = .ok (.istore_n 3, 1) := by decide +kernel
theorem dX9_busiest_20 : decode cX9_busiest 20 = .ok (.iconst 0, 1) := by decide +kernel
theorem dX9_busiest_21 : decode cX9_busiest 21 = .ok (.istore 4, 2) := by decide +kernel
theorem dX9_busiest_23 : decode cX9_busiest 23 = .ok (.iload 4, 2) := by decide +kernel
theorem dX9_busiest_25 : decode cX9_busiest 25 = .ok (.aload_n 0, 1) := by decide +kernel
theorem dX9_busiest_26 : decode cX9_busiest 26 = .ok (.getfield 7, 3) := by decide +kernel
theorem dX9_busiest_29 : decode cX9_busiest 29 = .ok (.iconst 0, 1) := by decide +kernel
theorem dX9_busiest_30 : decode cX9_busiest 30 = .ok (.iaload, 1) := by decide +kernel
theorem dX9_busiest_31 : decode cX9_busiest 31 = .ok (.if_icmp .ge 59, 3) := by decide +kernel
theorem dX9_busiest_34 : decode cX9_busiest 34 = .ok (.iload_n 3, 1) := by decide +kernel
theorem dX9_busiest_35 : decode cX9_busiest 35 = .ok (.aload_n 0, 1) := by decide +kernel
theorem dX9_busiest_36 : decode cX9_busiest 36 = .ok (.iload 4, 2) := by decide +kernel
theorem dX9_busiest_38 : decode cX9_busiest 38 = .ok (.bipush 8, 2) := by decide +kernel
theorem dX9_busiest_40 : decode cX9_busiest 40 = .ok (.invokevirtual 48, 3) := by decide +kernel
theorem dX9_busiest_43 : decode cX9_busiest 43 = .ok (.aload_n 0, 1) := by decide +kernel
theorem dX9_busiest_44 : decode cX9_busiest 44 = .ok (.iload_n 2, 1) := by decide +kernel
theorem dX9_busiest_45 : decode cX9_busiest 45 = .ok (.bipush 8, 2) := by decide +kernel
theorem dX9_busiest_47 : decode cX9_busiest 47 = .ok (.invokevirtual 48, 3) := by decide +kernel
theorem dX9_busiest_50 : decode cX9_busiest 50 = .ok (.if_icmp .gt 27, 3) := by decide +kernel
theorem dX9_busiest_53 : decode cX9_busiest 53 = .ok (.aload_n 0, 1) := by decide +kernel
theorem dX9_busiest_54 : decode cX9_busiest 54 = .ok (.iload 4, 2) := by decide +kernel
theorem dX9_busiest_56 : decode cX9_busiest 56 = .ok (.bipush 8, 2) := by decide +kernel
theorem dX9_busiest_58 : decode cX9_busiest 58 = .ok (.invokevirtual 48, 3) := by decide +kernel
theorem dX9_busiest_61 : decode cX9_busiest 61 = .ok (.aload_n 0, 1) := by decide +kernel
theorem dX9_busiest_62 : decode cX9_busiest 62 = .ok (.iload_n 2, 1) := by decide +kernel
theorem dX9_busiest_63 : decode cX9_busiest 63 = .ok (.bipush 8, 2) := by decide +kernel
theorem dX9_busiest_65 : decode cX9_busiest 65 = .ok (.invokevirtual 48, 3) := by decide +kernel
theorem dX9_busiest_68 : decode cX9_busiest 68 = .ok (.if_icmp .ne 13, 3) := by decide +kernel
theorem dX9_busiest_71 : decode cX9_busiest 71 = .ok (.iload 4, 2) := by decide +kernel
theorem dX9_busiest_73 : decode cX9_busiest 73 = .ok (.iload_n 2, 1) := by decide +kernel
theorem dX9_busiest_74 : decode cX9_busiest 74 = .ok (.if_icmp .ge 7, 3) := by decide +kernel
theorem dX9_busiest_77 : decode cX9_busiest 77 = .ok (.iconst 1, 1) := by decide +kernel
theorem dX9_busiest_78 : decode cX9_busiest 78 = .ok (.goto 4, 3) := by decide +kernel
theorem dX9_busiest_81 : decode cX9_busiest 81 = .ok (.iconst 0, 1) := by decide +kernel
theorem dX9_busiest_82 : decode cX9_busiest 82 = .ok (.iadd, 1) := by decide +kernel
theorem dX9_busiest_83 : decode cX9_busiest 83 = .ok (.istore_n 3, 1) := by decide +kernel
theorem dX9_busiest_84 : decode cX9_busiest 84 = .ok (.iinc 4 1, 3) := by decide +kernel
theorem dX9_busiest_87 : decode cX9_busiest 87 = .ok (.goto (-64), 3) := by decide +kernel
theorem dX9_busiest_90 : decode cX9_busiest 90 = .ok (.iload_n 3, 1) := by decide +kernel
theorem dX9_busiest_91 : decode cX9_busiest 91 = .ok (.iload_n 1, 1) := by decide +kernel
theorem dX9_busiest_92 : decode cX9_busiest 92 = .ok (.if_icmp .ne 5, 3) := by decide +kernel
theorem dX9_busiest_95 : decode cX9_busiest 95 = .ok (.iload_n 2, 1) := by decide +kernel
theorem dX9_busiest_96 : decode cX9_busiest 96 = .ok (.ireturn, 1) := by decide +kernel
theorem dX9_busiest_97 : decode cX9_busiest 97 = .ok (.iinc 2 1, 3) := by decide +kernel
theorem dX9_busiest_100 : decode cX9_busiest 100 = .ok (.goto (-92), 3) := by decide +kernel
theorem dX9_busiest_103 : decode cX9_busiest 103 = .ok (.bipush (-9), 2) := by decide +kernel
theorem dX9_busiest_105 : decode cX9_busiest 105 = .ok (.ireturn, 1) := by decide +kernel
theorem dJ9_abs_0f7a4_0 : decode cJ9_abs_0f7a4 0 = .ok (.iload_n 0, 1) := by decide +kernel
theorem dJ9_abs_0f7a4_1 : decode cJ9_abs_0f7a4 1 = .ok (.ifCond .ge 8, 3) := by decide +kernel
theorem dJ9_abs_0f7a4_4 : decode cJ9_abs_0f7a4 4 = .ok (.iload_n 0, 1) := by decide +kernel
theorem dJ9_abs_0f7a4_5 : decode cJ9_abs_0f7a4 5 = .ok (.ineg, 1) := by decide +kernel
theorem dJ9_abs_0f7a4_6 : decode cJ9_abs_0f7a4 6 = .ok (.goto 4, 3) := by decide +kernel
theorem dJ9_abs_0f7a4_9 : decode cJ9_abs_0f7a4 9 = .ok (.iload_n 0, 1) := by decide +kernel
theorem dJ9_abs_0f7a4_10 : decode cJ9_abs_0f7a4 10 = .ok (.ireturn, 1) := by decide +kernel
theorem dJ9_max_7cf53_0 : decode cJ9_max_7cf53 0 = .ok (.iload_n 0, 1) := by decide +kernel
theorem dJ9_max_7cf53_1 : decode cJ9_max_7cf53 1 = .ok (.iload_n 1, 1) := by decide +kernel
theorem dJ9_max_7cf53_2 : decode cJ9_max_7cf53 2 = .ok (.if_icmp .lt 7, 3) := by decide +kernel
theorem dJ9_max_7cf53_5 : decode cJ9_max_7cf53 5 = .ok (.iload_n 0, 1) := by decide +kernel
theorem dJ9_max_7cf53_6 : decode cJ9_max_7cf53 6 = .ok (.goto 4, 3) := by decide +kernel
theorem dJ9_max_7cf53_9 : decode cJ9_max_7cf53 9 = .ok (.iload_n 1, 1) := by decide +kernel
theorem dJ9_max_7cf53_10 : decode cJ9_max_7cf53 10 = .ok (.ireturn, 1) := by decide +kernel
theorem dJ9_min_7cf53_0 : decode cJ9_min_7cf53 0 = .ok (.iload_n 0, 1) := by decide +kernel
theorem dJ9_min_7cf53_1 : decode cJ9_min_7cf53 1 = .ok (.iload_n 1, 1) := by decide +kernel
theorem dJ9_min_7cf53_2 : decode cJ9_min_7cf53 2 = .ok (.if_icmp .gt 7, 3) := by decide +kernel
theorem dJ9_min_7cf53_5 : decode cJ9_min_7cf53 5 = .ok (.iload_n 0, 1) := by decide +kernel
theorem dJ9_min_7cf53_6 : decode cJ9_min_7cf53 6 = .ok (.goto 4, 3) := by decide +kernel
theorem dJ9_min_7cf53_9 : decode cJ9_min_7cf53 9 = .ok (.iload_n 1, 1) := by decide +kernel
theorem dJ9_min_7cf53_10 : decode cJ9_min_7cf53 10 = .ok (.ireturn, 1) := by decide +kernel
theorem dJ0_length_8abf5_0 : decode cJ0_length_8abf5 0 = .ok (.aload_n 0, 1) := by decide +kernel
theorem dJ0_length_8abf5_1 : decode cJ0_length_8abf5 1 = .ok (.getfield 9, 3) := by decide +kernel
theorem dJ0_length_8abf5_4 : decode cJ0_length_8abf5 4 = .ok (.arraylength, 1) := by decide +kernel
theorem dJ0_length_8abf5_5 : decode cJ0_length_8abf5 5 = .ok (.aload_n 0, 1) := by decide +kernel
theorem dJ0_length_8abf5_6 : decode cJ0_length_8abf5 6 = .ok (.invokevirtual 335, 3) := by decide +kernel
theorem dJ0_length_8abf5_9 : decode cJ0_length_8abf5 9 = .ok (.ishr, 1) := by decide +kernel
theorem dJ0_length_8abf5_10 : decode cJ0_length_8abf5 10 = .ok (.ireturn, 1) := by decide +kernel
theorem dJ0_charAt_5068e_0 : decode cJ0_charAt_5068e 0 = .ok (.aload_n 0, 1) := by decide +kernel
theorem dJ0_charAt_5068e_1 : decode cJ0_charAt_5068e 1 = .ok (.invokevirtual 492, 3) := by decide +kernel
theorem dJ0_charAt_5068e_4 : decode cJ0_charAt_5068e 4 = .ok (.ifCond .eq 12, 3) := by decide +kernel
theorem dJ0_charAt_5068e_7 : decode cJ0_charAt_5068e 7 = .ok (.aload_n 0, 1) := by decide +kernel
theorem dJ0_charAt_5068e_8 : decode cJ0_charAt_5068e 8 = .ok (.getfield 9, 3) := by decide +kernel
theorem dJ0_charAt_5068e_11 : decode cJ0_charAt_5068e 11 = .ok (.iload_n 1, 1) := by decide +kernel
theorem dJ0_charAt_5068e_12 : decode cJ0_charAt_5068e 12 = .ok (.invokestatic 495, 3) := by decide +kernel
theorem dJ0_charAt_5068e_15 : decode cJ0_charAt_5068e 15 = .ok (.ireturn, 1) := by decide +kernel
theorem dJ0_charAt_5068e_16 : decode cJ0_charAt_5068e 16 = .ok (.aload_n 0, 1) := by decide +kernel
theorem dJ0_charAt_5068e_17 : decode cJ0_charAt_5068e 17 = .ok (.getfield 9, 3) := by decide +kernel
theorem dJ0_charAt_5068e_20 : decode cJ0_charAt_5068e 20 = .ok (.iload_n 1, 1) := by decide +kernel
theorem dJ0_charAt_5068e_21 : decode cJ0_charAt_5068e 21 = .ok (.invokestatic 498, 3) := by decide +kernel
theorem dJ0_charAt_5068e_24 : decode cJ0_charAt_5068e 24 = .ok (.ireturn, 1) := by decide +kernel
theorem dJ0_coder_7d493_0 : decode cJ0_coder_7d493 0 = .ok (.getstatic 38, 3) := by decide +kernel
theorem dJ0_coder_7d493_3 : decode cJ0_coder_7d493 3 = .ok (.ifCond .eq 10, 3) := by decide +kernel
theorem dJ0_coder_7d493_6 : decode cJ0_coder_7d493 6 = .ok (.aload_n 0, 1) := by decide +kernel
theorem dJ0_coder_7d493_7 : decode cJ0_coder_7d493 7 = .ok (.getfield 15, 3) := by decide +kernel
theorem dJ0_coder_7d493_10 : decode cJ0_coder_7d493 10 = .ok (.goto 4, 3) := by decide +kernel
theorem dJ0_coder_7d493_13 : decode cJ0_coder_7d493 13 = .ok (.iconst 1, 1) := by decide +kernel
theorem dJ0_coder_7d493_14 : decode cJ0_coder_7d493 14 = .ok (.ireturn, 1) := by decide +kernel
theorem dJ0_isLatin1_aae02_0 : decode cJ0_isLatin1_aae02 0 = .ok (.getstatic 38, 3) := by decide +kernel
theorem dJ0_isLatin1_aae02_3 : decode cJ0_isLatin1_aae02 3 = .ok (.ifCond .eq 14, 3) := by decide +kernel
theorem dJ0_isLatin1_aae02_6 : decode cJ0_isLatin1_aae02 6 = .ok (.aload_n 0, 1) := by decide +kernel
theorem dJ0_isLatin1_aae02_7 : decode cJ0_isLatin1_aae02 7 = .ok (.getfield 15, 3) := by decide +kernel
theorem dJ0_isLatin1_aae02_10 : decode cJ0_isLatin1_aae02 10 = .ok (.ifCond .ne 7, 3) := by decide +kernel
theorem dJ0_isLatin1_aae02_13 : decode cJ0_isLatin1_aae02 13 = .ok (.iconst 1, 1) := by decide +kernel
theorem dJ0_isLatin1_aae02_14 : decode cJ0_isLatin1_aae02 14 = .ok (.goto 4, 3) := by decide +kernel
theorem dJ0_isLatin1_aae02_17 : decode cJ0_isLatin1_aae02 17 = .ok (.iconst 0, 1) := by decide +kernel
theorem dJ0_isLatin1_aae02_18 : decode cJ0_isLatin1_aae02 18 = .ok (.ireturn, 1) := by decide +kernel
theorem dJ0_checkIndex_df160_0 : decode cJ0_checkIndex_df160 0 = .ok (.iload_n 0, 1) := by decide +kernel
theorem dJ0_checkIndex_df160_1 : decode cJ0_checkIndex_df160 1 = .ok (.iload_n 1, 1) := by decide +kernel
theorem dJ0_checkIndex_df160_2 : decode cJ0_checkIndex_df160 2 = .ok (.getstatic 1053, 3) := by decide +kernel
theorem dJ0_checkIndex_df160_5 : decode cJ0_checkIndex_df160 5 = .ok (.invokestatic 1059, 3) := by decide +kernel
theorem dJ0_checkIndex_df160_8 : decode cJ0_checkIndex_df160 8 = .ok (.pop, 1) := by decide +kernel
theorem dJ0_checkIndex_df160_9 : decode cJ0_checkIndex_df160 9 = .ok (.return_, 1) := by decide +kernel
theorem dJ1_charAt_3b067_0 : decode cJ1_charAt_3b067 0 = .ok (.iload_n 1, 1) := by decide +kernel
theorem dJ1_charAt_3b067_1 : decode cJ1_charAt_3b067 1 = .ok (.aload_n 0, 1) := by decide +kernel
theorem dJ1_charAt_3b067_2 : decode cJ1_charAt_3b067 2 = .ok (.arraylength, 1) := by decide +kernel
theorem dJ1_charAt_3b067_3 : decode cJ1_charAt_3b067 3 = .ok (.invokestatic 9, 3) := by decide +kernel
theorem dJ1_charAt_3b067_6 : decode cJ1_charAt_3b067 6 = .ok (.aload_n 0, 1) := by decide +kernel
theorem dJ1_charAt_3b067_7 : decode cJ1_charAt_3b067 7 = .ok (.iload_n 1, 1) := by decide +kernel
theorem dJ1_charAt_3b067_8 : decode cJ1_charAt_3b067 8 = .ok (.baload, 1) := by decide +kernel
theorem dJ1_charAt_3b067_9 : decode cJ1_charAt_3b067 9 = .ok (.sipush 255, 3) := by decide +kernel
theorem dJ1_charAt_3b067_12 : decode cJ1_charAt_3b067 12 = .ok (.iand, 1) := by decide +kernel
theorem dJ1_charAt_3b067_13 : decode cJ1_charAt_3b067 13 = .ok (.i2c, 1) := by decide +kernel
theorem dJ1_charAt_3b067_14 : decode cJ1_charAt_3b067 14 = .ok (.ireturn, 1) := by decide +kernel
theorem dJ3_checkIndex_8e157_0 : decode cJ3_checkIndex_8e157 0 = .ok (.iload_n 0, 1) := by decide +kernel
theorem dJ3_checkIndex_8e157_1 : decode cJ3_checkIndex_8e157 1 = .ok (.ifCond .lt 8, 3) := by decide +kernel
theorem dJ3_checkIndex_8e157_4 : decode cJ3_checkIndex_8e157 4 = .ok (.iload_n 0, 1) := by decide +kernel
theorem dJ3_checkIndex_8e157_5 : decode cJ3_checkIndex_8e157 5 = .ok (.iload_n 1, 1) := by decide +kernel
theorem dJ3_checkIndex_8e157_6 : decode cJ3_checkIndex_8e157 6 = .ok (.if_icmp .lt 10, 3) := by decide +kernel
theorem dJ3_checkIndex_8e157_9 : decode cJ3_checkIndex_8e157 9 = .ok (.aload_n 2, 1) := by decide +kernel
theorem dJ3_checkIndex_8e157_10 : decode cJ3_checkIndex_8e157 10 = .ok (.iload_n 0, 1) := by decide +kernel
theorem dJ3_checkIndex_8e157_11 : decode cJ3_checkIndex_8e157 11 = .ok (.iload_n 1, 1) := by decide +kernel
theorem dJ3_checkIndex_8e157_12 : decode cJ3_checkIndex_8e157 12 = .ok (.invokestatic 95, 3) := by decide +kernel
theorem dJ3_checkIndex_8e157_15 : decode cJ3_checkIndex_8e157 15 = .ok (.athrow, 1) := by decide +kernel
theorem dJ3_checkIndex_8e157_16 : decode cJ3_checkIndex_8e157 16 = .ok (.iload_n 0, 1) := by decide +kernel
theorem dJ3_checkIndex_8e157_17 : decode cJ3_checkIndex_8e157 17 = .ok (.ireturn, 1) := by decide +kernel
theorem dL_law_0 : decode cL_law 0 = .ok (.new 7, 3) := by decide +kernel
theorem dL_law_3 : decode cL_law 3 = .ok (.dup, 1) := by decide +kernel
theorem dL_law_4 : decode cL_law 4 = .ok (.invokespecial 9, 3) := by decide +kernel
theorem dL_law_7 : decode cL_law 7 = .ok (.astore_n 1, 1) := by decide +kernel
theorem dL_law_8 : decode cL_law 8 = .ok (.new 10, 3) := by decide +kernel
theorem dL_law_11 : decode cL_law 11 = .ok (.dup, 1) := by decide +kernel
theorem dL_law_12 : decode cL_law 12 = .ok (.invokespecial 12, 3) := by decide +kernel
theorem dL_law_15 : decode cL_law 15 = .ok (.astore_n 2, 1) := by decide +kernel
theorem dL_law_16 : decode cL_law 16 = .ok (.iconst 0, 1) := by decide +kernel
theorem dL_law_17 : decode cL_law 17 = .ok (.istore_n 3, 1) := by decide +kernel
theorem dL_law_18 : decode cL_law 18 = .ok (.iload_n 3, 1) := by decide +kernel
theorem dL_law_19 : decode cL_law 19 = .ok (.aload_n 0, 1) := by decide +kernel
theorem dL_law_20 : decode cL_law 20 = .ok (.arraylength, 1) := by decide +kernel
theorem dL_law_21 : decode cL_law 21 = .ok (.iconst 5, 1) := by decide +kernel
theorem dL_law_22 : decode cL_law 22 = .ok (.isub, 1) := by decide +kernel
theorem dL_law_23 : decode cL_law 23 = .ok (.if_icmp .gt 903, 3) := by decide +kernel
theorem dL_law_26 : decode cL_law 26 = .ok (.aload_n 0, 1) := by decide +kernel
theorem dL_law_27 : decode cL_law 27 = .ok (.iload_n 3, 1) := by decide +kernel
theorem dL_law_28 : decode cL_law 28 = .ok (.iaload, 1) := by decide +kernel
theorem dL_law_29 : decode cL_law 29 = .ok (.bipush 31, 2) := by decide +kernel
theorem dL_law_31 : decode cL_law 31 = .ok (.iand, 1) := by decide +kernel
theorem dL_law_32 : decode cL_law 32 = .ok (.tableswitch 888 0 25 #[120, 173, 206, 239, 262, 315, 348, 371, 404, 457, 480, 503, 516, 539, 552, 565, 588, 621, 654, 687, 710, 743, 776, 809, 832, 865], 120) := by decide +kernel
theorem dL_law_152 : decode cL_law 152 = .ok (.aload_n 1, 1) := by decide +kernel
theorem dL_law_153 : decode cL_law 153 = .ok (.aload_n 0, 1) := by decide +kernel
theorem dL_law_154 : decode cL_law 154 = .ok (.iload_n 3, 1) := by decide +kernel
theorem dL_law_155 : decode cL_law 155 = .ok (.iconst 1, 1) := by decide +kernel
theorem dL_law_156 : decode cL_law 156 = .ok (.iadd, 1) := by decide +kernel
theorem dL_law_157 : decode cL_law 157 = .ok (.iaload, 1) := by decide +kernel
theorem dL_law_158 : decode cL_law 158 = .ok (.aload_n 0, 1) := by decide +kernel
theorem dL_law_159 : decode cL_law 159 = .ok (.iload_n 3, 1) := by decide +kernel
theorem dL_law_160 : decode cL_law 160 = .ok (.iconst 2, 1) := by decide +kernel
theorem dL_law_161 : decode cL_law 161 = .ok (.iadd, 1) := by decide +kernel
theorem dL_law_162 : decode cL_law 162 = .ok (.iaload, 1) := by decide +kernel
theorem dL_law_163 : decode cL_law 163 = .ok (.aload_n 0, 1) := by decide +kernel
theorem dL_law_164 : decode cL_law 164 = .ok (.iload_n 3, 1) := by decide +kernel
theorem dL_law_165 : decode cL_law 165 = .ok (.iconst 3, 1) := by decide +kernel
theorem dL_law_166 : decode cL_law 166 = .ok (.iadd, 1) := by decide +kernel
theorem dL_law_167 : decode cL_law 167 = .ok (.iaload, 1) := by decide +kernel
theorem dL_law_168 : decode cL_law 168 = .ok (.aload_n 0, 1) := by decide +kernel
theorem dL_law_169 : decode cL_law 169 = .ok (.iload_n 3, 1) := by decide +kernel
theorem dL_law_170 : decode cL_law 170 = .ok (.iconst 4, 1) := by decide +kernel
theorem dL_law_171 : decode cL_law 171 = .ok (.iadd, 1) := by decide +kernel
theorem dL_law_172 : decode cL_law 172 = .ok (.iaload, 1) := by decide +kernel
theorem dL_law_173 : decode cL_law 173 = .ok (.invokevirtual 13, 3) := by decide +kernel
theorem dL_law_176 : decode cL_law 176 = .ok (.aload_n 2, 1) := by decide +kernel
theorem dL_law_177 : decode cL_law 177 = .ok (.aload_n 0, 1) := by decide +kernel
theorem dL_law_178 : decode cL_law 178 = .ok (.iload_n 3, 1) := by decide +kernel
theorem dL_law_179 : decode cL_law 179 = .ok (.iconst 1, 1) := by decide +kernel
theorem dL_law_180 : decode cL_law 180 = .ok (.iadd, 1) := by decide +kernel
theorem dL_law_181 : decode cL_law 181 = .ok (.iaload, 1) := by decide +kernel
theorem dL_law_182 : decode cL_law 182 = .ok (.aload_n 0, 1) := by decide +kernel
theorem dL_law_183 : decode cL_law 183 = .ok (.iload_n 3, 1) := by decide +kernel
theorem dL_law_184 : decode cL_law 184 = .ok (.iconst 2, 1) := by decide +kernel
theorem dL_law_185 : decode cL_law 185 = .ok (.iadd, 1) := by decide +kernel
theorem dL_law_186 : decode cL_law 186 = .ok (.iaload, 1) := by decide +kernel
theorem dL_law_187 : decode cL_law 187 = .ok (.aload_n 0, 1) := by decide +kernel
theorem dL_law_188 : decode cL_law 188 = .ok (.iload_n 3, 1) := by decide +kernel
theorem dL_law_189 : decode cL_law 189 = .ok (.iconst 3, 1) := by decide +kernel
theorem dL_law_190 : decode cL_law 190 = .ok (.iadd, 1) := by decide +kernel
theorem dL_law_191 : decode cL_law 191 = .ok (.iaload, 1) := by decide +kernel
theorem dL_law_192 : decode cL_law 192 = .ok (.aload_n 0, 1) := by decide +kernel
theorem dL_law_193 : decode cL_law 193 = .ok (.iload_n 3, 1) := by decide +kernel
theorem dL_law_194 : decode cL_law 194 = .ok (.iconst 4, 1) := by decide +kernel
theorem dL_law_195 : decode cL_law 195 = .ok (.iadd, 1) := by decide +kernel
theorem dL_law_196 : decode cL_law 196 = .ok (.iaload, 1) := by decide +kernel
theorem dL_law_197 : decode cL_law 197 = .ok (.invokevirtual 17, 3) := by decide +kernel
theorem dL_law_200 : decode cL_law 200 = .ok (.if_icmp .eq 720, 3) := by decide +kernel
theorem dL_law_203 : decode cL_law 203 = .ok (.iconst 0, 1) := by decide +kernel
theorem dL_law_204 : decode cL_law 204 = .ok (.ireturn, 1) := by decide +kernel
theorem dL_law_205 : decode cL_law 205 = .ok (.aload_n 1, 1) := by decide +kernel
theorem dL_law_206 : decode cL_law 206 = .ok (.aload_n 0, 1) := by decide +kernel
theorem dL_law_207 : decode cL_law 207 = .ok (.iload_n 3, 1) := by decide +kernel
theorem dL_law_208 : decode cL_law 208 = .ok (.iconst 1, 1) := by decide +kernel
theorem dL_law_209 : decode cL_law 209 = .ok (.iadd, 1) := by decide +kernel
theorem dL_law_210 : decode cL_law 210 = .ok (.iaload, 1) := by decide +kernel
theorem dL_law_211 : decode cL_law 211 = .ok (.aload_n 0, 1) := by decide +kernel
theorem dL_law_212 : decode cL_law 212 = .ok (.iload_n 3, 1) := by decide +kernel
theorem dL_law_213 : decode cL_law 213 = .ok (.iconst 2, 1) := by decide +kernel
theorem dL_law_214 : decode cL_law 214 = .ok (.iadd, 1) := by decide +kernel
theorem dL_law_215 : decode cL_law 215 = .ok (.iaload, 1) := by decide +kernel
theorem dL_law_216 : decode cL_law 216 = .ok (.invokevirtual 18, 3) := by decide +kernel
theorem dL_law_219 : decode cL_law 219 = .ok (.aload_n 2, 1) := by decide +kernel
theorem dL_law_220 : decode cL_law 220 = .ok (.aload_n 0, 1) := by decide +kernel
theorem dL_law_221 : decode cL_law 221 = .ok (.iload_n 3, 1) := by decide +kernel
theorem dL_law_222 : decode cL_law 222 = .ok (.iconst 1, 1) := by decide +kernel
theorem dL_law_223 : decode cL_law 223 = .ok (.iadd, 1) := by decide +kernel
theorem dL_law_224 : decode cL_law 224 = .ok (.iaload, 1) := by decide +kernel
theorem dL_law_225 : decode cL_law 225 = .ok (.aload_n 0, 1) := by decide +kernel
theorem dL_law_226 : decode cL_law 226 = .ok (.iload_n 3, 1) := by decide +kernel
theorem dL_law_227 : decode cL_law 227 = .ok (.iconst 2, 1) := by decide +kernel
theorem dL_law_228 : decode cL_law 228 = .ok (.iadd, 1) := by decide +kernel
theorem dL_law_229 : decode cL_law 229 = .ok (.iaload, 1) := by decide +kernel
theorem dL_law_230 : decode cL_law 230 = .ok (.invokevirtual 22, 3) := by decide +kernel
theorem dL_law_233 : decode cL_law 233 = .ok (.if_icmp .eq 687, 3) := by decide +kernel
theorem dL_law_236 : decode cL_law 236 = .ok (.iconst 0, 1) := by decide +kernel
theorem dL_law_237 : decode cL_law 237 = .ok (.ireturn, 1) := by decide +kernel
theorem dL_law_238 : decode cL_law 238 = .ok (.aload_n 1, 1) := by decide +kernel
theorem dL_law_239 : decode cL_law 239 = .ok (.aload_n 0, 1) := by decide +kernel
theorem dL_law_240 : decode cL_law 240 = .ok (.iload_n 3, 1) := by decide +kernel
theorem dL_law_241 : decode cL_law 241 = .ok (.iconst 1, 1) := by decide +kernel
theorem dL_law_242 : decode cL_law 242 = .ok (.iadd, 1) := by decide +kernel
theorem dL_law_243 : decode cL_law 243 = .ok (.iaload, 1) := by decide +kernel
theorem dL_law_244 : decode cL_law 244 = .ok (.aload_n 0, 1) := by decide +kernel
theorem dL_law_245 : decode cL_law 245 = .ok (.iload_n 3, 1) := by decide +kernel
theorem dL_law_246 : decode cL_law 246 = .ok (.iconst 2, 1) := by decide +kernel
theorem dL_law_247 : decode cL_law 247 = .ok (.iadd, 1) := by decide +kernel
theorem dL_law_248 : decode cL_law 248 = .ok (.iaload, 1) := by decide +kernel
theorem dL_law_249 : decode cL_law 249 = .ok (.invokevirtual 23, 3) := by decide +kernel
theorem dL_law_252 : decode cL_law 252 = .ok (.aload_n 2, 1) := by decide +kernel
theorem dL_law_253 : decode cL_law 253 = .ok (.aload_n 0, 1) := by decide +kernel
theorem dL_law_254 : decode cL_law 254 = .ok (.iload_n 3, 1) := by decide +kernel
theorem dL_law_255 : decode cL_law 255 = .ok (.iconst 1, 1) := by decide +kernel
theorem dL_law_256 : decode cL_law 256 = .ok (.iadd, 1) := by decide +kernel
theorem dL_law_257 : decode cL_law 257 = .ok (.iaload, 1) := by decide +kernel
theorem dL_law_258 : decode cL_law 258 = .ok (.aload_n 0, 1) := by decide +kernel
theorem dL_law_259 : decode cL_law 259 = .ok (.iload_n 3, 1) := by decide +kernel
theorem dL_law_260 : decode cL_law 260 = .ok (.iconst 2, 1) := by decide +kernel
theorem dL_law_261 : decode cL_law 261 = .ok (.iadd, 1) := by decide +kernel
theorem dL_law_262 : decode cL_law 262 = .ok (.iaload, 1) := by decide +kernel
theorem dL_law_263 : decode cL_law 263 = .ok (.invokevirtual 26, 3) := by decide +kernel
theorem dL_law_266 : decode cL_law 266 = .ok (.if_icmp .eq 654, 3) := by decide +kernel
theorem dL_law_269 : decode cL_law 269 = .ok (.iconst 0, 1) := by decide +kernel
theorem dL_law_270 : decode cL_law 270 = .ok (.ireturn, 1) := by decide +kernel
theorem dL_law_271 : decode cL_law 271 = .ok (.aload_n 1, 1) := by decide +kernel
theorem dL_law_272 : decode cL_law 272 = .ok (.aload_n 0, 1) := by decide +kernel
theorem dL_law_273 : decode cL_law 273 = .ok (.iload_n 3, 1) := by decide +kernel
theorem dL_law_274 : decode cL_law 274 = .ok (.iconst 1, 1) := by decide +kernel
theorem dL_law_275 : decode cL_law 275 = .ok (.iadd, 1) := by decide +kernel
theorem dL_law_276 : decode cL_law 276 = .ok (.iaload, 1) := by decide +kernel
theorem dL_law_277 : decode cL_law 277 = .ok (.invokevirtual 27, 3) := by decide +kernel
theorem dL_law_280 : decode cL_law 280 = .ok (.aload_n 2, 1) := by decide +kernel
theorem dL_law_281 : decode cL_law 281 = .ok (.aload_n 0, 1) := by decide +kernel
theorem dL_law_282 : decode cL_law 282 = .ok (.iload_n 3, 1) := by decide +kernel
theorem dL_law_283 : decode cL_law 283 = .ok (.iconst 1, 1) := by decide +kernel
theorem dL_law_284 : decode cL_law 284 = .ok (.iadd, 1) := by decide +kernel
theorem dL_law_285 : decode cL_law 285 = .ok (.iaload, 1) := by decide +kernel
theorem dL_law_286 : decode cL_law 286 = .ok (.invokevirtual 31, 3) := by decide +kernel
theorem dL_law_289 : decode cL_law 289 = .ok (.if_icmp .eq 631, 3) := by decide +kernel
theorem dL_law_292 : decode cL_law 292 = .ok (.iconst 0, 1) := by decide +kernel
theorem dL_law_293 : decode cL_law 293 = .ok (.ireturn, 1) := by decide +kernel
theorem dL_law_294 : decode cL_law 294 = .ok (.aload_n 1, 1) := by decide +kernel
theorem dL_law_295 : decode cL_law 295 = .ok (.aload_n 0, 1) := by decide +kernel
theorem dL_law_296 : decode cL_law 296 = .ok (.iload_n 3, 1) := by decide +kernel
theorem dL_law_297 : decode cL_law 297 = .ok (.iconst 1, 1) := by decide +kernel
theorem dL_law_298 : decode cL_law 298 = .ok (.iadd, 1) := by decide +kernel
theorem dL_law_299 : decode cL_law 299 = .ok (.iaload, 1) := by decide +kernel
theorem dL_law_300 : decode cL_law 300 = .ok (.aload_n 0, 1) := by decide +kernel
theorem dL_law_301 : decode cL_law 301 = .ok (.iload_n 3, 1) := by decide +kernel
theorem dL_law_302 : decode cL_law 302 = .ok (.iconst 2, 1) := by decide +kernel
theorem dL_law_303 : decode cL_law 303 = .ok (.iadd, 1) := by decide +kernel
theorem dL_law_304 : decode cL_law 304 = .ok (.iaload, 1) := by decide +kernel
theorem dL_law_305 : decode cL_law 305 = .ok (.aload_n 0, 1) := by decide +kernel
theorem dL_law_306 : decode cL_law 306 = .ok (.iload_n 3, 1) := by decide +kernel
theorem dL_law_307 : decode cL_law 307 = .ok (.iconst 3, 1) := by decide +kernel
theorem dL_law_308 : decode cL_law 308 = .ok (.iadd, 1) := by decide +kernel
theorem dL_law_309 : decode cL_law 309 = .ok (.iaload, 1) := by decide +kernel
theorem dL_law_310 : decode cL_law 310 = .ok (.aload_n 0, 1) := by decide +kernel
theorem dL_law_311 : decode cL_law 311 = .ok (.iload_n 3, 1) := by decide +kernel
theorem dL_law_312 : decode cL_law 312 = .ok (.iconst 4, 1) := by decide +kernel
theorem dL_law_313 : decode cL_law 313 = .ok (.iadd, 1) := by decide +kernel
theorem dL_law_314 : decode cL_law 314 = .ok (.iaload, 1) := by decide +kernel
theorem dL_law_315 : decode cL_law 315 = .ok (.invokevirtual 32, 3) := by decide +kernel
theorem dL_law_318 : decode cL_law 318 = .ok (.aload_n 2, 1) := by decide +kernel
theorem dL_law_319 : decode cL_law 319 = .ok (.aload_n 0, 1) := by decide +kernel
theorem dL_law_320 : decode cL_law 320 = .ok (.iload_n 3, 1) := by decide +kernel
theorem dL_law_321 : decode cL_law 321 = .ok (.iconst 1, 1) := by decide +kernel
theorem dL_law_322 : decode cL_law 322 = .ok (.iadd, 1) := by decide +kernel
theorem dL_law_323 : decode cL_law 323 = .ok (.iaload, 1) := by decide +kernel
theorem dL_law_324 : decode cL_law 324 = .ok (.aload_n 0, 1) := by decide +kernel
theorem dL_law_325 : decode cL_law 325 = .ok (.iload_n 3, 1) := by decide +kernel
theorem dL_law_326 : decode cL_law 326 = .ok (.iconst 2, 1) := by decide +kernel
theorem dL_law_327 : decode cL_law 327 = .ok (.iadd, 1) := by decide +kernel
theorem dL_law_328 : decode cL_law 328 = .ok (.iaload, 1) := by decide +kernel
theorem dL_law_329 : decode cL_law 329 = .ok (.aload_n 0, 1) := by decide +kernel
theorem dL_law_330 : decode cL_law 330 = .ok (.iload_n 3, 1) := by decide +kernel
theorem dL_law_331 : decode cL_law 331 = .ok (.iconst 3, 1) := by decide +kernel
theorem dL_law_332 : decode cL_law 332 = .ok (.iadd, 1) := by decide +kernel
theorem dL_law_333 : decode cL_law 333 = .ok (.iaload, 1) := by decide +kernel
theorem dL_law_334 : decode cL_law 334 = .ok (.aload_n 0, 1) := by decide +kernel
theorem dL_law_335 : decode cL_law 335 = .ok (.iload_n 3, 1) := by decide +kernel
theorem dL_law_336 : decode cL_law 336 = .ok (.iconst 4, 1) := by decide +kernel
theorem dL_law_337 : decode cL_law 337 = .ok (.iadd, 1) := by decide +kernel
theorem dL_law_338 : decode cL_law 338 = .ok (.iaload, 1) := by decide +kernel
theorem dL_law_339 : decode cL_law 339 = .ok (.invokevirtual 35, 3) := by decide +kernel
theorem dL_law_342 : decode cL_law 342 = .ok (.if_icmp .eq 578, 3) := by decide +kernel
theorem dL_law_345 : decode cL_law 345 = .ok (.iconst 0, 1) := by decide +kernel
theorem dL_law_346 : decode cL_law 346 = .ok (.ireturn, 1) := by decide +kernel
theorem dL_law_347 : decode cL_law 347 = .ok (.aload_n 1, 1) := by decide +kernel
theorem dL_law_348 : decode cL_law 348 = .ok (.aload_n 0, 1) := by decide +kernel
theorem dL_law_349 : decode cL_law 349 = .ok (.iload_n 3, 1) := by decide +kernel
theorem dL_law_350 : decode cL_law 350 = .ok (.iconst 1, 1) := by decide +kernel
theorem dL_law_351 : decode cL_law 351 = .ok (.iadd, 1) := by decide +kernel
theorem dL_law_352 : decode cL_law 352 = .ok (.iaload, 1) := by decide +kernel
theorem dL_law_353 : decode cL_law 353 = .ok (.aload_n 0, 1) := by decide +kernel
theorem dL_law_354 : decode cL_law 354 = .ok (.iload_n 3, 1) := by decide +kernel
theorem dL_law_355 : decode cL_law 355 = .ok (.iconst 2, 1) := by decide +kernel
theorem dL_law_356 : decode cL_law 356 = .ok (.iadd, 1) := by decide +kernel
theorem dL_law_357 : decode cL_law 357 = .ok (.iaload, 1) := by decide +kernel
theorem dL_law_358 : decode cL_law 358 = .ok (.invokevirtual 36, 3) := by decide +kernel
theorem dL_law_361 : decode cL_law 361 = .ok (.aload_n 2, 1) := by decide +kernel
theorem dL_law_362 : decode cL_law 362 = .ok (.aload_n 0, 1) := by decide +kernel
theorem dL_law_363 : decode cL_law 363 = .ok (.iload_n 3, 1) := by decide +kernel
theorem dL_law_364 : decode cL_law 364 = .ok (.iconst 1, 1) := by decide +kernel
theorem dL_law_365 : decode cL_law 365 = .ok (.iadd, 1) := by decide +kernel
theorem dL_law_366 : decode cL_law 366 = .ok (.iaload, 1) := by decide +kernel
theorem dL_law_367 : decode cL_law 367 = .ok (.aload_n 0, 1) := by decide +kernel
theorem dL_law_368 : decode cL_law 368 = .ok (.iload_n 3, 1) := by decide +kernel
theorem dL_law_369 : decode cL_law 369 = .ok (.iconst 2, 1) := by decide +kernel
theorem dL_law_370 : decode cL_law 370 = .ok (.iadd, 1) := by decide +kernel
theorem dL_law_371 : decode cL_law 371 = .ok (.iaload, 1) := by decide +kernel
theorem dL_law_372 : decode cL_law 372 = .ok (.invokevirtual 39, 3) := by decide +kernel
theorem dL_law_375 : decode cL_law 375 = .ok (.if_icmp .eq 545, 3) := by decide +kernel
theorem dL_law_378 : decode cL_law 378 = .ok (.iconst 0, 1) := by decide +kernel
theorem dL_law_379 : decode cL_law 379 = .ok (.ireturn, 1) := by decide +kernel
theorem dL_law_380 : decode cL_law 380 = .ok (.aload_n 1, 1) := by decide +kernel
theorem dL_law_381 : decode cL_law 381 = .ok (.aload_n 0, 1) := by decide +kernel
theorem dL_law_382 : decode cL_law 382 = .ok (.iload_n 3, 1) := by decide +kernel
theorem dL_law_383 : decode cL_law 383 = .ok (.iconst 1, 1) := by decide +kernel
theorem dL_law_384 : decode cL_law 384 = .ok (.iadd, 1) := by decide +kernel
theorem dL_law_385 : decode cL_law 385 = .ok (.iaload, 1) := by decide +kernel
theorem dL_law_386 : decode cL_law 386 = .ok (.invokevirtual 40, 3) := by decide +kernel
theorem dL_law_389 : decode cL_law 389 = .ok (.aload_n 2, 1) := by decide +kernel
theorem dL_law_390 : decode cL_law 390 = .ok (.aload_n 0, 1) := by decide +kernel
theorem dL_law_391 : decode cL_law 391 = .ok (.iload_n 3, 1) := by decide +kernel
theorem dL_law_392 : decode cL_law 392 = .ok (.iconst 1, 1) := by decide +kernel
theorem dL_law_393 : decode cL_law 393 = .ok (.iadd, 1) := by decide +kernel
theorem dL_law_394 : decode cL_law 394 = .ok (.iaload, 1) := by decide +kernel
theorem dL_law_395 : decode cL_law 395 = .ok (.invokevirtual 43, 3) := by decide +kernel
theorem dL_law_398 : decode cL_law 398 = .ok (.if_icmp .eq 522, 3) := by decide +kernel
theorem dL_law_401 : decode cL_law 401 = .ok (.iconst 0, 1) := by decide +kernel
theorem dL_law_402 : decode cL_law 402 = .ok (.ireturn, 1) := by decide +kernel
theorem dL_law_403 : decode cL_law 403 = .ok (.aload_n 1, 1) := by decide +kernel
theorem dL_law_404 : decode cL_law 404 = .ok (.aload_n 0, 1) := by decide +kernel
theorem dL_law_405 : decode cL_law 405 = .ok (.iload_n 3, 1) := by decide +kernel
theorem dL_law_406 : decode cL_law 406 = .ok (.iconst 1, 1) := by decide +kernel
theorem dL_law_407 : decode cL_law 407 = .ok (.iadd, 1) := by decide +kernel
theorem dL_law_408 : decode cL_law 408 = .ok (.iaload, 1) := by decide +kernel
theorem dL_law_409 : decode cL_law 409 = .ok (.aload_n 0, 1) := by decide +kernel
theorem dL_law_410 : decode cL_law 410 = .ok (.iload_n 3, 1) := by decide +kernel
theorem dL_law_411 : decode cL_law 411 = .ok (.iconst 2, 1) := by decide +kernel
theorem dL_law_412 : decode cL_law 412 = .ok (.iadd, 1) := by decide +kernel
theorem dL_law_413 : decode cL_law 413 = .ok (.iaload, 1) := by decide +kernel
theorem dL_law_414 : decode cL_law 414 = .ok (.invokevirtual 44, 3) := by decide +kernel
theorem dL_law_417 : decode cL_law 417 = .ok (.aload_n 2, 1) := by decide +kernel
theorem dL_law_418 : decode cL_law 418 = .ok (.aload_n 0, 1) := by decide +kernel
theorem dL_law_419 : decode cL_law 419 = .ok (.iload_n 3, 1) := by decide +kernel
theorem dL_law_420 : decode cL_law 420 = .ok (.iconst 1, 1) := by decide +kernel
theorem dL_law_421 : decode cL_law 421 = .ok (.iadd, 1) := by decide +kernel
theorem dL_law_422 : decode cL_law 422 = .ok (.iaload, 1) := by decide +kernel
theorem dL_law_423 : decode cL_law 423 = .ok (.aload_n 0, 1) := by decide +kernel
theorem dL_law_424 : decode cL_law 424 = .ok (.iload_n 3, 1) := by decide +kernel
theorem dL_law_425 : decode cL_law 425 = .ok (.iconst 2, 1) := by decide +kernel
theorem dL_law_426 : decode cL_law 426 = .ok (.iadd, 1) := by decide +kernel
theorem dL_law_427 : decode cL_law 427 = .ok (.iaload, 1) := by decide +kernel
theorem dL_law_428 : decode cL_law 428 = .ok (.invokevirtual 47, 3) := by decide +kernel
theorem dL_law_431 : decode cL_law 431 = .ok (.if_icmp .eq 489, 3) := by decide +kernel
theorem dL_law_434 : decode cL_law 434 = .ok (.iconst 0, 1) := by decide +kernel
theorem dL_law_435 : decode cL_law 435 = .ok (.ireturn, 1) := by decide +kernel
theorem dL_law_436 : decode cL_law 436 = .ok (.aload_n 1, 1) := by decide +kernel
theorem dL_law_437 : decode cL_law 437 = .ok (.aload_n 0, 1) := by decide +kernel
theorem dL_law_438 : decode cL_law 438 = .ok (.iload_n 3, 1) := by decide +kernel
theorem dL_law_439 : decode cL_law 439 = .ok (.iconst 1, 1) := by decide +kernel
theorem dL_law_440 : decode cL_law 440 = .ok (.iadd, 1) := by decide +kernel
theorem dL_law_441 : decode cL_law 441 = .ok (.iaload, 1) := by decide +kernel
theorem dL_law_442 : decode cL_law 442 = .ok (.aload_n 0, 1) := by decide +kernel
theorem dL_law_443 : decode cL_law 443 = .ok (.iload_n 3, 1) := by decide +kernel
theorem dL_law_444 : decode cL_law 444 = .ok (.iconst 2, 1) := by decide +kernel
theorem dL_law_445 : decode cL_law 445 = .ok (.iadd, 1) := by decide +kernel
theorem dL_law_446 : decode cL_law 446 = .ok (.iaload, 1) := by decide +kernel
theorem dL_law_447 : decode cL_law 447 = .ok (.aload_n 0, 1) := by decide +kernel
theorem dL_law_448 : decode cL_law 448 = .ok (.iload_n 3, 1) := by decide +kernel
theorem dL_law_449 : decode cL_law 449 = .ok (.iconst 3, 1) := by decide +kernel
theorem dL_law_450 : decode cL_law 450 = .ok (.iadd, 1) := by decide +kernel
theorem dL_law_451 : decode cL_law 451 = .ok (.iaload, 1) := by decide +kernel
theorem dL_law_452 : decode cL_law 452 = .ok (.aload_n 0, 1) := by decide +kernel
theorem dL_law_453 : decode cL_law 453 = .ok (.iload_n 3, 1) := by decide +kernel
theorem dL_law_454 : decode cL_law 454 = .ok (.iconst 4, 1) := by decide +kernel
theorem dL_law_455 : decode cL_law 455 = .ok (.iadd, 1) := by decide +kernel
theorem dL_law_456 : decode cL_law 456 = .ok (.iaload, 1) := by decide +kernel
theorem dL_law_457 : decode cL_law 457 = .ok (.invokevirtual 48, 3) := by decide +kernel
theorem dL_law_460 : decode cL_law 460 = .ok (.aload_n 2, 1) := by decide +kernel
theorem dL_law_461 : decode cL_law 461 = .ok (.aload_n 0, 1) := by decide +kernel
theorem dL_law_462 : decode cL_law 462 = .ok (.iload_n 3, 1) := by decide +kernel
theorem dL_law_463 : decode cL_law 463 = .ok (.iconst 1, 1) := by decide +kernel
theorem dL_law_464 : decode cL_law 464 = .ok (.iadd, 1) := by decide +kernel
theorem dL_law_465 : decode cL_law 465 = .ok (.iaload, 1) := by decide +kernel
theorem dL_law_466 : decode cL_law 466 = .ok (.aload_n 0, 1) := by decide +kernel
theorem dL_law_467 : decode cL_law 467 = .ok (.iload_n 3, 1) := by decide +kernel
theorem dL_law_468 : decode cL_law 468 = .ok (.iconst 2, 1) := by decide +kernel
theorem dL_law_469 : decode cL_law 469 = .ok (.iadd, 1) := by decide +kernel
theorem dL_law_470 : decode cL_law 470 = .ok (.iaload, 1) := by decide +kernel
theorem dL_law_471 : decode cL_law 471 = .ok (.aload_n 0, 1) := by decide +kernel
theorem dL_law_472 : decode cL_law 472 = .ok (.iload_n 3, 1) := by decide +kernel
theorem dL_law_473 : decode cL_law 473 = .ok (.iconst 3, 1) := by decide +kernel
theorem dL_law_474 : decode cL_law 474 = .ok (.iadd, 1) := by decide +kernel
theorem dL_law_475 : decode cL_law 475 = .ok (.iaload, 1) := by decide +kernel
theorem dL_law_476 : decode cL_law 476 = .ok (.aload_n 0, 1) := by decide +kernel
theorem dL_law_477 : decode cL_law 477 = .ok (.iload_n 3, 1) := by decide +kernel
theorem dL_law_478 : decode cL_law 478 = .ok (.iconst 4, 1) := by decide +kernel
theorem dL_law_479 : decode cL_law 479 = .ok (.iadd, 1) := by decide +kernel
theorem dL_law_480 : decode cL_law 480 = .ok (.iaload, 1) := by decide +kernel
theorem dL_law_481 : decode cL_law 481 = .ok (.invokevirtual 51, 3) := by decide +kernel
theorem dL_law_484 : decode cL_law 484 = .ok (.if_icmp .eq 436, 3) := by decide +kernel
theorem dL_law_487 : decode cL_law 487 = .ok (.iconst 0, 1) := by decide +kernel
theorem dL_law_488 : decode cL_law 488 = .ok (.ireturn, 1) := by decide +kernel
theorem dL_law_489 : decode cL_law 489 = .ok (.aload_n 1, 1) := by decide +kernel
theorem dL_law_490 : decode cL_law 490 = .ok (.aload_n 0, 1) := by decide +kernel
theorem dL_law_491 : decode cL_law 491 = .ok (.iload_n 3, 1) := by decide +kernel
theorem dL_law_492 : decode cL_law 492 = .ok (.iconst 1, 1) := by decide +kernel
theorem dL_law_493 : decode cL_law 493 = .ok (.iadd, 1) := by decide +kernel
theorem dL_law_494 : decode cL_law 494 = .ok (.iaload, 1) := by decide +kernel
theorem dL_law_495 : decode cL_law 495 = .ok (.invokevirtual 52, 3) := by decide +kernel
theorem dL_law_498 : decode cL_law 498 = .ok (.aload_n 2, 1) := by decide +kernel
theorem dL_law_499 : decode cL_law 499 = .ok (.aload_n 0, 1) := by decide +kernel
theorem dL_law_500 : decode cL_law 500 = .ok (.iload_n 3, 1) := by decide +kernel
theorem dL_law_501 : decode cL_law 501 = .ok (.iconst 1, 1) := by decide +kernel
theorem dL_law_502 : decode cL_law 502 = .ok (.iadd, 1) := by decide +kernel
theorem dL_law_503 : decode cL_law 503 = .ok (.iaload, 1) := by decide +kernel
theorem dL_law_504 : decode cL_law 504 = .ok (.invokevirtual 55, 3) := by decide +kernel
theorem dL_law_507 : decode cL_law 507 = .ok (.if_icmp .eq 413, 3) := by decide +kernel
theorem dL_law_510 : decode cL_law 510 = .ok (.iconst 0, 1) := by decide +kernel
theorem dL_law_511 : decode cL_law 511 = .ok (.ireturn, 1) := by decide +kernel
theorem dL_law_512 : decode cL_law 512 = .ok (.aload_n 1, 1) := by decide +kernel
theorem dL_law_513 : decode cL_law 513 = .ok (.aload_n 0, 1) := by decide +kernel
theorem dL_law_514 : decode cL_law 514 = .ok (.iload_n 3, 1) := by decide +kernel
theorem dL_law_515 : decode cL_law 515 = .ok (.iconst 1, 1) := by decide +kernel
theorem dL_law_516 : decode cL_law 516 = .ok (.iadd, 1) := by decide +kernel
theorem dL_law_517 : decode cL_law 517 = .ok (.iaload, 1) := by decide +kernel
theorem dL_law_518 : decode cL_law 518 = .ok (.invokevirtual 56, 3) := by decide +kernel
theorem dL_law_521 : decode cL_law 521 = .ok (.aload_n 2, 1) := by decide +kernel
theorem dL_law_522 : decode cL_law 522 = .ok (.aload_n 0, 1) := by decide +kernel
theorem dL_law_523 : decode cL_law 523 = .ok (.iload_n 3, 1) := by decide +kernel
theorem dL_law_524 : decode cL_law 524 = .ok (.iconst 1, 1) := by decide +kernel
theorem dL_law_525 : decode cL_law 525 = .ok (.iadd, 1) := by decide +kernel
theorem dL_law_526 : decode cL_law 526 = .ok (.iaload, 1) := by decide +kernel
theorem dL_law_527 : decode cL_law 527 = .ok (.invokevirtual 59, 3) := by decide +kernel
theorem dL_law_530 : decode cL_law 530 = .ok (.if_icmp .eq 390, 3) := by decide +kernel
theorem dL_law_533 : decode cL_law 533 = .ok (.iconst 0, 1) := by decide +kernel
theorem dL_law_534 : decode cL_law 534 = .ok (.ireturn, 1) := by decide +kernel
theorem dL_law_535 : decode cL_law 535 = .ok (.aload_n 1, 1) := by decide +kernel
theorem dL_law_536 : decode cL_law 536 = .ok (.invokevirtual 60, 3) := by decide +kernel
theorem dL_law_539 : decode cL_law 539 = .ok (.aload_n 2, 1) := by decide +kernel
theorem dL_law_540 : decode cL_law 540 = .ok (.invokevirtual 64, 3) := by decide +kernel
theorem dL_law_543 : decode cL_law 543 = .ok (.if_icmp .eq 377, 3) := by decide +kernel
theorem dL_law_546 : decode cL_law 546 = .ok (.iconst 0, 1) := by decide +kernel
theorem dL_law_547 : decode cL_law 547 = .ok (.ireturn, 1) := by decide +kernel
theorem dL_law_548 : decode cL_law 548 = .ok (.aload_n 1, 1) := by decide +kernel
theorem dL_law_549 : decode cL_law 549 = .ok (.aload_n 0, 1) := by decide +kernel
theorem dL_law_550 : decode cL_law 550 = .ok (.iload_n 3, 1) := by decide +kernel
theorem dL_law_551 : decode cL_law 551 = .ok (.iconst 1, 1) := by decide +kernel
theorem dL_law_552 : decode cL_law 552 = .ok (.iadd, 1) := by decide +kernel
theorem dL_law_553 : decode cL_law 553 = .ok (.iaload, 1) := by decide +kernel
theorem dL_law_554 : decode cL_law 554 = .ok (.invokevirtual 65, 3) := by decide +kernel
theorem dL_law_557 : decode cL_law 557 = .ok (.aload_n 2, 1) := by decide +kernel
theorem dL_law_558 : decode cL_law 558 = .ok (.aload_n 0, 1) := by decide +kernel
theorem dL_law_559 : decode cL_law 559 = .ok (.iload_n 3, 1) := by decide +kernel
theorem dL_law_560 : decode cL_law 560 = .ok (.iconst 1, 1) := by decide +kernel
theorem dL_law_561 : decode cL_law 561 = .ok (.iadd, 1) := by decide +kernel
theorem dL_law_562 : decode cL_law 562 = .ok (.iaload, 1) := by decide +kernel
theorem dL_law_563 : decode cL_law 563 = .ok (.invokevirtual 68, 3) := by decide +kernel
theorem dL_law_566 : decode cL_law 566 = .ok (.if_icmp .eq 354, 3) := by decide +kernel
theorem dL_law_569 : decode cL_law 569 = .ok (.iconst 0, 1) := by decide +kernel
theorem dL_law_570 : decode cL_law 570 = .ok (.ireturn, 1) := by decide +kernel
theorem dL_law_571 : decode cL_law 571 = .ok (.aload_n 1, 1) := by decide +kernel
theorem dL_law_572 : decode cL_law 572 = .ok (.invokevirtual 69, 3) := by decide +kernel
theorem dL_law_575 : decode cL_law 575 = .ok (.aload_n 2, 1) := by decide +kernel
theorem dL_law_576 : decode cL_law 576 = .ok (.invokevirtual 72, 3) := by decide +kernel
theorem dL_law_579 : decode cL_law 579 = .ok (.if_icmp .eq 341, 3) := by decide +kernel
theorem dL_law_582 : decode cL_law 582 = .ok (.iconst 0, 1) := by decide +kernel
theorem dL_law_583 : decode cL_law 583 = .ok (.ireturn, 1) := by decide +kernel
theorem dL_law_584 : decode cL_law 584 = .ok (.aload_n 1, 1) := by decide +kernel
theorem dL_law_585 : decode cL_law 585 = .ok (.invokevirtual 73, 3) := by decide +kernel
theorem dL_law_588 : decode cL_law 588 = .ok (.aload_n 2, 1) := by decide +kernel
theorem dL_law_589 : decode cL_law 589 = .ok (.invokevirtual 76, 3) := by decide +kernel
theorem dL_law_592 : decode cL_law 592 = .ok (.if_icmp .eq 328, 3) := by decide +kernel
theorem dL_law_595 : decode cL_law 595 = .ok (.iconst 0, 1) := by decide +kernel
theorem dL_law_596 : decode cL_law 596 = .ok (.ireturn, 1) := by decide +kernel
theorem dL_law_597 : decode cL_law 597 = .ok (.aload_n 1, 1) := by decide +kernel
theorem dL_law_598 : decode cL_law 598 = .ok (.aload_n 0, 1) := by decide +kernel
theorem dL_law_599 : decode cL_law 599 = .ok (.iload_n 3, 1) := by decide +kernel
theorem dL_law_600 : decode cL_law 600 = .ok (.iconst 1, 1) := by decide +kernel
theorem dL_law_601 : decode cL_law 601 = .ok (.iadd, 1) := by decide +kernel
theorem dL_law_602 : decode cL_law 602 = .ok (.iaload, 1) := by decide +kernel
theorem dL_law_603 : decode cL_law 603 = .ok (.invokevirtual 77, 3) := by decide +kernel
theorem dL_law_606 : decode cL_law 606 = .ok (.aload_n 2, 1) := by decide +kernel
theorem dL_law_607 : decode cL_law 607 = .ok (.aload_n 0, 1) := by decide +kernel
theorem dL_law_608 : decode cL_law 608 = .ok (.iload_n 3, 1) := by decide +kernel
theorem dL_law_609 : decode cL_law 609 = .ok (.iconst 1, 1) := by decide +kernel
theorem dL_law_610 : decode cL_law 610 = .ok (.iadd, 1) := by decide +kernel
theorem dL_law_611 : decode cL_law 611 = .ok (.iaload, 1) := by decide +kernel
theorem dL_law_612 : decode cL_law 612 = .ok (.invokevirtual 80, 3) := by decide +kernel
theorem dL_law_615 : decode cL_law 615 = .ok (.if_icmp .eq 305, 3) := by decide +kernel
theorem dL_law_618 : decode cL_law 618 = .ok (.iconst 0, 1) := by decide +kernel
theorem dL_law_619 : decode cL_law 619 = .ok (.ireturn, 1) := by decide +kernel
theorem dL_law_620 : decode cL_law 620 = .ok (.aload_n 1, 1) := by decide +kernel
theorem dL_law_621 : decode cL_law 621 = .ok (.aload_n 0, 1) := by decide +kernel
theorem dL_law_622 : decode cL_law 622 = .ok (.iload_n 3, 1) := by decide +kernel
theorem dL_law_623 : decode cL_law 623 = .ok (.iconst 1, 1) := by decide +kernel
theorem dL_law_624 : decode cL_law 624 = .ok (.iadd, 1) := by decide +kernel
theorem dL_law_625 : decode cL_law 625 = .ok (.iaload, 1) := by decide +kernel
theorem dL_law_626 : decode cL_law 626 = .ok (.aload_n 0, 1) := by decide +kernel
theorem dL_law_627 : decode cL_law 627 = .ok (.iload_n 3, 1) := by decide +kernel
theorem dL_law_628 : decode cL_law 628 = .ok (.iconst 2, 1) := by decide +kernel
theorem dL_law_629 : decode cL_law 629 = .ok (.iadd, 1) := by decide +kernel
theorem dL_law_630 : decode cL_law 630 = .ok (.iaload, 1) := by decide +kernel
theorem dL_law_631 : decode cL_law 631 = .ok (.invokevirtual 81, 3) := by decide +kernel
theorem dL_law_634 : decode cL_law 634 = .ok (.aload_n 2, 1) := by decide +kernel
theorem dL_law_635 : decode cL_law 635 = .ok (.aload_n 0, 1) := by decide +kernel
theorem dL_law_636 : decode cL_law 636 = .ok (.iload_n 3, 1) := by decide +kernel
theorem dL_law_637 : decode cL_law 637 = .ok (.iconst 1, 1) := by decide +kernel
theorem dL_law_638 : decode cL_law 638 = .ok (.iadd, 1) := by decide +kernel
theorem dL_law_639 : decode cL_law 639 = .ok (.iaload, 1) := by decide +kernel
theorem dL_law_640 : decode cL_law 640 = .ok (.aload_n 0, 1) := by decide +kernel
theorem dL_law_641 : decode cL_law 641 = .ok (.iload_n 3, 1) := by decide +kernel
theorem dL_law_642 : decode cL_law 642 = .ok (.iconst 2, 1) := by decide +kernel
theorem dL_law_643 : decode cL_law 643 = .ok (.iadd, 1) := by decide +kernel
theorem dL_law_644 : decode cL_law 644 = .ok (.iaload, 1) := by decide +kernel
theorem dL_law_645 : decode cL_law 645 = .ok (.invokevirtual 84, 3) := by decide +kernel
theorem dL_law_648 : decode cL_law 648 = .ok (.if_icmp .eq 272, 3) := by decide +kernel
theorem dL_law_651 : decode cL_law 651 = .ok (.iconst 0, 1) := by decide +kernel
theorem dL_law_652 : decode cL_law 652 = .ok (.ireturn, 1) := by decide +kernel
theorem dL_law_653 : decode cL_law 653 = .ok (.aload_n 1, 1) := by decide +kernel
theorem dL_law_654 : decode cL_law 654 = .ok (.aload_n 0, 1) := by decide +kernel
theorem dL_law_655 : decode cL_law 655 = .ok (.iload_n 3, 1) := by decide +kernel
theorem dL_law_656 : decode cL_law 656 = .ok (.iconst 1, 1) := by decide +kernel
theorem dL_law_657 : decode cL_law 657 = .ok (.iadd, 1) := by decide +kernel
theorem dL_law_658 : decode cL_law 658 = .ok (.iaload, 1) := by decide +kernel
theorem dL_law_659 : decode cL_law 659 = .ok (.aload_n 0, 1) := by decide +kernel
theorem dL_law_660 : decode cL_law 660 = .ok (.iload_n 3, 1) := by decide +kernel
theorem dL_law_661 : decode cL_law 661 = .ok (.iconst 2, 1) := by decide +kernel
theorem dL_law_662 : decode cL_law 662 = .ok (.iadd, 1) := by decide +kernel
theorem dL_law_663 : decode cL_law 663 = .ok (.iaload, 1) := by decide +kernel
theorem dL_law_664 : decode cL_law 664 = .ok (.invokevirtual 85, 3) := by decide +kernel
theorem dL_law_667 : decode cL_law 667 = .ok (.aload_n 2, 1) := by decide +kernel
theorem dL_law_668 : decode cL_law 668 = .ok (.aload_n 0, 1) := by decide +kernel
theorem dL_law_669 : decode cL_law 669 = .ok (.iload_n 3, 1) := by decide +kernel
theorem dL_law_670 : decode cL_law 670 = .ok (.iconst 1, 1) := by decide +kernel
theorem dL_law_671 : decode cL_law 671 = .ok (.iadd, 1) := by decide +kernel
theorem dL_law_672 : decode cL_law 672 = .ok (.iaload, 1) := by decide +kernel
theorem dL_law_673 : decode cL_law 673 = .ok (.aload_n 0, 1) := by decide +kernel
theorem dL_law_674 : decode cL_law 674 = .ok (.iload_n 3, 1) := by decide +kernel
theorem dL_law_675 : decode cL_law 675 = .ok (.iconst 2, 1) := by decide +kernel
theorem dL_law_676 : decode cL_law 676 = .ok (.iadd, 1) := by decide +kernel
theorem dL_law_677 : decode cL_law 677 = .ok (.iaload, 1) := by decide +kernel
theorem dL_law_678 : decode cL_law 678 = .ok (.invokevirtual 88, 3) := by decide +kernel
theorem dL_law_681 : decode cL_law 681 = .ok (.if_icmp .eq 239, 3) := by decide +kernel
theorem dL_law_684 : decode cL_law 684 = .ok (.iconst 0, 1) := by decide +kernel
theorem dL_law_685 : decode cL_law 685 = .ok (.ireturn, 1) := by decide +kernel
theorem dL_law_686 : decode cL_law 686 = .ok (.aload_n 1, 1) := by decide +kernel
theorem dL_law_687 : decode cL_law 687 = .ok (.aload_n 0, 1) := by decide +kernel
theorem dL_law_688 : decode cL_law 688 = .ok (.iload_n 3, 1) := by decide +kernel
theorem dL_law_689 : decode cL_law 689 = .ok (.iconst 1, 1) := by decide +kernel
theorem dL_law_690 : decode cL_law 690 = .ok (.iadd, 1) := by decide +kernel
theorem dL_law_691 : decode cL_law 691 = .ok (.iaload, 1) := by decide +kernel
theorem dL_law_692 : decode cL_law 692 = .ok (.aload_n 0, 1) := by decide +kernel
theorem dL_law_693 : decode cL_law 693 = .ok (.iload_n 3, 1) := by decide +kernel
theorem dL_law_694 : decode cL_law 694 = .ok (.iconst 2, 1) := by decide +kernel
theorem dL_law_695 : decode cL_law 695 = .ok (.iadd, 1) := by decide +kernel
theorem dL_law_696 : decode cL_law 696 = .ok (.iaload, 1) := by decide +kernel
theorem dL_law_697 : decode cL_law 697 = .ok (.invokevirtual 89, 3) := by decide +kernel
theorem dL_law_700 : decode cL_law 700 = .ok (.aload_n 2, 1) := by decide +kernel
theorem dL_law_701 : decode cL_law 701 = .ok (.aload_n 0, 1) := by decide +kernel
theorem dL_law_702 : decode cL_law 702 = .ok (.iload_n 3, 1) := by decide +kernel
theorem dL_law_703 : decode cL_law 703 = .ok (.iconst 1, 1) := by decide +kernel
theorem dL_law_704 : decode cL_law 704 = .ok (.iadd, 1) := by decide +kernel
theorem dL_law_705 : decode cL_law 705 = .ok (.iaload, 1) := by decide +kernel
theorem dL_law_706 : decode cL_law 706 = .ok (.aload_n 0, 1) := by decide +kernel
theorem dL_law_707 : decode cL_law 707 = .ok (.iload_n 3, 1) := by decide +kernel
theorem dL_law_708 : decode cL_law 708 = .ok (.iconst 2, 1) := by decide +kernel
theorem dL_law_709 : decode cL_law 709 = .ok (.iadd, 1) := by decide +kernel
theorem dL_law_710 : decode cL_law 710 = .ok (.iaload, 1) := by decide +kernel
theorem dL_law_711 : decode cL_law 711 = .ok (.invokevirtual 92, 3) := by decide +kernel
theorem dL_law_714 : decode cL_law 714 = .ok (.if_icmp .eq 206, 3) := by decide +kernel
theorem dL_law_717 : decode cL_law 717 = .ok (.iconst 0, 1) := by decide +kernel
theorem dL_law_718 : decode cL_law 718 = .ok (.ireturn, 1) := by decide +kernel
theorem dL_law_719 : decode cL_law 719 = .ok (.aload_n 1, 1) := by decide +kernel
theorem dL_law_720 : decode cL_law 720 = .ok (.aload_n 0, 1) := by decide +kernel
theorem dL_law_721 : decode cL_law 721 = .ok (.iload_n 3, 1) := by decide +kernel
theorem dL_law_722 : decode cL_law 722 = .ok (.iconst 1, 1) := by decide +kernel
theorem dL_law_723 : decode cL_law 723 = .ok (.iadd, 1) := by decide +kernel
theorem dL_law_724 : decode cL_law 724 = .ok (.iaload, 1) := by decide +kernel
theorem dL_law_725 : decode cL_law 725 = .ok (.invokevirtual 93, 3) := by decide +kernel
theorem dL_law_728 : decode cL_law 728 = .ok (.aload_n 2, 1) := by decide +kernel
theorem dL_law_729 : decode cL_law 729 = .ok (.aload_n 0, 1) := by decide +kernel
theorem dL_law_730 : decode cL_law 730 = .ok (.iload_n 3, 1) := by decide +kernel
theorem dL_law_731 : decode cL_law 731 = .ok (.iconst 1, 1) := by decide +kernel
theorem dL_law_732 : decode cL_law 732 = .ok (.iadd, 1) := by decide +kernel
theorem dL_law_733 : decode cL_law 733 = .ok (.iaload, 1) := by decide +kernel
theorem dL_law_734 : decode cL_law 734 = .ok (.invokevirtual 96, 3) := by decide +kernel
theorem dL_law_737 : decode cL_law 737 = .ok (.if_icmp .eq 183, 3) := by decide +kernel
theorem dL_law_740 : decode cL_law 740 = .ok (.iconst 0, 1) := by decide +kernel
theorem dL_law_741 : decode cL_law 741 = .ok (.ireturn, 1) := by decide +kernel
theorem dL_law_742 : decode cL_law 742 = .ok (.aload_n 1, 1) := by decide +kernel
theorem dL_law_743 : decode cL_law 743 = .ok (.aload_n 0, 1) := by decide +kernel
theorem dL_law_744 : decode cL_law 744 = .ok (.iload_n 3, 1) := by decide +kernel
theorem dL_law_745 : decode cL_law 745 = .ok (.iconst 1, 1) := by decide +kernel
theorem dL_law_746 : decode cL_law 746 = .ok (.iadd, 1) := by decide +kernel
theorem dL_law_747 : decode cL_law 747 = .ok (.iaload, 1) := by decide +kernel
theorem dL_law_748 : decode cL_law 748 = .ok (.aload_n 0, 1) := by decide +kernel
theorem dL_law_749 : decode cL_law 749 = .ok (.iload_n 3, 1) := by decide +kernel
theorem dL_law_750 : decode cL_law 750 = .ok (.iconst 2, 1) := by decide +kernel
theorem dL_law_751 : decode cL_law 751 = .ok (.iadd, 1) := by decide +kernel
theorem dL_law_752 : decode cL_law 752 = .ok (.iaload, 1) := by decide +kernel
theorem dL_law_753 : decode cL_law 753 = .ok (.invokevirtual 97, 3) := by decide +kernel
theorem dL_law_756 : decode cL_law 756 = .ok (.aload_n 2, 1) := by decide +kernel
theorem dL_law_757 : decode cL_law 757 = .ok (.aload_n 0, 1) := by decide +kernel
theorem dL_law_758 : decode cL_law 758 = .ok (.iload_n 3, 1) := by decide +kernel
theorem dL_law_759 : decode cL_law 759 = .ok (.iconst 1, 1) := by decide +kernel
theorem dL_law_760 : decode cL_law 760 = .ok (.iadd, 1) := by decide +kernel
theorem dL_law_761 : decode cL_law 761 = .ok (.iaload, 1) := by decide +kernel
theorem dL_law_762 : decode cL_law 762 = .ok (.aload_n 0, 1) := by decide +kernel
theorem dL_law_763 : decode cL_law 763 = .ok (.iload_n 3, 1) := by decide +kernel
theorem dL_law_764 : decode cL_law 764 = .ok (.iconst 2, 1) := by decide +kernel
theorem dL_law_765 : decode cL_law 765 = .ok (.iadd, 1) := by decide +kernel
theorem dL_law_766 : decode cL_law 766 = .ok (.iaload, 1) := by decide +kernel
theorem dL_law_767 : decode cL_law 767 = .ok (.invokevirtual 100, 3) := by decide +kernel
theorem dL_law_770 : decode cL_law 770 = .ok (.if_icmp .eq 150, 3) := by decide +kernel
theorem dL_law_773 : decode cL_law 773 = .ok (.iconst 0, 1) := by decide +kernel
theorem dL_law_774 : decode cL_law 774 = .ok (.ireturn, 1) := by decide +kernel
theorem dL_law_775 : decode cL_law 775 = .ok (.aload_n 1, 1) := by decide +kernel
theorem dL_law_776 : decode cL_law 776 = .ok (.aload_n 0, 1) := by decide +kernel
theorem dL_law_777 : decode cL_law 777 = .ok (.iload_n 3, 1) := by decide +kernel
theorem dL_law_778 : decode cL_law 778 = .ok (.iconst 1, 1) := by decide +kernel
theorem dL_law_779 : decode cL_law 779 = .ok (.iadd, 1) := by decide +kernel
theorem dL_law_780 : decode cL_law 780 = .ok (.iaload, 1) := by decide +kernel
theorem dL_law_781 : decode cL_law 781 = .ok (.aload_n 0, 1) := by decide +kernel
theorem dL_law_782 : decode cL_law 782 = .ok (.iload_n 3, 1) := by decide +kernel
theorem dL_law_783 : decode cL_law 783 = .ok (.iconst 2, 1) := by decide +kernel
theorem dL_law_784 : decode cL_law 784 = .ok (.iadd, 1) := by decide +kernel
theorem dL_law_785 : decode cL_law 785 = .ok (.iaload, 1) := by decide +kernel
theorem dL_law_786 : decode cL_law 786 = .ok (.invokevirtual 101, 3) := by decide +kernel
theorem dL_law_789 : decode cL_law 789 = .ok (.aload_n 2, 1) := by decide +kernel
theorem dL_law_790 : decode cL_law 790 = .ok (.aload_n 0, 1) := by decide +kernel
theorem dL_law_791 : decode cL_law 791 = .ok (.iload_n 3, 1) := by decide +kernel
theorem dL_law_792 : decode cL_law 792 = .ok (.iconst 1, 1) := by decide +kernel
theorem dL_law_793 : decode cL_law 793 = .ok (.iadd, 1) := by decide +kernel
theorem dL_law_794 : decode cL_law 794 = .ok (.iaload, 1) := by decide +kernel
theorem dL_law_795 : decode cL_law 795 = .ok (.aload_n 0, 1) := by decide +kernel
theorem dL_law_796 : decode cL_law 796 = .ok (.iload_n 3, 1) := by decide +kernel
theorem dL_law_797 : decode cL_law 797 = .ok (.iconst 2, 1) := by decide +kernel
theorem dL_law_798 : decode cL_law 798 = .ok (.iadd, 1) := by decide +kernel
theorem dL_law_799 : decode cL_law 799 = .ok (.iaload, 1) := by decide +kernel
theorem dL_law_800 : decode cL_law 800 = .ok (.invokevirtual 104, 3) := by decide +kernel
theorem dL_law_803 : decode cL_law 803 = .ok (.if_icmp .eq 117, 3) := by decide +kernel
theorem dL_law_806 : decode cL_law 806 = .ok (.iconst 0, 1) := by decide +kernel
theorem dL_law_807 : decode cL_law 807 = .ok (.ireturn, 1) := by decide +kernel
theorem dL_law_808 : decode cL_law 808 = .ok (.aload_n 1, 1) := by decide +kernel
theorem dL_law_809 : decode cL_law 809 = .ok (.aload_n 0, 1) := by decide +kernel
theorem dL_law_810 : decode cL_law 810 = .ok (.iload_n 3, 1) := by decide +kernel
theorem dL_law_811 : decode cL_law 811 = .ok (.iconst 1, 1) := by decide +kernel
theorem dL_law_812 : decode cL_law 812 = .ok (.iadd, 1) := by decide +kernel
theorem dL_law_813 : decode cL_law 813 = .ok (.iaload, 1) := by decide +kernel
theorem dL_law_814 : decode cL_law 814 = .ok (.aload_n 0, 1) := by decide +kernel
theorem dL_law_815 : decode cL_law 815 = .ok (.iload_n 3, 1) := by decide +kernel
theorem dL_law_816 : decode cL_law 816 = .ok (.iconst 2, 1) := by decide +kernel
theorem dL_law_817 : decode cL_law 817 = .ok (.iadd, 1) := by decide +kernel
theorem dL_law_818 : decode cL_law 818 = .ok (.iaload, 1) := by decide +kernel
theorem dL_law_819 : decode cL_law 819 = .ok (.invokevirtual 105, 3) := by decide +kernel
theorem dL_law_822 : decode cL_law 822 = .ok (.aload_n 2, 1) := by decide +kernel
theorem dL_law_823 : decode cL_law 823 = .ok (.aload_n 0, 1) := by decide +kernel
theorem dL_law_824 : decode cL_law 824 = .ok (.iload_n 3, 1) := by decide +kernel
theorem dL_law_825 : decode cL_law 825 = .ok (.iconst 1, 1) := by decide +kernel
theorem dL_law_826 : decode cL_law 826 = .ok (.iadd, 1) := by decide +kernel
theorem dL_law_827 : decode cL_law 827 = .ok (.iaload, 1) := by decide +kernel
theorem dL_law_828 : decode cL_law 828 = .ok (.aload_n 0, 1) := by decide +kernel
theorem dL_law_829 : decode cL_law 829 = .ok (.iload_n 3, 1) := by decide +kernel
theorem dL_law_830 : decode cL_law 830 = .ok (.iconst 2, 1) := by decide +kernel
theorem dL_law_831 : decode cL_law 831 = .ok (.iadd, 1) := by decide +kernel
theorem dL_law_832 : decode cL_law 832 = .ok (.iaload, 1) := by decide +kernel
theorem dL_law_833 : decode cL_law 833 = .ok (.invokevirtual 108, 3) := by decide +kernel
theorem dL_law_836 : decode cL_law 836 = .ok (.if_icmp .eq 84, 3) := by decide +kernel
theorem dL_law_839 : decode cL_law 839 = .ok (.iconst 0, 1) := by decide +kernel
theorem dL_law_840 : decode cL_law 840 = .ok (.ireturn, 1) := by decide +kernel
theorem dL_law_841 : decode cL_law 841 = .ok (.aload_n 1, 1) := by decide +kernel
theorem dL_law_842 : decode cL_law 842 = .ok (.aload_n 0, 1) := by decide +kernel
theorem dL_law_843 : decode cL_law 843 = .ok (.iload_n 3, 1) := by decide +kernel
theorem dL_law_844 : decode cL_law 844 = .ok (.iconst 1, 1) := by decide +kernel
theorem dL_law_845 : decode cL_law 845 = .ok (.iadd, 1) := by decide +kernel
theorem dL_law_846 : decode cL_law 846 = .ok (.iaload, 1) := by decide +kernel
theorem dL_law_847 : decode cL_law 847 = .ok (.invokevirtual 109, 3) := by decide +kernel
theorem dL_law_850 : decode cL_law 850 = .ok (.aload_n 2, 1) := by decide +kernel
theorem dL_law_851 : decode cL_law 851 = .ok (.aload_n 0, 1) := by decide +kernel
theorem dL_law_852 : decode cL_law 852 = .ok (.iload_n 3, 1) := by decide +kernel
theorem dL_law_853 : decode cL_law 853 = .ok (.iconst 1, 1) := by decide +kernel
theorem dL_law_854 : decode cL_law 854 = .ok (.iadd, 1) := by decide +kernel
theorem dL_law_855 : decode cL_law 855 = .ok (.iaload, 1) := by decide +kernel
theorem dL_law_856 : decode cL_law 856 = .ok (.invokevirtual 112, 3) := by decide +kernel
theorem dL_law_859 : decode cL_law 859 = .ok (.if_icmp .eq 61, 3) := by decide +kernel
theorem dL_law_862 : decode cL_law 862 = .ok (.iconst 0, 1) := by decide +kernel
theorem dL_law_863 : decode cL_law 863 = .ok (.ireturn, 1) := by decide +kernel
theorem dL_law_864 : decode cL_law 864 = .ok (.aload_n 1, 1) := by decide +kernel
theorem dL_law_865 : decode cL_law 865 = .ok (.aload_n 0, 1) := by decide +kernel
theorem dL_law_866 : decode cL_law 866 = .ok (.iload_n 3, 1) := by decide +kernel
theorem dL_law_867 : decode cL_law 867 = .ok (.iconst 1, 1) := by decide +kernel
theorem dL_law_868 : decode cL_law 868 = .ok (.iadd, 1) := by decide +kernel
theorem dL_law_869 : decode cL_law 869 = .ok (.iaload, 1) := by decide +kernel
theorem dL_law_870 : decode cL_law 870 = .ok (.aload_n 0, 1) := by decide +kernel
theorem dL_law_871 : decode cL_law 871 = .ok (.iload_n 3, 1) := by decide +kernel
theorem dL_law_872 : decode cL_law 872 = .ok (.iconst 2, 1) := by decide +kernel
theorem dL_law_873 : decode cL_law 873 = .ok (.iadd, 1) := by decide +kernel
theorem dL_law_874 : decode cL_law 874 = .ok (.iaload, 1) := by decide +kernel
theorem dL_law_875 : decode cL_law 875 = .ok (.invokevirtual 113, 3) := by decide +kernel
theorem dL_law_878 : decode cL_law 878 = .ok (.aload_n 2, 1) := by decide +kernel
theorem dL_law_879 : decode cL_law 879 = .ok (.aload_n 0, 1) := by decide +kernel
theorem dL_law_880 : decode cL_law 880 = .ok (.iload_n 3, 1) := by decide +kernel
theorem dL_law_881 : decode cL_law 881 = .ok (.iconst 1, 1) := by decide +kernel
theorem dL_law_882 : decode cL_law 882 = .ok (.iadd, 1) := by decide +kernel
theorem dL_law_883 : decode cL_law 883 = .ok (.iaload, 1) := by decide +kernel
theorem dL_law_884 : decode cL_law 884 = .ok (.aload_n 0, 1) := by decide +kernel
theorem dL_law_885 : decode cL_law 885 = .ok (.iload_n 3, 1) := by decide +kernel
theorem dL_law_886 : decode cL_law 886 = .ok (.iconst 2, 1) := by decide +kernel
theorem dL_law_887 : decode cL_law 887 = .ok (.iadd, 1) := by decide +kernel
theorem dL_law_888 : decode cL_law 888 = .ok (.iaload, 1) := by decide +kernel
theorem dL_law_889 : decode cL_law 889 = .ok (.invokevirtual 116, 3) := by decide +kernel
theorem dL_law_892 : decode cL_law 892 = .ok (.if_icmp .eq 28, 3) := by decide +kernel
theorem dL_law_895 : decode cL_law 895 = .ok (.iconst 0, 1) := by decide +kernel
theorem dL_law_896 : decode cL_law 896 = .ok (.ireturn, 1) := by decide +kernel
theorem dL_law_897 : decode cL_law 897 = .ok (.aload_n 1, 1) := by decide +kernel
theorem dL_law_898 : decode cL_law 898 = .ok (.aload_n 0, 1) := by decide +kernel
theorem dL_law_899 : decode cL_law 899 = .ok (.iload_n 3, 1) := by decide +kernel
theorem dL_law_900 : decode cL_law 900 = .ok (.iconst 1, 1) := by decide +kernel
theorem dL_law_901 : decode cL_law 901 = .ok (.iadd, 1) := by decide +kernel
theorem dL_law_902 : decode cL_law 902 = .ok (.iaload, 1) := by decide +kernel
theorem dL_law_903 : decode cL_law 903 = .ok (.invokevirtual 117, 3) := by decide +kernel
theorem dL_law_906 : decode cL_law 906 = .ok (.aload_n 2, 1) := by decide +kernel
theorem dL_law_907 : decode cL_law 907 = .ok (.aload_n 0, 1) := by decide +kernel
theorem dL_law_908 : decode cL_law 908 = .ok (.iload_n 3, 1) := by decide +kernel
theorem dL_law_909 : decode cL_law 909 = .ok (.iconst 1, 1) := by decide +kernel
theorem dL_law_910 : decode cL_law 910 = .ok (.iadd, 1) := by decide +kernel
theorem dL_law_911 : decode cL_law 911 = .ok (.iaload, 1) := by decide +kernel
theorem dL_law_912 : decode cL_law 912 = .ok (.invokevirtual 120, 3) := by decide +kernel
theorem dL_law_915 : decode cL_law 915 = .ok (.if_icmp .eq 5, 3) := by decide +kernel
theorem dL_law_918 : decode cL_law 918 = .ok (.iconst 0, 1) := by decide +kernel
theorem dL_law_919 : decode cL_law 919 = .ok (.ireturn, 1) := by decide +kernel
theorem dL_law_920 : decode cL_law 920 = .ok (.iinc 3 5, 3) := by decide +kernel
theorem dL_law_923 : decode cL_law 923 = .ok (.goto (-905), 3) := by decide +kernel
theorem dL_law_926 : decode cL_law 926 = .ok (.iconst 1, 1) := by decide +kernel
theorem dL_law_927 : decode cL_law 927 = .ok (.ireturn, 1) := by decide +kernel
end
section
/-! My own layer over the kit: pure helpers, contracts of methods that make no cells, calls, returns. -/
abbrev Tb : Type := Int32 × (Nat → Int32)
def FU : Nat := 10000
def tI (cI cS : ClassId) : List (ClassId × FieldType) := [(cI, .int), (cS, .object "TeamRooms$State")]
-- pure functions: naming, reading, writing, dividing, booleans
def nm {α β : Type} (x : α) (k : α → β) : β := k x
theorem nm_use {α ρ : Type} {x y : α} {k : α → ρ} {o : ρ} (h : nm x k = o) (e : y = x) : k y = o := by subst e; exact h
theorem it_t {ρ : Type} {c : Prop} {i : Decidable c} {a b o : ρ} (h : (@ite _ c i a b) = o) (hc : c) : a = o := (if_pos hc).symm.trans h
theorem it_f {ρ : Type} {c : Prop} {i : Decidable c} {a b o : ρ} (h : (@ite _ c i a b) = o) (hc : ¬ c) : b = o := (if_neg hc).symm.trans h
theorem bd_use {α ρ : Type} {x : Option α} {k : α → Option ρ} {o : ρ} (h : x.bind k = some o) : ∃ a, x = some a ∧ k a = some o := by
  cases x with
  | none => exact absurd h (by simp)
  | some a => exact ⟨a, rfl, h⟩
theorem bd_use2 {α β ρ : Type} {x : Option (α × β)} {k : α × β → Option ρ} {o : ρ} (h : x.bind k = some o) : ∃ a b, x = some (a, b) ∧ k (a, b) = some o := by
  obtain ⟨⟨a, b⟩, h1, h2⟩ := bd_use h
  exact ⟨a, b, h1, h2⟩
def Rd {ρ : Type} (f : Nat → Int32) (n : Nat) (i : Int32) (k : Int32 → Option ρ) : Option ρ := if i < 0 ∨ n ≤ i.toNatClampNeg then none else k (f i.toNatClampNeg)
theorem rd_use {ρ : Type} {f : Nat → Int32} {n : Nat} {i : Int32} {k : Int32 → Option ρ} {o : ρ} (h : Rd f n i k = some o) : vp_in i n ∧ ∀ y, y = f i.toNatClampNeg → k y = some o := by
  unfold Rd at h
  by_cases c : i < 0 ∨ n ≤ i.toNatClampNeg
  · rw [if_pos c] at h; cases h
  · rw [if_neg c] at h; exact ⟨c, fun y e => by rw [e]; exact h⟩
def Wr {ρ : Type} (f : Nat → Int32) (n : Nat) (i x : Int32) (k : (Nat → Int32) → Option ρ) : Option ρ := if i < 0 ∨ n ≤ i.toNatClampNeg then none else k (upd f i.toNatClampNeg x)
theorem wr_use {ρ : Type} {f : Nat → Int32} {n : Nat} {i x : Int32} {k : (Nat → Int32) → Option ρ} {o : ρ} (h : Wr f n i x k = some o) : vp_in i n ∧ k (upd f i.toNatClampNeg x) = some o := by
  unfold Wr at h
  by_cases c : i < 0 ∨ n ≤ i.toNatClampNeg
  · rw [if_pos c] at h; cases h
  · rw [if_neg c] at h; exact ⟨c, h⟩
def Dv {ρ : Type} (x y : Int32) (k : Int32 → Option ρ) : Option ρ := if y = 0 then none else k (x / y)
theorem dv_use {ρ : Type} {x y : Int32} {k : Int32 → Option ρ} {o : ρ} (h : Dv x y k = some o) : ¬ y = 0 ∧ ∀ z, z = x / y → k z = some o := by
  unfold Dv at h
  by_cases c : y = 0
  · rw [if_pos c] at h; cases h
  · rw [if_neg c] at h; exact ⟨c, fun z e => by rw [e]; exact h⟩
/-- a boolean that is answered -/
def Zb {ρ : Type} (v : Int32) (k : Option ρ) : Option ρ := if v = 0 ∨ v = 1 then k else none
theorem zb_use {ρ : Type} {v : Int32} {k : Option ρ} {o : ρ} (h : Zb v k = some o) : narrow .boolean (.int v) = .int v ∧ k = some o := by
  unfold Zb at h
  by_cases c : v = 0 ∨ v = 1
  · rw [if_pos c] at h
    refine ⟨?_, h⟩
    rcases c with rfl | rfl <;> rfl
  · rw [if_neg c] at h; cases h
theorem nn_use {ρ : Type} {o : ρ} {P : Prop} (h : (none : Option ρ) = some o) : P := by cases h
theorem so_use {ρ : Type} {a o : ρ} (h : some a = some o) : a = o := Option.some.inj h
theorem pr_use {α β : Type} {a c : α} {b d : β} (h : some (a, b) = some (c, d)) : a = c ∧ b = d := by cases h; exact ⟨rfl, rfl⟩
-- worlds
theorem va_D.adr {A : Nat → Prop} {w w' : va_W} (h : va_D A w) (e : w'.map Prod.fst = w.map Prod.fst) : va_D A w' := by
  have key : ∀ (k : Nat) (q : Nat × va_E), w'[k]? = some q → ∃ q0, w[k]? = some q0 ∧ q0.1 = q.1 := by
    intro k q hq
    have h1 : (w'.map Prod.fst)[k]? = some q.1 := by rw [List.getElem?_map, hq]; rfl
    rw [e, List.getElem?_map] at h1
    cases hk : w[k]? with
    | none => rw [hk] at h1; cases h1
    | some q0 => rw [hk] at h1; exact ⟨q0, rfl, Option.some.inj h1⟩
  refine ⟨fun i j p q hi hj hpq => ?_, fun k q hq => ?_⟩
  · obtain ⟨p0, h1, h2⟩ := key i p hi
    obtain ⟨q0, h3, h4⟩ := key j q hj
    exact h.1 i j p0 q0 h1 h3 (by rw [h2, h4, hpq])
  · obtain ⟨q0, h1, h2⟩ := key k q hq
    rw [← h2]; exact h.2 k q0 h1
-- segments: a world is a row of pieces, a callee takes some of them
theorem va_P.mem {D : va_G} {cl : List vw_C} {W : va_W} {H : Heap} : va_P D cl W H ↔ ∀ q ∈ W, va_at D cl q H := by
  refine ⟨fun h q hq => ?_, fun h k q hq => h q (List.mem_of_getElem? hq)⟩
  obtain ⟨k, hk⟩ := List.getElem?_of_mem hq
  exact h k q hk
theorem va_A.mem {W : va_W} {sz q : Nat} : va_A W sz q ↔ (∃ z ∈ W, z.1 = q) ∨ sz ≤ q := by
  refine ⟨fun h => ?_, fun h => ?_⟩
  · rcases h with ⟨k, e, h⟩ | h
    · exact Or.inl ⟨(q, e), List.mem_of_getElem? h, rfl⟩
    · exact Or.inr h
  · rcases h with ⟨z, h, rfl⟩ | h
    · obtain ⟨k, hk⟩ := List.getElem?_of_mem h
      exact Or.inl ⟨k, z.2, hk⟩
    · exact Or.inr h
theorem va_D.pw {A : Nat → Prop} {W : va_W} : va_D A W ↔ W.Pairwise (fun p q => p.1 ≠ q.1) ∧ ∀ q ∈ W, A q.1 := by
  refine ⟨fun h => ⟨?_, fun q hq => ?_⟩, fun h => ⟨fun i j p q hi hj e => ?_, fun k q hq => h.2 q (List.mem_of_getElem? hq)⟩⟩
  · rw [List.pairwise_iff_getElem]
    intro i j hi hj hij e
    have := h.1 i j _ _ (List.getElem?_eq_getElem hi) (List.getElem?_eq_getElem hj) e
    omega
  · obtain ⟨k, hk⟩ := List.getElem?_of_mem hq
    exact h.2 k q hk
  · have hp := List.pairwise_iff_getElem.mp h.1
    obtain ⟨hi1, hi2⟩ := List.getElem?_eq_some_iff.mp hi
    obtain ⟨hj1, hj2⟩ := List.getElem?_eq_some_iff.mp hj
    rcases Nat.lt_trichotomy i j with q1 | q1 | q1
    · exact absurd (by rw [hi2, hj2]; exact e) (hp i j hi1 hj1 q1)
    · exact q1
    · exact absurd (by rw [hi2, hj2]; exact e.symm) (hp j i hj1 hi1 q1)
def Sg (W0 w w' W1 : va_W) : Prop := ∃ (S0 s s' S1 : List va_W) (is rest : List Nat), W0 = S0.flatten ∧ w = s.flatten ∧ w' = s'.flatten ∧ W1 = S1.flatten ∧ va_nd is = true ∧ is.map (fun i => S0[i]?) = s.map some ∧ is.map (fun i => S1[i]?) = s'.map some ∧ rest.map (fun i => S1[i]?) = rest.map (fun i => S0[i]?) ∧ (List.range S1.length).all (fun k => is.contains k || rest.contains k) = true
theorem mp_at {α : Type} {S s : List α} {is : List Nat} (h : is.map (fun i => S[i]?) = s.map some) {j : Nat} {g : α} (hj : s[j]? = some g) : ∃ i, is[j]? = some i ∧ S[i]? = some g := by
  have h1 : (is.map (fun i => S[i]?))[j]? = (s.map some)[j]? := by rw [h]
  rw [List.getElem?_map, List.getElem?_map, hj] at h1
  cases hi : is[j]? with
  | none => rw [hi] at h1; cases h1
  | some i => rw [hi] at h1; exact ⟨i, rfl, Option.some.inj h1⟩
theorem mp_at2 {α : Type} {S s : List α} {is : List Nat} (h : is.map (fun i => S[i]?) = s.map some) {j i : Nat} (hj : is[j]? = some i) {g : α} (hg : S[i]? = some g) : s[j]? = some g := by
  have h1 : (is.map (fun i => S[i]?))[j]? = (s.map some)[j]? := by rw [h]
  rw [List.getElem?_map, List.getElem?_map, hj] at h1
  cases hi : s[j]? with
  | none => rw [hi] at h1; cases h1
  | some x => rw [hi] at h1; have h2 : S[i]? = some x := Option.some.inj h1; rw [hg] at h2; exact h2.symm
theorem Sg.mem {W0 w w' W1 : va_W} (h : Sg W0 w w' W1) {q : Nat × va_E} (hq : q ∈ w) : q ∈ W0 := by
  obtain ⟨S0, s, s', S1, is, rest, rfl, rfl, rfl, rfl, hn, h1, h2, h3, h4⟩ := h
  obtain ⟨g, hg, hq⟩ := List.mem_flatten.mp hq
  obtain ⟨j, hj⟩ := List.getElem?_of_mem hg
  obtain ⟨i, -, hi⟩ := mp_at h1 hj
  exact List.mem_flatten.mpr ⟨g, List.mem_of_getElem? hi, hq⟩
theorem Sg.P {W0 w w' W1 : va_W} (h : Sg W0 w w' W1) {D : va_G} {cl : List vw_C} {H : Heap} (hP : va_P D cl W0 H) : va_P D cl w H := va_P.mem.mpr (fun q hq => va_P.mem.mp hP q (h.mem hq))
theorem Sg.D {W0 w w' W1 : va_W} (h : Sg W0 w w' W1) {A : Nat → Prop} (hD : va_D A W0) : va_D A w := by
  have hm : ∀ q ∈ w, A q.1 := fun q hq => (va_D.pw.mp hD).2 q (h.mem hq)
  have hp := (va_D.pw.mp hD).1
  refine va_D.pw.mpr ⟨?_, hm⟩
  obtain ⟨S0, s, s', S1, is, rest, rfl, rfl, rfl, rfl, hn, h1, h2, h3, h4⟩ := h
  obtain ⟨p1, p2⟩ := List.pairwise_flatten.mp hp
  refine List.pairwise_flatten.mpr ⟨fun g hg => ?_, ?_⟩
  · obtain ⟨j, hj⟩ := List.getElem?_of_mem hg
    obtain ⟨i, -, hi⟩ := mp_at h1 hj
    exact p1 g (List.mem_of_getElem? hi)
  · rw [List.pairwise_iff_getElem]
    intro i j hi hj hij x hx y hy
    obtain ⟨a, a1, a2⟩ := mp_at h1 (List.getElem?_eq_getElem hi)
    obtain ⟨b, b1, b2⟩ := mp_at h1 (List.getElem?_eq_getElem hj)
    have hab : a ≠ b := fun e => by
      subst e
      have := va_nd_inj is hn i j a a1 b1
      omega
    have p3 := List.pairwise_iff_getElem.mp p2
    obtain ⟨al, ae⟩ := List.getElem?_eq_some_iff.mp a2
    obtain ⟨bl, be⟩ := List.getElem?_eq_some_iff.mp b2
    rcases Nat.lt_or_gt_of_ne hab with q1 | q1
    · exact p3 a b al bl q1 x (by rw [ae]; exact hx) y (by rw [be]; exact hy)
    · exact fun e => p3 b a bl al q1 y (by rw [be]; exact hy) x (by rw [ae]; exact hx) e.symm
theorem Sg.F {W0 w w' W1 : va_W} (h : Sg W0 w w' W1) {A0 : Nat → Prop} {H0 H : Heap} {locs : List Loc} (hD : va_D A0 W0) (hS : va_S A0 H0 H locs) (hA : ∀ q, H0.size ≤ q → A0 q) : ∀ q, va_A w H.size q → A0 q := by
  intro q hq
  rcases va_A.mem.mp hq with ⟨z, hz, rfl⟩ | hq
  · exact (va_D.pw.mp (h.D hD)).2 z hz
  · exact hA q (Nat.le_trans hS.1 hq)
/-- behind a call that makes no cell: the callee's pieces are back in their places -/
theorem Sg.put {W0 w w' W1 : va_W} (h : Sg W0 w w' W1) {A : Nat → Prop} {D : va_G} {cl : List vw_C} {H H1 : Heap} (hP : va_P D cl W0 H) (hD : va_D A W0) (hk : ∀ q : Nat, q < H.size → ¬ va_A w H.size q → H1[q]? = H[q]?) (hP1 : va_P D cl w' H1) : va_P D cl W1 H1 := by
  obtain ⟨S0, s, s', S1, is, rest, rfl, rfl, rfl, rfl, hn, h1, h2, h3, h4⟩ := h
  refine va_P.mem.mpr (fun q hq => ?_)
  obtain ⟨g, hg, hq⟩ := List.mem_flatten.mp hq
  obtain ⟨k, hk1⟩ := List.getElem?_of_mem hg
  have hkl : k < S1.length := (List.getElem?_eq_some_iff.mp hk1).1
  by_cases hin : k ∈ is
  · obtain ⟨j, hj⟩ := List.getElem?_of_mem hin
    exact va_P.mem.mp hP1 q (List.mem_flatten.mpr ⟨g, List.mem_of_getElem? (mp_at2 h2 hj hk1), hq⟩)
  · have hr : k ∈ rest := by
      have := List.all_eq_true.mp h4 k (List.mem_range.mpr hkl)
      rw [Bool.or_eq_true] at this
      rcases this with c | c
      · exact absurd (List.contains_iff_mem.mp c) hin
      · exact List.contains_iff_mem.mp c
    obtain ⟨j, hj⟩ := List.getElem?_of_mem hr
    have h5 : (rest.map (fun i => S1[i]?))[j]? = (rest.map (fun i => S0[i]?))[j]? := by rw [h3]
    rw [List.getElem?_map, List.getElem?_map, hj] at h5
    have h6 : S1[k]? = S0[k]? := Option.some.inj h5
    rw [hk1] at h6
    have hq0 : q ∈ S0.flatten := List.mem_flatten.mpr ⟨g, List.mem_of_getElem? h6.symm, hq⟩
    have hat := va_P.mem.mp hP q hq0
    refine hat.kept (hk q.1 hat.lt (fun hva => ?_))
    rcases va_A.mem.mp hva with ⟨z, hz, e⟩ | hva
    · obtain ⟨g2, hg2, hz⟩ := List.mem_flatten.mp hz
      obtain ⟨j2, hj2⟩ := List.getElem?_of_mem hg2
      obtain ⟨i, hi1, hi2⟩ := mp_at h1 hj2
      have hne : i ≠ k := fun e2 => hin (by rw [← e2]; exact List.mem_of_getElem? hi1)
      have p2 := List.pairwise_iff_getElem.mp (List.pairwise_flatten.mp (va_D.pw.mp hD).1).2
      obtain ⟨al, ae⟩ := List.getElem?_eq_some_iff.mp hi2
      obtain ⟨bl, be⟩ := List.getElem?_eq_some_iff.mp h6.symm
      rcases Nat.lt_or_gt_of_ne hne with q1 | q1
      · exact p2 i k al bl q1 z (by rw [ae]; exact hz) q (by rw [be]; exact hq) e
      · exact p2 k i bl al q1 q (by rw [be]; exact hq) z (by rw [ae]; exact hz) e.symm
    · have := hat.lt
      omega
theorem sg_nil {W : va_W} : Sg W [] [] W := ⟨[W], [], [], [W], [], [0], by simp, rfl, rfl, by simp, rfl, rfl, rfl, rfl, rfl⟩
theorem sg_all {W W' : va_W} : Sg W W W' W' := ⟨[W], [W], [W'], [W'], [0], [], by simp, by simp, by simp, by simp, rfl, rfl, rfl, rfl, rfl⟩
-- what the launch's statics, strings and nest links are: they lie outside of what is changed
def lenS : List Nat := [4, 4, 4, 3, 4, 4, 4]
def bytS : List (List Int32) := [[114, 111, 111, 109], [103, 105, 102, 116], [98, 111, 111, 107], [112, 97, 121], [112, 108, 97, 121], [100, 114, 111, 112], [106, 111, 105, 110]]
def idxS : List Nat := [92, 98, 100, 102, 104, 106, 108]
def txtS : List String := ["room", "gift", "book", "pay", "play", "drop", "join"]
def fstS : List Int32 := [2, 10, 5, 15, 20]
def mstS : List Int32 := [10, 30, 20, 60, 50]
def cmdS : List Int32 := [4, 1, 3, 4, 4, 1, 2]
def tabS (l : List Int32) (j : Nat) : Value := .int (l.getD j 0)
def GG (g : Nat → Nat) (A : Nat → Prop) (U : State) (H : Heap) : Prop :=
  (va_Z RX8 "FIRST_SETTINGS" "[I" (.ref (g 0)) A U H ∧ va_T .int (g 0) 5 (tabS fstS) A U H) ∧
  (va_Z RX8 "MOST_SETTINGS" "[I" (.ref (g 1)) A U H ∧ va_T .int (g 1) 5 (tabS mstS) A U H) ∧
  (va_Z RX8 "COMMAND_NUMBERS" "[I" (.ref (g 2)) A U H ∧ va_T .int (g 2) 7 (tabS cmdS) A U H) ∧
  va_Z "java/lang/String" "COMPACT_STRINGS" "Z" (.int 1) A U H ∧
  vk_S 7 lenS bytS (fun i => g (3 + i)) (fun i => g (10 + i)) A U H ∧
  (∀ i : Nat, i < 7 → vk_R RX3 (idxS.getD i 0) (txtS.getD i "") (g (3 + i)) U) ∧
  (va_Nw (.methodLinkNest RX0 34 yX8_inRange RX8) U ∧ va_Nw (.methodLinkNest RX2 32 yX8_inRange RX8) U ∧ va_Nw (.methodLinkNest RX3 22 yX8_inRange RX8) U) ∧
  (va_Nw (.fieldLinkNest RX0 60 RX8 "MOST_SETTINGS" "[I" RX8) U ∧ va_Nw (.fieldLinkNest RX3 77 RX8 "COMMAND_NUMBERS" "[I" RX8) U ∧ va_Nw (.fieldLinkNest RX7 29 RX8 "FIRST_SETTINGS" "[I" RX8) U)
theorem GG.go {g : Nat → Nat} {A B : Nat → Prop} {s U : State} {H0 H : Heap} {locs : List Loc} (h : GG g A s H0) (hS : va_S A H0 H locs) (hAB : ∀ q, B q → A q) (hW : s.WarmedH U.vm) : GG g B U H := by
  obtain ⟨⟨a1, a2⟩, ⟨b1, b2⟩, ⟨c1, c2⟩, d, e, f, ⟨n1, n2, n3⟩, ⟨m1, m2, m3⟩⟩ := h
  have hq : ∀ a : Nat, a < H0.size → ¬ A a → H[a]? = H0[a]? := hS.2.1
  exact ⟨⟨((a1.kept hq).narrow hAB).moved hW.alike, ((a2.kept hq).narrow hAB).moved hW.alike⟩, ⟨((b1.kept hq).narrow hAB).moved hW.alike, ((b2.kept hq).narrow hAB).moved hW.alike⟩, ⟨((c1.kept hq).narrow hAB).moved hW.alike, ((c2.kept hq).narrow hAB).moved hW.alike⟩, ((d.kept hq).narrow hAB).moved hW.alike, ((e.kept hq).narrow hAB).moved hW.alike, fun i hi => (f i hi).warm hW, ⟨va_Nw.warmM hW n1, va_Nw.warmM hW n2, va_Nw.warmM hW n3⟩, ⟨va_Nw.warmF hW m1, va_Nw.warmF hW m2, va_Nw.warmF hW m3⟩⟩
theorem GG.same {g : Nat → Nat} {A : Nat → Prop} {u U : State} {H : Heap} (h : GG g A u H) (hv : U.vm = u.vm) : GG g A U H := by
  obtain ⟨⟨a1, a2⟩, ⟨b1, b2⟩, ⟨c1, c2⟩, d, e, f, ⟨n1, n2, n3⟩, ⟨m1, m2, m3⟩⟩ := h
  have ha : u.vm.Alike U.vm := by rw [hv]; exact Vm.Alike.refl _
  exact ⟨⟨a1.moved ha, a2.moved ha⟩, ⟨b1.moved ha, b2.moved ha⟩, ⟨c1.moved ha, c2.moved ha⟩, d.moved ha, e.moved ha, fun i hi => (f i hi).same hv, ⟨va_Nw.same rfl hv.symm n1, va_Nw.same rfl hv.symm n2, va_Nw.same rfl hv.symm n3⟩, ⟨va_Nw.same rfl hv.symm m1, va_Nw.same rfl hv.symm m2, va_Nw.same rfl hv.symm m3⟩⟩
-- contracts of methods that make no cell
def qI (D : va_G) (r : Int32) (w' : va_W) (A : Nat → Prop) : Array Value → State → Outcome → State → Prop := va_Qi (fun (r' : Int32) (_ : Unit) => r' = r) (fun _ t => va_P D vwCl w' t.heap) A
def qV (D : va_G) (w' : va_W) (A : Nat → Prop) : Array Value → State → Outcome → State → Prop := va_Qv (fun (_ : Unit) => True) (fun _ t => va_P D vwCl w' t.heap) A
def qR (D : va_G) (r : Option Nat) (w' : va_W) (A : Nat → Prop) : Array Value → State → Outcome → State → Prop := va_Qq (fun (r' : Option Nat) (_ : Unit) => r' = r) (fun _ t => va_P D vwCl w' t.heap) A
def bP (D : va_G) (cI cS : ClassId) (g : Nat → Nat) (w : va_W) (sz : Nat) (U : State) : Prop := U.heap.size = sz ∧ va_P D vwCl w U.heap ∧ va_K D vwCl (tI cI cS) U ∧ va_D (fun _ => True) w ∧ GG g (va_A w sz) U U.heap
theorem bP_blind {D : va_G} {cI cS : ClassId} {g : Nat → Nat} {w : va_W} {sz : Nat} {av : List Value} : FrameBlind (va_Pc av (bP D cI cS g w sz)) := by
  intro a U gg mk q
  obtain ⟨q0, q1, qP, qK, qD, qG⟩ := q
  exact ⟨q0, q1, qP, va_K.moved (u := U) (U := U.calling gg mk a) (Vm.Alike.refl U.vm) qK, qD, GG.same (u := U) (U := U.calling gg mk a) qG rfl⟩
def mI (l : Launch) (y : MethodName) (ws : List Cond) (rm : Room) (D : va_G) (cI cS : ClassId) (g : Nat → Nat) (av : List Value) (w : va_W) (r : Int32) (w' : va_W) : Prop := ∀ sz : Nat, Met l y ws rm (va_Pc av (bP D cI cS g w sz)) (qI D r w' (va_A w sz)) 0 0 (va_A w sz)
def mV (l : Launch) (y : MethodName) (ws : List Cond) (rm : Room) (D : va_G) (cI cS : ClassId) (g : Nat → Nat) (av : List Value) (w : va_W) (w' : va_W) : Prop := ∀ sz : Nat, Met l y ws rm (va_Pc av (bP D cI cS g w sz)) (qV D w' (va_A w sz)) 0 0 (va_A w sz)
def mR (l : Launch) (y : MethodName) (ws : List Cond) (rm : Room) (D : va_G) (cI cS : ClassId) (g : Nat → Nat) (av : List Value) (w : va_W) (r : Option Nat) (w' : va_W) : Prop := ∀ sz : Nat, Met l y ws rm (va_Pc av (bP D cI cS g w sz)) (qR D r w' (va_A w sz)) 0 0 (va_A w sz)
/-- the walk that a contract asks -/
def wk (l : Launch) (y : MethodName) (ws : List Cond) (rm : Room) (D : va_G) (cI cS : ClassId) (g : Nat → Nat) (av : List Value) (w : va_W) (Qc : (Nat → Prop) → Array Value → State → Outcome → State → Prop) (cc : ByteArray) (maxL : Nat) (ret : Option FieldType) : Prop :=
  ∀ (p : Program) (e : Env) (s : State) (m : MethodId) (args : Array Value) (below : List Frame) (meth : Method) (c : Code) (A : Nat → Prop) (ls : Array Slot), p.tables.exec = Jvm.exec → c.code = cc → meth.sig.returnType = ret → c.maxLocals = maxL → meth.locks = false → s.vm.findClass y.cls = some m.cls → (∀ w ∈ ws, w.before args s = true) → (∀ q : Nat, s.heap.size ≤ q → A q) → va_K D vwCl (tI cI cS) s → va_D A w → GG g A s s.heap → va_P D vwCl w s.heap → va_S A s.heap s.heap [] → lv_has ls maxL (lv_args 0 av) → W p l e rm s m args below meth c s.heap [] 0 0 (MQ below (Qc A) args s 0 0 A) (F0 m 0 ls [])
theorem wk_met {l : Launch} {y : MethodName} {ws ws' : List Cond} {rm : Room} {D : va_G} {cI cS : ClassId} {g : Nat → Nat} {av : List Value} {w : va_W} {Qc : (Nat → Prop) → Array Value → State → Outcome → State → Prop} {cc : ByteArray} {maxL : Nat} {ret : Option FieldType} (hw : ws = Cond.code y cc maxL ret :: ws') (hy : plainName y.cls = true) (hn : (lg_sl av).length ≤ maxL)
    (k : wk l y ws rm D cI cS g av w Qc cc maxL ret) (sz : Nat) : Met l y ws rm (va_Pc av (bP D cI cS g w sz)) (Qc (va_A w sz)) 0 0 (va_A w sz) := by
  refine Met.ofW (cc := cc) (maxL := maxL) (ret := ret) hy hw ?_
  intro p e s m args below meth c s₁ B hml hv
  obtain ⟨rfl, hsz, hP, hK, hD0, hG⟩ := hv
  subst hsz
  rw [lg_entry_eq]
  exact k p e s m _ below meth c (va_A w s.heap.size) _ B.exec B.bytes B.returns hml B.notSynchronized (findClass_of_methodNamed B.named) (atoms_spec (ws := ws) B.pre) (fun q h => Or.inr h) hK hD0.self hG hP va_S.rf (lv_entry av hn)
theorem st_I {l : Launch} {y : MethodName} {ws ws' : List Cond} {rm : Room} {D : va_G} {cI cS : ClassId} {g : Nat → Nat} {av : List Value} {w w' : va_W} {r : Int32} {cc : ByteArray} {maxL : Nat} {ret : Option FieldType} (hw : ws = Cond.code y cc maxL ret :: ws') (hy : plainName y.cls = true) (hn : (lg_sl av).length ≤ maxL) (k : wk l y ws rm D cI cS g av w (qI D r w') cc maxL ret) : mI l y ws rm D cI cS g av w r w' := wk_met hw hy hn k
theorem st_V {l : Launch} {y : MethodName} {ws ws' : List Cond} {rm : Room} {D : va_G} {cI cS : ClassId} {g : Nat → Nat} {av : List Value} {w w' : va_W} {cc : ByteArray} {maxL : Nat} {ret : Option FieldType} (hw : ws = Cond.code y cc maxL ret :: ws') (hy : plainName y.cls = true) (hn : (lg_sl av).length ≤ maxL) (k : wk l y ws rm D cI cS g av w (qV D w') cc maxL ret) : mV l y ws rm D cI cS g av w w' := wk_met hw hy hn k
theorem st_R {l : Launch} {y : MethodName} {ws ws' : List Cond} {rm : Room} {D : va_G} {cI cS : ClassId} {g : Nat → Nat} {av : List Value} {w w' : va_W} {r : Option Nat} {cc : ByteArray} {maxL : Nat} {ret : Option FieldType} (hw : ws = Cond.code y cc maxL ret :: ws') (hy : plainName y.cls = true) (hn : (lg_sl av).length ≤ maxL) (k : wk l y ws rm D cI cS g av w (qR D r w') cc maxL ret) : mR l y ws rm D cI cS g av w r w' := wk_met hw hy hn k
section RT
variable {p : Program} {l : Launch} {e : Env} {R : Room} {s : State} {m : MethodId} {args : Array Value} {below : List Frame} {meth : Method} {c : Code} {H : Heap} {locs : List Loc} {cc : ByteArray} {pc : Nat} {ls : Array Slot} {A : Nat → Prop} {D : va_G} {w' : va_W}
theorem rt_I {v r : Int32} (hx : p.tables.exec = Jvm.exec) (hb : c.code = cc) (hr : meth.sig.returnType = some .int) (hlocks : meth.locks = false) (hS : va_S A s.heap H locs) (hP : va_P D vwCl w' H) (er : v = r) (hdg : decode cc pc = .ok (.ireturn, 1)) : W p l e R s m args below meth c H locs 0 0 (MQ below (qI D r w' A) args s 0 0 A) (F0 m pc ls [.int v]) :=
  W.iret (v := v) hx hb hr (fun t ht hW => ⟨⟨v, (), rfl, er, (congrArg (va_P D vwCl w') ht).mpr hP⟩, hS.F ht⟩) hS.2.2 hdg hlocks
theorem rt_Z {v r : Int32} (hx : p.tables.exec = Jvm.exec) (hb : c.code = cc) (hr : meth.sig.returnType = some .boolean) (hlocks : meth.locks = false) (hS : va_S A s.heap H locs) (hP : va_P D vwCl w' H) (hn : narrow .boolean (.int v) = .int v) (er : v = r) (hdg : decode cc pc = .ok (.ireturn, 1)) : W p l e R s m args below meth c H locs 0 0 (MQ below (qI D r w' A) args s 0 0 A) (F0 m pc ls [.int v]) :=
  W.zret (v := v) hx hb hr hn (fun t ht hW => ⟨⟨v, (), rfl, er, (congrArg (va_P D vwCl w') ht).mpr hP⟩, hS.F ht⟩) hS.2.2 hdg hlocks
theorem rt_V (hx : p.tables.exec = Jvm.exec) (hb : c.code = cc) (hr : meth.sig.returnType = none) (hlocks : meth.locks = false) (hS : va_S A s.heap H locs) (hP : va_P D vwCl w' H) (hdg : decode cc pc = .ok (.return_, 1)) : W p l e R s m args below meth c H locs 0 0 (MQ below (qV D w' A) args s 0 0 A) (F0 m pc ls []) :=
  W.vret hx hb hr (fun t ht hW => ⟨⟨(), rfl, trivial, (congrArg (va_P D vwCl w') ht).mpr hP⟩, hS.F ht⟩) hS.2.2 hdg hlocks
end RT
section CLS
variable {p : Program} {l : Launch} {e : Env} {R : Room} {s : State} {m : MethodId} {args : Array Value} {below : List Frame} {meth : Method} {c : Code} {H : Heap} {locs : List Loc} {cc : ByteArray} {pc : Nat} {ls : Array Slot} {A : Nat → Prop} {D : va_G} {Q : State → Prop}
variable {y : MethodName} {ws Ts : List Cond} {rm : Room} {cI cS : ClassId} {g : Nat → Nat} {b : Nat} {As : List Value} {W0 w w' W1 : va_W} {r : Int32} {own C : String} {index maxL nL n : Nat} {bytes : ByteArray} {ret : Option FieldType} {st rest : List Value}
theorem cl_pre (hK : va_K D vwCl (tI cI cS) s) (hD : va_D A W0) (hG : GG g A s s.heap) (hA : ∀ q : Nat, s.heap.size ≤ q → A q) (hP : va_P D vwCl W0 H) (hS : va_S A s.heap H locs) (hsg : Sg W0 w w' W1) :
    (∀ q, va_A w H.size q → A q) ∧ va_P D vwCl w H ∧ ∀ U : State, U.heap = H → s.WarmedH U.vm → bP D cI cS g w H.size U := by
  have hF := hsg.F hD hS hA
  have hPc : va_P D vwCl w H := hsg.P hP
  refine ⟨hF, hPc, fun U hU hW => ⟨by rw [hU], by rw [hU]; exact hPc, va_K.moved hW.alike hK, (hsg.D hD).weaken (fun _ _ _ _ => trivial), by rw [hU]; exact hG.go hS hF hW⟩⟩
theorem cl_VI (S : CallFix p m c cc nL s args Ts own) (hM : mI l y ws rm D cI cS g (.ref b :: As) w r w') (cw : CallW R s args own C index y bytes maxL ret ws rm 0 0 n)
    (hK : va_K D vwCl (tI cI cS) s) (hD : va_D A W0) (hG : GG g A s s.heap) (hA : ∀ q : Nat, s.heap.size ≤ q → A q) (hP : va_P D vwCl W0 H) (hS : va_S A s.heap H locs) (hsg : Sg W0 w w' W1)
    (hsz : ls.size = nL) (hn : As.length = n) (q0 : Nat) {ci : Nat} {fs : List Value} {T : u_T} {N : Nat} (hrc : w[q0]? = some (b, .inr (ci, fs))) (hcl : vwCl[ci]? = some (C, T, N))
    (hst : st = As.reverse ++ .ref b :: rest) (hW : (rest.map fun v => v.category).sum ≤ 8) (hdg : decode cc pc = .ok (.invokevirtual index, 3))
    (kk : ∀ (H1 : Heap) (locs1 : List Loc), va_P D vwCl W1 H1 → va_S A s.heap H1 locs1 → W p l e R s m args below meth c H1 locs1 0 0 Q (F0 m (pc + 3) ls (.int r :: rest))) : W p l e R s m args below meth c H locs 0 0 Q (F0 m pc ls st) := by
  obtain ⟨hF, hPc, hB⟩ := cl_pre (w := w) hK hD hG hA hP hS hsg
  subst hst
  refine va_calli (va_runV (As := As) (rest := rest) S (hM H.size) cw ⟨bP_blind, va_recv hK hPc (ci := ci) (q0 := q0) hcl hrc, fun U hU hW => ⟨rfl, hB U hU hW⟩⟩ rfl hn hsz rfl (lv_room hW) hdg ⟨Nat.zero_le _, Nat.zero_le _⟩) hS (fun q _ h => hF q h) hF (fun r1 u t H1 locs1 ht hvm hw hb1 hz1 hk1 hS1 => ?_)
  subst hw
  rw [ht] at hb1
  exact kk H1 locs1 (hsg.put hP hD hk1 hb1) hS1
theorem cl_VV (S : CallFix p m c cc nL s args Ts own) (hM : mV l y ws rm D cI cS g (.ref b :: As) w w') (cw : CallW R s args own C index y bytes maxL ret ws rm 0 0 n)
    (hK : va_K D vwCl (tI cI cS) s) (hD : va_D A W0) (hG : GG g A s s.heap) (hA : ∀ q : Nat, s.heap.size ≤ q → A q) (hP : va_P D vwCl W0 H) (hS : va_S A s.heap H locs) (hsg : Sg W0 w w' W1)
    (hsz : ls.size = nL) (hn : As.length = n) (q0 : Nat) {ci : Nat} {fs : List Value} {T : u_T} {N : Nat} (hrc : w[q0]? = some (b, .inr (ci, fs))) (hcl : vwCl[ci]? = some (C, T, N))
    (hst : st = As.reverse ++ .ref b :: rest) (hW : (rest.map fun v => v.category).sum ≤ 8) (hdg : decode cc pc = .ok (.invokevirtual index, 3))
    (kk : ∀ (H1 : Heap) (locs1 : List Loc), va_P D vwCl W1 H1 → va_S A s.heap H1 locs1 → W p l e R s m args below meth c H1 locs1 0 0 Q (F0 m (pc + 3) ls (rest))) : W p l e R s m args below meth c H locs 0 0 Q (F0 m pc ls st) := by
  obtain ⟨hF, hPc, hB⟩ := cl_pre (w := w) hK hD hG hA hP hS hsg
  subst hst
  refine va_callv (va_runV (As := As) (rest := rest) S (hM H.size) cw ⟨bP_blind, va_recv hK hPc (ci := ci) (q0 := q0) hcl hrc, fun U hU hW => ⟨rfl, hB U hU hW⟩⟩ rfl hn hsz rfl (lv_room hW) hdg ⟨Nat.zero_le _, Nat.zero_le _⟩) hS (fun q _ h => hF q h) hF (fun u t H1 locs1 ht hvm hw hb1 hz1 hk1 hS1 => ?_)
  rw [ht] at hb1
  exact kk H1 locs1 (hsg.put hP hD hk1 hb1) hS1
theorem cl_VR {o : Option Nat} (S : CallFix p m c cc nL s args Ts own) (hM : mR l y ws rm D cI cS g (.ref b :: As) w o w') (cw : CallW R s args own C index y bytes maxL ret ws rm 0 0 n)
    (hK : va_K D vwCl (tI cI cS) s) (hD : va_D A W0) (hG : GG g A s s.heap) (hA : ∀ q : Nat, s.heap.size ≤ q → A q) (hP : va_P D vwCl W0 H) (hS : va_S A s.heap H locs) (hsg : Sg W0 w w' W1)
    (hsz : ls.size = nL) (hn : As.length = n) (q0 : Nat) {ci : Nat} {fs : List Value} {T : u_T} {N : Nat} (hrc : w[q0]? = some (b, .inr (ci, fs))) (hcl : vwCl[ci]? = some (C, T, N))
    (hst : st = As.reverse ++ .ref b :: rest) (hW : (rest.map fun v => v.category).sum ≤ 8) (hdg : decode cc pc = .ok (.invokevirtual index, 3))
    (kk : ∀ (H1 : Heap) (locs1 : List Loc), va_P D vwCl W1 H1 → va_S A s.heap H1 locs1 → W p l e R s m args below meth c H1 locs1 0 0 Q (F0 m (pc + 3) ls (va_rf o :: rest))) : W p l e R s m args below meth c H locs 0 0 Q (F0 m pc ls st) := by
  obtain ⟨hF, hPc, hB⟩ := cl_pre (w := w) hK hD hG hA hP hS hsg
  subst hst
  refine va_callq (va_runV (As := As) (rest := rest) S (hM H.size) cw ⟨bP_blind, va_recv hK hPc (ci := ci) (q0 := q0) hcl hrc, fun U hU hW => ⟨rfl, hB U hU hW⟩⟩ rfl hn hsz rfl (lv_room hW) hdg ⟨Nat.zero_le _, Nat.zero_le _⟩) hS (fun q _ h => hF q h) hF (fun r1 u t H1 locs1 ht hvm hw hb1 hz1 hk1 hS1 => ?_)
  subst hw
  rw [ht] at hb1
  exact kk H1 locs1 (hsg.put hP hD hk1 hb1) hS1
theorem cl_SI (S : CallFix p m c cc nL s args Ts own) (hM : mI l y ws rm D cI cS g As w r w') (cw : CallB R s args own index y bytes maxL ret ws rm 0 0 n ∧ (Cond.static y).before args s = true)
    (hK : va_K D vwCl (tI cI cS) s) (hD : va_D A W0) (hG : GG g A s s.heap) (hA : ∀ q : Nat, s.heap.size ≤ q → A q) (hP : va_P D vwCl W0 H) (hS : va_S A s.heap H locs) (hsg : Sg W0 w w' W1)
    (hsz : ls.size = nL) (hn : As.length = n) 
    (hst : st = As.reverse ++ rest) (hW : (rest.map fun v => v.category).sum ≤ 8) (hdg : decode cc pc = .ok (.invokestatic index, 3))
    (kk : ∀ (H1 : Heap) (locs1 : List Loc), va_P D vwCl W1 H1 → va_S A s.heap H1 locs1 → W p l e R s m args below meth c H1 locs1 0 0 Q (F0 m (pc + 3) ls (.int r :: rest))) : W p l e R s m args below meth c H locs 0 0 Q (F0 m pc ls st) := by
  obtain ⟨hF, hPc, hB⟩ := cl_pre (w := w) hK hD hG hA hP hS hsg
  subst hst
  refine va_calli (va_runS (As := As) (rest := rest) S (hM H.size) cw ⟨bP_blind, fun U hU hW => ⟨rfl, hB U hU hW⟩⟩ rfl hn hsz rfl (lv_room hW) hdg ⟨Nat.zero_le _, Nat.zero_le _⟩) hS (fun q _ h => hF q h) hF (fun r1 u t H1 locs1 ht hvm hw hb1 hz1 hk1 hS1 => ?_)
  subst hw
  rw [ht] at hb1
  exact kk H1 locs1 (hsg.put hP hD hk1 hb1) hS1
theorem cl_SNI {host : String} (S : CallFix p m c cc nL s args Ts own) (hM : mI l y ws rm D cI cS g As w r w') (cw : va_CN R s args own index y host bytes maxL ret ws rm 0 0 n ∧ (Cond.static y).before args s = true ∧ True)
    (hK : va_K D vwCl (tI cI cS) s) (hD : va_D A W0) (hG : GG g A s s.heap) (hA : ∀ q : Nat, s.heap.size ≤ q → A q) (hP : va_P D vwCl W0 H) (hS : va_S A s.heap H locs) (hsg : Sg W0 w w' W1)
    (hsz : ls.size = nL) (hn : As.length = n) 
    (hst : st = As.reverse ++ rest) (hW : (rest.map fun v => v.category).sum ≤ 8) (hdg : decode cc pc = .ok (.invokestatic index, 3))
    (kk : ∀ (H1 : Heap) (locs1 : List Loc), va_P D vwCl W1 H1 → va_S A s.heap H1 locs1 → W p l e R s m args below meth c H1 locs1 0 0 Q (F0 m (pc + 3) ls (.int r :: rest))) : W p l e R s m args below meth c H locs 0 0 Q (F0 m pc ls st) := by
  obtain ⟨hF, hPc, hB⟩ := cl_pre (w := w) hK hD hG hA hP hS hsg
  subst hst
  refine va_calli (va_runSN (As := As) (rest := rest) S (hM H.size) cw ⟨bP_blind, fun U hU hW => ⟨rfl, hB U hU hW⟩⟩ rfl hn hsz rfl (lv_room hW) hdg ⟨Nat.zero_le _, Nat.zero_le _⟩) hS (fun q _ h => hF q h) hF (fun r1 u t H1 locs1 ht hvm hw hb1 hz1 hk1 hS1 => ?_)
  subst hw
  rw [ht] at hb1
  exact kk H1 locs1 (hsg.put hP hD hk1 hb1) hS1
end CLS
abbrev jmax (x y : Int32) : Int32 := if x < y then y else x
abbrev jmin (x y : Int32) : Int32 := if y < x then y else x
abbrev jabs (x : Int32) : Int32 := if 0 ≤ x then x else 0 - x
def b2 {α β ρ : Type} (x : Option (α × β)) (k : α → β → Option ρ) : Option ρ := x.bind (fun q => k q.1 q.2)
theorem b2_use {α β ρ : Type} {x : Option (α × β)} {k : α → β → Option ρ} {o : ρ} (h : b2 x k = some o) : ∃ a b, x = some (a, b) ∧ k a b = some o := by
  obtain ⟨⟨a, b⟩, h1, h2⟩ := bd_use h
  exact ⟨a, b, h1, h2⟩
theorem sw_ne {x : Int32} {k : Int32} (h : ¬ x = k) : x.toInt ≠ k.toInt := fun e => h (Int32.toInt_inj.mp e)
theorem sw_out6 {x : Int32} (h0 : ¬ x = 0) (h1 : ¬ x = 1) (h2 : ¬ x = 2) (h3 : ¬ x = 3) (h4 : ¬ x = 4) (h5 : ¬ x = 5) : x.toInt < 0 ∨ 5 < x.toInt := by
  have a0 : x.toInt ≠ 0 := sw_ne h0
  have a1 : x.toInt ≠ 1 := sw_ne h1
  have a2 : x.toInt ≠ 2 := sw_ne h2
  have a3 : x.toInt ≠ 3 := sw_ne h3
  have a4 : x.toInt ≠ 4 := sw_ne h4
  have a5 : x.toInt ≠ 5 := sw_ne h5
  omega
theorem sw_out7 {x : Int32} (h0 : ¬ x = 0) (h1 : ¬ x = 1) (h2 : ¬ x = 2) (h3 : ¬ x = 3) (h4 : ¬ x = 4) (h5 : ¬ x = 5) (h6 : ¬ x = 6) : x.toInt < 0 ∨ 6 < x.toInt := by
  have := sw_out6 h0 h1 h2 h3 h4 h5
  have a6 : x.toInt ≠ 6 := sw_ne h6
  omega
theorem zb_use3 {ρ : Type} {v : Int32} {k : Option ρ} {o : ρ} (h : Zb v k = some o) : narrow .boolean (.int v) = .int v ∧ fits .boolean (.int v) = true ∧ k = some o := by
  unfold Zb at h
  by_cases c : v = 0 ∨ v = 1
  · rw [if_pos c] at h
    refine ⟨?_, ?_, h⟩
    · rcases c with rfl | rfl <;> rfl
    · rcases c with rfl | rfl <;> rfl
  · rw [if_neg c] at h; cases h
def Cp {ρ : Type} (f g : Nat → Int32) (n0 n1 : Nat) (n : Int32) (k : (Nat → Int32) → Option ρ) : Option ρ := if ¬ n < 0 ∧ n.toNatClampNeg ≤ n0 ∧ n.toNatClampNeg ≤ n1 then k (va_cpy f g (0 : Int32).toNatClampNeg (0 : Int32).toNatClampNeg n.toNatClampNeg) else none
theorem cp_use {ρ : Type} {f g : Nat → Int32} {n0 n1 : Nat} {n : Int32} {k : (Nat → Int32) → Option ρ} {o : ρ} (h : Cp f g n0 n1 n k = some o) : (¬ n < 0 ∧ (0 : Int32).toNatClampNeg + n.toNatClampNeg ≤ n0 ∧ (0 : Int32).toNatClampNeg + n.toNatClampNeg ≤ n1) ∧ k (va_cpy f g (0 : Int32).toNatClampNeg (0 : Int32).toNatClampNeg n.toNatClampNeg) = some o := by
  unfold Cp at h
  by_cases c : ¬ n < 0 ∧ n.toNatClampNeg ≤ n0 ∧ n.toNatClampNeg ≤ n1
  · rw [if_pos c] at h
    have e : (0 : Int32).toNatClampNeg = 0 := sb_cl0
    exact ⟨⟨c.1, by rw [e]; omega, by rw [e]; omega⟩, h⟩
  · rw [if_neg c] at h; cases h
-- words of BIG
theorem gdAll {ws : List Cond} (h : ∀ w ∈ ws, w ∈ BIG) : GoodIn BIG ws := fun w hw => ⟨h w hw, good_of_word (big_good w (h w hw))⟩
theorem gdV {own : String} {idx : Nat} {C : String} {y : MethodName} {c : ByteArray} {n : Nat} {ret : Option FieldType} (h1 : Cond.methodLink own idx y ∈ BIG) (h2 : Cond.instanceMethod y ∈ BIG) (h3 : Cond.selects C y y ∈ BIG) (h4 : Cond.initialized C ∈ BIG) (h5 : Cond.code y c n ret ∈ BIG) : GoodIn BIG (wsV own idx C y (Cond.code y c n ret :: BIG)) := by
  refine gdAll (fun w hw => ?_)
  unfold wsV at hw
  simp only [List.cons_append, List.nil_append, List.mem_cons] at hw
  rcases hw with rfl | rfl | rfl | rfl | rfl | h
  · exact h1
  · exact h2
  · exact h3
  · exact h4
  · exact h5
  · exact h
theorem gdS {own : String} {idx : Nat} {y : MethodName} {c : ByteArray} {n : Nat} {ret : Option FieldType} (h1 : Cond.methodLink own idx y ∈ BIG) (h2 : Cond.static y ∈ BIG) (h4 : Cond.initialized y.cls ∈ BIG) (h5 : Cond.code y c n ret ∈ BIG) : GoodIn BIG (va_wsS own idx y (Cond.code y c n ret :: BIG)) := by
  refine gdAll (fun w hw => ?_)
  unfold va_wsS at hw
  simp only [List.cons_append, List.nil_append, List.mem_cons] at hw
  rcases hw with rfl | rfl | rfl | rfl | h
  · exact h1
  · exact h2
  · exact h4
  · exact h5
  · exact h
theorem gdN {y : MethodName} {c : ByteArray} {n : Nat} {ret : Option FieldType} (h5 : Cond.code y c n ret ∈ BIG) : GoodIn BIG (Cond.code y c n ret :: BIG) := by
  refine gdAll (fun w hw => ?_)
  rcases List.mem_cons.mp hw with rfl | h
  · exact h5
  · exact h
theorem kin_of {C : String} {T : u_T} {N : Nat} (h : ∀ k, k < N → u_lay C T k ∈ BIG) : ∀ w ∈ u_ws C T N, w ∈ BIG := by
  intro w hw
  obtain ⟨k, hk, rfl⟩ := List.mem_map.mp hw
  exact h k (List.mem_range.mp hk)
theorem sw_lk2 {a o b q d : Int} {x A B : Int32} (ha : A.toInt = a) (hb : B.toInt = b) (h1 : ¬ x = A) (h2 : ¬ x = B) : Op.lookupswitch.offset [(a, o), (b, q)] d x.toInt = d := by
  have e1 : ¬ a = x.toInt := fun e => h1 (Int32.toInt_inj.mp (by rw [ha, e]))
  have e2 : ¬ b = x.toInt := fun e => h2 (Int32.toInt_inj.mp (by rw [hb, e]))
  rw [Op.lookupswitch.offset_cons, if_neg e1, Op.lookupswitch.offset_cons, if_neg e2, Op.lookupswitch.offset_nil]
theorem kin0 : ∀ w ∈ u_ws RX0 TX0 5, w ∈ BIG := kin_of (fun k hk => match k, hk with | 0, _ => bw1_147 | 1, _ => bw1_149 | 2, _ => bw1_151 | 3, _ => bw1_153 | 4, _ => bw1_155 | k + 5, h => absurd h (by omega))
theorem kin1 : ∀ w ∈ u_ws RX1 TX1 2, w ∈ BIG := kin_of (fun k hk => match k, hk with | 0, _ => bw1_185 | 1, _ => bw1_187 | k + 2, h => absurd h (by omega))
theorem kin2 : ∀ w ∈ u_ws RX2 TX2 3, w ∈ BIG := kin_of (fun k hk => match k, hk with | 0, _ => bw1_167 | 1, _ => bw1_169 | 2, _ => bw1_171 | k + 3, h => absurd h (by omega))
theorem kin3 : ∀ w ∈ u_ws RX3 TX3 6, w ∈ BIG := kin_of (fun k hk => match k, hk with | 0, _ => bw1_202 | 1, _ => bw1_204 | 2, _ => bw1_206 | 3, _ => bw1_208 | 4, _ => bw1_210 | 5, _ => bw1_212 | k + 6, h => absurd h (by omega))
theorem kin4 : ∀ w ∈ u_ws RX4 TX4 2, w ∈ BIG := kin_of (fun k hk => match k, hk with | 0, _ => bw1_120 | 1, _ => bw1_122 | k + 2, h => absurd h (by omega))
theorem kin5 : ∀ w ∈ u_ws RX5 TX5 3, w ∈ BIG := kin_of (fun k hk => match k, hk with | 0, _ => bw1_129 | 1, _ => bw1_131 | 2, _ => bw1_133 | k + 3, h => absurd h (by omega))
theorem kin6 : ∀ w ∈ u_ws RX6 TX6 4, w ∈ BIG := kin_of (fun k hk => match k, hk with | 0, _ => bw1_50 | 1, _ => bw1_52 | 2, _ => bw1_54 | 3, _ => bw1_56 | k + 4, h => absurd h (by omega))
theorem kin7 : ∀ w ∈ u_ws RX7 TX7 6, w ∈ BIG := kin_of (fun k hk => match k, hk with | 0, _ => bw1_94 | 1, _ => bw1_96 | 2, _ => bw1_98 | 3, _ => bw1_100 | 4, _ => bw1_102 | 5, _ => bw1_104 | k + 6, h => absurd h (by omega))
theorem kin8 : ∀ w ∈ u_ws RX8 TX8 6, w ∈ BIG := kin_of (fun k hk => match k, hk with | 0, _ => bw1_221 | 1, _ => bw1_223 | 2, _ => bw1_225 | 3, _ => bw1_227 | 4, _ => bw1_229 | 5, _ => bw1_231 | k + 6, h => absurd h (by omega))
theorem kin9 : ∀ w ∈ u_ws RX9 TX9 10, w ∈ BIG := kin_of (fun k hk => match k, hk with | 0, _ => bw4_35 | 1, _ => bw4_37 | 2, _ => bw4_39 | 3, _ => bw4_41 | 4, _ => bw4_43 | 5, _ => bw4_45 | 6, _ => bw4_47 | 7, _ => bw4_49 | 8, _ => bw4_51 | 9, _ => bw4_53 | k + 10, h => absurd h (by omega))
end
section
abbrev Vn : Type := Tb × Tb × Tb × Tb × Tb × Int32
abbrev Sn : Type := Vn × (Int32 × Vn) × (Int32 × Vn)
abbrev Pg : Type := (Nat → Int32) × (Nat → Int32) × Int32 × Int32 × Int32 × Int32
abbrev Md : Type := (Nat → Int32) × (Nat → Int32) × (Nat → Int32) × Int32 × (Nat → Int32) × Int32 × Int32 × Int32 × Int64 × (Nat → Int32)
def wTb (cI : ClassId) (th tc tn : Nat) (cap tw : Int32) (T : Tb) : va_W := [(th, .inr (6, [.ref tc, .int cap, .int tw, .int T.1])), (tc, .inl (cI, tn, .inl T.2))]
theorem pTb_0 (cI : ClassId) (th tc tn : Nat) (cap tw : Int32) (T : Tb) : (wTb cI th tc tn cap tw T)[0]? = some (th, .inr (6, [.ref tc, .int cap, .int tw, .int T.1])) := rfl
theorem pTb_1 (cI : ClassId) (th tc tn : Nat) (cap tw : Int32) (T : Tb) : (wTb cI th tc tn cap tw T)[1]? = some (tc, .inl (cI, tn, .inl T.2)) := rfl
def wVn (cI : ClassId) (a : Nat → Nat) (V : Vn) : va_W := (a 0, .inr (7, [.ref (a 1), .ref (a 3), .ref (a 5), .ref (a 7), .ref (a 9), .int V.2.2.2.2.2])) :: (wTb cI (a 1) (a 2) 44 4 11 V.1 ++ wTb cI (a 3) (a 4) 160 16 10 V.2.1 ++ wTb cI (a 5) (a 6) 16 8 2 V.2.2.1 ++ wTb cI (a 7) (a 8) 64 16 4 V.2.2.2.1 ++ wTb cI (a 9) (a 10) 5 5 1 V.2.2.2.2.1)
theorem pVn_0 (cI : ClassId) (a : Nat → Nat) (V : Vn) : (wVn cI a V)[0]? = some (a 0, .inr (7, [.ref (a 1), .ref (a 3), .ref (a 5), .ref (a 7), .ref (a 9), .int V.2.2.2.2.2])) := rfl
theorem pVn_1 (cI : ClassId) (a : Nat → Nat) (V : Vn) : (wVn cI a V)[1]? = some (a 1, .inr (6, [.ref (a 2), .int 4, .int 11, .int V.1.1])) := rfl
theorem pVn_2 (cI : ClassId) (a : Nat → Nat) (V : Vn) : (wVn cI a V)[2]? = some (a 2, .inl (cI, 44, .inl V.1.2)) := rfl
theorem pVn_3 (cI : ClassId) (a : Nat → Nat) (V : Vn) : (wVn cI a V)[3]? = some (a 3, .inr (6, [.ref (a 4), .int 16, .int 10, .int V.2.1.1])) := rfl
theorem pVn_4 (cI : ClassId) (a : Nat → Nat) (V : Vn) : (wVn cI a V)[4]? = some (a 4, .inl (cI, 160, .inl V.2.1.2)) := rfl
theorem pVn_5 (cI : ClassId) (a : Nat → Nat) (V : Vn) : (wVn cI a V)[5]? = some (a 5, .inr (6, [.ref (a 6), .int 8, .int 2, .int V.2.2.1.1])) := rfl
theorem pVn_6 (cI : ClassId) (a : Nat → Nat) (V : Vn) : (wVn cI a V)[6]? = some (a 6, .inl (cI, 16, .inl V.2.2.1.2)) := rfl
theorem pVn_7 (cI : ClassId) (a : Nat → Nat) (V : Vn) : (wVn cI a V)[7]? = some (a 7, .inr (6, [.ref (a 8), .int 16, .int 4, .int V.2.2.2.1.1])) := rfl
theorem pVn_8 (cI : ClassId) (a : Nat → Nat) (V : Vn) : (wVn cI a V)[8]? = some (a 8, .inl (cI, 64, .inl V.2.2.2.1.2)) := rfl
theorem pVn_9 (cI : ClassId) (a : Nat → Nat) (V : Vn) : (wVn cI a V)[9]? = some (a 9, .inr (6, [.ref (a 10), .int 5, .int 1, .int V.2.2.2.2.1.1])) := rfl
theorem pVn_10 (cI : ClassId) (a : Nat → Nat) (V : Vn) : (wVn cI a V)[10]? = some (a 10, .inl (cI, 5, .inl V.2.2.2.2.1.2)) := rfl
def wDk (cI : ClassId) (d : Nat) (a : Nat → Nat) (V : Vn) : va_W := (d, .inr (0, [.ref (a 0), .ref (a 1), .ref (a 3), .ref (a 5), .ref (a 7)])) :: wVn cI a V
theorem pDk_0 (cI : ClassId) (d : Nat) (a : Nat → Nat) (V : Vn) : (wDk cI d a V)[0]? = some (d, .inr (0, [.ref (a 0), .ref (a 1), .ref (a 3), .ref (a 5), .ref (a 7)])) := rfl
theorem pDk_1 (cI : ClassId) (d : Nat) (a : Nat → Nat) (V : Vn) : (wDk cI d a V)[1]? = some (a 0, .inr (7, [.ref (a 1), .ref (a 3), .ref (a 5), .ref (a 7), .ref (a 9), .int V.2.2.2.2.2])) := rfl
theorem pDk_2 (cI : ClassId) (d : Nat) (a : Nat → Nat) (V : Vn) : (wDk cI d a V)[2]? = some (a 1, .inr (6, [.ref (a 2), .int 4, .int 11, .int V.1.1])) := rfl
theorem pDk_3 (cI : ClassId) (d : Nat) (a : Nat → Nat) (V : Vn) : (wDk cI d a V)[3]? = some (a 2, .inl (cI, 44, .inl V.1.2)) := rfl
theorem pDk_4 (cI : ClassId) (d : Nat) (a : Nat → Nat) (V : Vn) : (wDk cI d a V)[4]? = some (a 3, .inr (6, [.ref (a 4), .int 16, .int 10, .int V.2.1.1])) := rfl
theorem pDk_5 (cI : ClassId) (d : Nat) (a : Nat → Nat) (V : Vn) : (wDk cI d a V)[5]? = some (a 4, .inl (cI, 160, .inl V.2.1.2)) := rfl
theorem pDk_6 (cI : ClassId) (d : Nat) (a : Nat → Nat) (V : Vn) : (wDk cI d a V)[6]? = some (a 5, .inr (6, [.ref (a 6), .int 8, .int 2, .int V.2.2.1.1])) := rfl
theorem pDk_7 (cI : ClassId) (d : Nat) (a : Nat → Nat) (V : Vn) : (wDk cI d a V)[7]? = some (a 6, .inl (cI, 16, .inl V.2.2.1.2)) := rfl
theorem pDk_8 (cI : ClassId) (d : Nat) (a : Nat → Nat) (V : Vn) : (wDk cI d a V)[8]? = some (a 7, .inr (6, [.ref (a 8), .int 16, .int 4, .int V.2.2.2.1.1])) := rfl
theorem pDk_9 (cI : ClassId) (d : Nat) (a : Nat → Nat) (V : Vn) : (wDk cI d a V)[9]? = some (a 8, .inl (cI, 64, .inl V.2.2.2.1.2)) := rfl
theorem pDk_10 (cI : ClassId) (d : Nat) (a : Nat → Nat) (V : Vn) : (wDk cI d a V)[10]? = some (a 9, .inr (6, [.ref (a 10), .int 5, .int 1, .int V.2.2.2.2.1.1])) := rfl
theorem pDk_11 (cI : ClassId) (d : Nat) (a : Nat → Nat) (V : Vn) : (wDk cI d a V)[11]? = some (a 10, .inl (cI, 5, .inl V.2.2.2.2.1.2)) := rfl
def wOl (cI : ClassId) (d : Nat) (a : Nat → Nat) (V : Vn) : va_W := (d, .inr (2, [.ref (a 0), .ref (a 1), .ref (a 3)])) :: wVn cI a V
theorem pOl_0 (cI : ClassId) (d : Nat) (a : Nat → Nat) (V : Vn) : (wOl cI d a V)[0]? = some (d, .inr (2, [.ref (a 0), .ref (a 1), .ref (a 3)])) := rfl
theorem pOl_1 (cI : ClassId) (d : Nat) (a : Nat → Nat) (V : Vn) : (wOl cI d a V)[1]? = some (a 0, .inr (7, [.ref (a 1), .ref (a 3), .ref (a 5), .ref (a 7), .ref (a 9), .int V.2.2.2.2.2])) := rfl
theorem pOl_2 (cI : ClassId) (d : Nat) (a : Nat → Nat) (V : Vn) : (wOl cI d a V)[2]? = some (a 1, .inr (6, [.ref (a 2), .int 4, .int 11, .int V.1.1])) := rfl
theorem pOl_3 (cI : ClassId) (d : Nat) (a : Nat → Nat) (V : Vn) : (wOl cI d a V)[3]? = some (a 2, .inl (cI, 44, .inl V.1.2)) := rfl
theorem pOl_4 (cI : ClassId) (d : Nat) (a : Nat → Nat) (V : Vn) : (wOl cI d a V)[4]? = some (a 3, .inr (6, [.ref (a 4), .int 16, .int 10, .int V.2.1.1])) := rfl
theorem pOl_5 (cI : ClassId) (d : Nat) (a : Nat → Nat) (V : Vn) : (wOl cI d a V)[5]? = some (a 4, .inl (cI, 160, .inl V.2.1.2)) := rfl
theorem pOl_6 (cI : ClassId) (d : Nat) (a : Nat → Nat) (V : Vn) : (wOl cI d a V)[6]? = some (a 5, .inr (6, [.ref (a 6), .int 8, .int 2, .int V.2.2.1.1])) := rfl
theorem pOl_7 (cI : ClassId) (d : Nat) (a : Nat → Nat) (V : Vn) : (wOl cI d a V)[7]? = some (a 6, .inl (cI, 16, .inl V.2.2.1.2)) := rfl
theorem pOl_8 (cI : ClassId) (d : Nat) (a : Nat → Nat) (V : Vn) : (wOl cI d a V)[8]? = some (a 7, .inr (6, [.ref (a 8), .int 16, .int 4, .int V.2.2.2.1.1])) := rfl
theorem pOl_9 (cI : ClassId) (d : Nat) (a : Nat → Nat) (V : Vn) : (wOl cI d a V)[9]? = some (a 8, .inl (cI, 64, .inl V.2.2.2.1.2)) := rfl
theorem pOl_10 (cI : ClassId) (d : Nat) (a : Nat → Nat) (V : Vn) : (wOl cI d a V)[10]? = some (a 9, .inr (6, [.ref (a 10), .int 5, .int 1, .int V.2.2.2.2.1.1])) := rfl
theorem pOl_11 (cI : ClassId) (d : Nat) (a : Nat → Nat) (V : Vn) : (wOl cI d a V)[11]? = some (a 10, .inl (cI, 5, .inl V.2.2.2.2.1.2)) := rfl
def wPg (cI : ClassId) (q : Nat → Nat) (P : Pg) : va_W := [(q 0, .inr (3, [.ref (q 1), .ref (q 2), .int P.2.2.1, .int P.2.2.2.1, .int P.2.2.2.2.1, .int P.2.2.2.2.2])), (q 1, .inl (cI, 140, .inl P.1)), (q 2, .inl (cI, 4, .inl P.2.1))]
theorem pPg_0 (cI : ClassId) (q : Nat → Nat) (P : Pg) : (wPg cI q P)[0]? = some (q 0, .inr (3, [.ref (q 1), .ref (q 2), .int P.2.2.1, .int P.2.2.2.1, .int P.2.2.2.2.1, .int P.2.2.2.2.2])) := rfl
theorem pPg_1 (cI : ClassId) (q : Nat → Nat) (P : Pg) : (wPg cI q P)[1]? = some (q 1, .inl (cI, 140, .inl P.1)) := rfl
theorem pPg_2 (cI : ClassId) (q : Nat → Nat) (P : Pg) : (wPg cI q P)[2]? = some (q 2, .inl (cI, 4, .inl P.2.1)) := rfl
def wPd (cI : ClassId) (q : Nat → Nat) (d : Nat) (a : Nat → Nat) (N : Pg × Vn) : va_W := wPg cI q N.1 ++ wDk cI d a N.2
theorem pPd_0 (cI : ClassId) (q : Nat → Nat) (d : Nat) (a : Nat → Nat) (N : Pg × Vn) : (wPd cI q d a N)[0]? = some (q 0, .inr (3, [.ref (q 1), .ref (q 2), .int N.1.2.2.1, .int N.1.2.2.2.1, .int N.1.2.2.2.2.1, .int N.1.2.2.2.2.2])) := rfl
theorem pPd_1 (cI : ClassId) (q : Nat → Nat) (d : Nat) (a : Nat → Nat) (N : Pg × Vn) : (wPd cI q d a N)[1]? = some (q 1, .inl (cI, 140, .inl N.1.1)) := rfl
theorem pPd_2 (cI : ClassId) (q : Nat → Nat) (d : Nat) (a : Nat → Nat) (N : Pg × Vn) : (wPd cI q d a N)[2]? = some (q 2, .inl (cI, 4, .inl N.1.2.1)) := rfl
theorem pPd_3 (cI : ClassId) (q : Nat → Nat) (d : Nat) (a : Nat → Nat) (N : Pg × Vn) : (wPd cI q d a N)[3]? = some (d, .inr (0, [.ref (a 0), .ref (a 1), .ref (a 3), .ref (a 5), .ref (a 7)])) := rfl
theorem pPd_4 (cI : ClassId) (q : Nat → Nat) (d : Nat) (a : Nat → Nat) (N : Pg × Vn) : (wPd cI q d a N)[4]? = some (a 0, .inr (7, [.ref (a 1), .ref (a 3), .ref (a 5), .ref (a 7), .ref (a 9), .int N.2.2.2.2.2.2])) := rfl
theorem pPd_5 (cI : ClassId) (q : Nat → Nat) (d : Nat) (a : Nat → Nat) (N : Pg × Vn) : (wPd cI q d a N)[5]? = some (a 1, .inr (6, [.ref (a 2), .int 4, .int 11, .int N.2.1.1])) := rfl
theorem pPd_6 (cI : ClassId) (q : Nat → Nat) (d : Nat) (a : Nat → Nat) (N : Pg × Vn) : (wPd cI q d a N)[6]? = some (a 2, .inl (cI, 44, .inl N.2.1.2)) := rfl
theorem pPd_7 (cI : ClassId) (q : Nat → Nat) (d : Nat) (a : Nat → Nat) (N : Pg × Vn) : (wPd cI q d a N)[7]? = some (a 3, .inr (6, [.ref (a 4), .int 16, .int 10, .int N.2.2.1.1])) := rfl
theorem pPd_8 (cI : ClassId) (q : Nat → Nat) (d : Nat) (a : Nat → Nat) (N : Pg × Vn) : (wPd cI q d a N)[8]? = some (a 4, .inl (cI, 160, .inl N.2.2.1.2)) := rfl
theorem pPd_9 (cI : ClassId) (q : Nat → Nat) (d : Nat) (a : Nat → Nat) (N : Pg × Vn) : (wPd cI q d a N)[9]? = some (a 5, .inr (6, [.ref (a 6), .int 8, .int 2, .int N.2.2.2.1.1])) := rfl
theorem pPd_10 (cI : ClassId) (q : Nat → Nat) (d : Nat) (a : Nat → Nat) (N : Pg × Vn) : (wPd cI q d a N)[10]? = some (a 6, .inl (cI, 16, .inl N.2.2.2.1.2)) := rfl
theorem pPd_11 (cI : ClassId) (q : Nat → Nat) (d : Nat) (a : Nat → Nat) (N : Pg × Vn) : (wPd cI q d a N)[11]? = some (a 7, .inr (6, [.ref (a 8), .int 16, .int 4, .int N.2.2.2.2.1.1])) := rfl
theorem pPd_12 (cI : ClassId) (q : Nat → Nat) (d : Nat) (a : Nat → Nat) (N : Pg × Vn) : (wPd cI q d a N)[12]? = some (a 8, .inl (cI, 64, .inl N.2.2.2.2.1.2)) := rfl
theorem pPd_13 (cI : ClassId) (q : Nat → Nat) (d : Nat) (a : Nat → Nat) (N : Pg × Vn) : (wPd cI q d a N)[13]? = some (a 9, .inr (6, [.ref (a 10), .int 5, .int 1, .int N.2.2.2.2.2.1.1])) := rfl
theorem pPd_14 (cI : ClassId) (q : Nat → Nat) (d : Nat) (a : Nat → Nat) (N : Pg × Vn) : (wPd cI q d a N)[14]? = some (a 10, .inl (cI, 5, .inl N.2.2.2.2.2.1.2)) := rfl
def wMd (cI : ClassId) (b : Nat → Nat) (M : Md) : va_W := [(b 0, .inr (9, [.ref (b 1), .ref (b 2), .ref (b 3), .int M.2.2.2.1, .ref (b 4), .int M.2.2.2.2.2.1, .int M.2.2.2.2.2.2.1, .int M.2.2.2.2.2.2.2.1, .long M.2.2.2.2.2.2.2.2.1, .ref (b 5)])), (b 1, .inl (cI, 1553, .inl M.1)), (b 2, .inl (cI, 7765, .inl M.2.1)), (b 3, .inl (cI, 1553, .inl M.2.2.1)), (b 4, .inl (cI, 140, .inl M.2.2.2.2.1)), (b 5, .inl (cI, 4, .inl M.2.2.2.2.2.2.2.2.2))]
theorem pMd_0 (cI : ClassId) (b : Nat → Nat) (M : Md) : (wMd cI b M)[0]? = some (b 0, .inr (9, [.ref (b 1), .ref (b 2), .ref (b 3), .int M.2.2.2.1, .ref (b 4), .int M.2.2.2.2.2.1, .int M.2.2.2.2.2.2.1, .int M.2.2.2.2.2.2.2.1, .long M.2.2.2.2.2.2.2.2.1, .ref (b 5)])) := rfl
theorem pMd_1 (cI : ClassId) (b : Nat → Nat) (M : Md) : (wMd cI b M)[1]? = some (b 1, .inl (cI, 1553, .inl M.1)) := rfl
theorem pMd_2 (cI : ClassId) (b : Nat → Nat) (M : Md) : (wMd cI b M)[2]? = some (b 2, .inl (cI, 7765, .inl M.2.1)) := rfl
theorem pMd_3 (cI : ClassId) (b : Nat → Nat) (M : Md) : (wMd cI b M)[3]? = some (b 3, .inl (cI, 1553, .inl M.2.2.1)) := rfl
theorem pMd_4 (cI : ClassId) (b : Nat → Nat) (M : Md) : (wMd cI b M)[4]? = some (b 4, .inl (cI, 140, .inl M.2.2.2.2.1)) := rfl
theorem pMd_5 (cI : ClassId) (b : Nat → Nat) (M : Md) : (wMd cI b M)[5]? = some (b 5, .inl (cI, 4, .inl M.2.2.2.2.2.2.2.2.2)) := rfl
def wTT (cI : ClassId) (th tc uh uc tn : Nat) (cap tw : Int32) (N : Tb × Tb) : va_W := wTb cI th tc tn cap tw N.1 ++ wTb cI uh uc tn cap tw N.2
theorem pTT_0 (cI : ClassId) (th tc uh uc tn : Nat) (cap tw : Int32) (N : Tb × Tb) : (wTT cI th tc uh uc tn cap tw N)[0]? = some (th, .inr (6, [.ref tc, .int cap, .int tw, .int N.1.1])) := rfl
theorem pTT_1 (cI : ClassId) (th tc uh uc tn : Nat) (cap tw : Int32) (N : Tb × Tb) : (wTT cI th tc uh uc tn cap tw N)[1]? = some (tc, .inl (cI, tn, .inl N.1.2)) := rfl
theorem pTT_2 (cI : ClassId) (th tc uh uc tn : Nat) (cap tw : Int32) (N : Tb × Tb) : (wTT cI th tc uh uc tn cap tw N)[2]? = some (uh, .inr (6, [.ref uc, .int cap, .int tw, .int N.2.1])) := rfl
theorem pTT_3 (cI : ClassId) (th tc uh uc tn : Nat) (cap tw : Int32) (N : Tb × Tb) : (wTT cI th tc uh uc tn cap tw N)[3]? = some (uc, .inl (cI, tn, .inl N.2.2)) := rfl
def wVV (cI : ClassId) (a a2 : Nat → Nat) (N : Vn × Vn) : va_W := wVn cI a N.1 ++ wVn cI a2 N.2
theorem pVV_0 (cI : ClassId) (a a2 : Nat → Nat) (N : Vn × Vn) : (wVV cI a a2 N)[0]? = some (a 0, .inr (7, [.ref (a 1), .ref (a 3), .ref (a 5), .ref (a 7), .ref (a 9), .int N.1.2.2.2.2.2])) := rfl
theorem pVV_1 (cI : ClassId) (a a2 : Nat → Nat) (N : Vn × Vn) : (wVV cI a a2 N)[1]? = some (a 1, .inr (6, [.ref (a 2), .int 4, .int 11, .int N.1.1.1])) := rfl
theorem pVV_2 (cI : ClassId) (a a2 : Nat → Nat) (N : Vn × Vn) : (wVV cI a a2 N)[2]? = some (a 2, .inl (cI, 44, .inl N.1.1.2)) := rfl
theorem pVV_3 (cI : ClassId) (a a2 : Nat → Nat) (N : Vn × Vn) : (wVV cI a a2 N)[3]? = some (a 3, .inr (6, [.ref (a 4), .int 16, .int 10, .int N.1.2.1.1])) := rfl
theorem pVV_4 (cI : ClassId) (a a2 : Nat → Nat) (N : Vn × Vn) : (wVV cI a a2 N)[4]? = some (a 4, .inl (cI, 160, .inl N.1.2.1.2)) := rfl
theorem pVV_5 (cI : ClassId) (a a2 : Nat → Nat) (N : Vn × Vn) : (wVV cI a a2 N)[5]? = some (a 5, .inr (6, [.ref (a 6), .int 8, .int 2, .int N.1.2.2.1.1])) := rfl
theorem pVV_6 (cI : ClassId) (a a2 : Nat → Nat) (N : Vn × Vn) : (wVV cI a a2 N)[6]? = some (a 6, .inl (cI, 16, .inl N.1.2.2.1.2)) := rfl
theorem pVV_7 (cI : ClassId) (a a2 : Nat → Nat) (N : Vn × Vn) : (wVV cI a a2 N)[7]? = some (a 7, .inr (6, [.ref (a 8), .int 16, .int 4, .int N.1.2.2.2.1.1])) := rfl
theorem pVV_8 (cI : ClassId) (a a2 : Nat → Nat) (N : Vn × Vn) : (wVV cI a a2 N)[8]? = some (a 8, .inl (cI, 64, .inl N.1.2.2.2.1.2)) := rfl
theorem pVV_9 (cI : ClassId) (a a2 : Nat → Nat) (N : Vn × Vn) : (wVV cI a a2 N)[9]? = some (a 9, .inr (6, [.ref (a 10), .int 5, .int 1, .int N.1.2.2.2.2.1.1])) := rfl
theorem pVV_10 (cI : ClassId) (a a2 : Nat → Nat) (N : Vn × Vn) : (wVV cI a a2 N)[10]? = some (a 10, .inl (cI, 5, .inl N.1.2.2.2.2.1.2)) := rfl
theorem pVV_11 (cI : ClassId) (a a2 : Nat → Nat) (N : Vn × Vn) : (wVV cI a a2 N)[11]? = some (a2 0, .inr (7, [.ref (a2 1), .ref (a2 3), .ref (a2 5), .ref (a2 7), .ref (a2 9), .int N.2.2.2.2.2.2])) := rfl
theorem pVV_12 (cI : ClassId) (a a2 : Nat → Nat) (N : Vn × Vn) : (wVV cI a a2 N)[12]? = some (a2 1, .inr (6, [.ref (a2 2), .int 4, .int 11, .int N.2.1.1])) := rfl
theorem pVV_13 (cI : ClassId) (a a2 : Nat → Nat) (N : Vn × Vn) : (wVV cI a a2 N)[13]? = some (a2 2, .inl (cI, 44, .inl N.2.1.2)) := rfl
theorem pVV_14 (cI : ClassId) (a a2 : Nat → Nat) (N : Vn × Vn) : (wVV cI a a2 N)[14]? = some (a2 3, .inr (6, [.ref (a2 4), .int 16, .int 10, .int N.2.2.1.1])) := rfl
theorem pVV_15 (cI : ClassId) (a a2 : Nat → Nat) (N : Vn × Vn) : (wVV cI a a2 N)[15]? = some (a2 4, .inl (cI, 160, .inl N.2.2.1.2)) := rfl
theorem pVV_16 (cI : ClassId) (a a2 : Nat → Nat) (N : Vn × Vn) : (wVV cI a a2 N)[16]? = some (a2 5, .inr (6, [.ref (a2 6), .int 8, .int 2, .int N.2.2.2.1.1])) := rfl
theorem pVV_17 (cI : ClassId) (a a2 : Nat → Nat) (N : Vn × Vn) : (wVV cI a a2 N)[17]? = some (a2 6, .inl (cI, 16, .inl N.2.2.2.1.2)) := rfl
theorem pVV_18 (cI : ClassId) (a a2 : Nat → Nat) (N : Vn × Vn) : (wVV cI a a2 N)[18]? = some (a2 7, .inr (6, [.ref (a2 8), .int 16, .int 4, .int N.2.2.2.2.1.1])) := rfl
theorem pVV_19 (cI : ClassId) (a a2 : Nat → Nat) (N : Vn × Vn) : (wVV cI a a2 N)[19]? = some (a2 8, .inl (cI, 64, .inl N.2.2.2.2.1.2)) := rfl
theorem pVV_20 (cI : ClassId) (a a2 : Nat → Nat) (N : Vn × Vn) : (wVV cI a a2 N)[20]? = some (a2 9, .inr (6, [.ref (a2 10), .int 5, .int 1, .int N.2.2.2.2.2.1.1])) := rfl
theorem pVV_21 (cI : ClassId) (a a2 : Nat → Nat) (N : Vn × Vn) : (wVV cI a a2 N)[21]? = some (a2 10, .inl (cI, 5, .inl N.2.2.2.2.2.1.2)) := rfl
def wSV (cI : ClassId) (h : Nat) (a a2 : Nat → Nat) (N : (Int32 × Vn) × Vn) : va_W := (h, .inr (4, [.ref (a 0), .int N.1.1])) :: (wVn cI a N.1.2 ++ wVn cI a2 N.2)
theorem pSV_0 (cI : ClassId) (h : Nat) (a a2 : Nat → Nat) (N : (Int32 × Vn) × Vn) : (wSV cI h a a2 N)[0]? = some (h, .inr (4, [.ref (a 0), .int N.1.1])) := rfl
theorem pSV_1 (cI : ClassId) (h : Nat) (a a2 : Nat → Nat) (N : (Int32 × Vn) × Vn) : (wSV cI h a a2 N)[1]? = some (a 0, .inr (7, [.ref (a 1), .ref (a 3), .ref (a 5), .ref (a 7), .ref (a 9), .int N.1.2.2.2.2.2.2])) := rfl
theorem pSV_2 (cI : ClassId) (h : Nat) (a a2 : Nat → Nat) (N : (Int32 × Vn) × Vn) : (wSV cI h a a2 N)[2]? = some (a 1, .inr (6, [.ref (a 2), .int 4, .int 11, .int N.1.2.1.1])) := rfl
theorem pSV_3 (cI : ClassId) (h : Nat) (a a2 : Nat → Nat) (N : (Int32 × Vn) × Vn) : (wSV cI h a a2 N)[3]? = some (a 2, .inl (cI, 44, .inl N.1.2.1.2)) := rfl
theorem pSV_4 (cI : ClassId) (h : Nat) (a a2 : Nat → Nat) (N : (Int32 × Vn) × Vn) : (wSV cI h a a2 N)[4]? = some (a 3, .inr (6, [.ref (a 4), .int 16, .int 10, .int N.1.2.2.1.1])) := rfl
theorem pSV_5 (cI : ClassId) (h : Nat) (a a2 : Nat → Nat) (N : (Int32 × Vn) × Vn) : (wSV cI h a a2 N)[5]? = some (a 4, .inl (cI, 160, .inl N.1.2.2.1.2)) := rfl
theorem pSV_6 (cI : ClassId) (h : Nat) (a a2 : Nat → Nat) (N : (Int32 × Vn) × Vn) : (wSV cI h a a2 N)[6]? = some (a 5, .inr (6, [.ref (a 6), .int 8, .int 2, .int N.1.2.2.2.1.1])) := rfl
theorem pSV_7 (cI : ClassId) (h : Nat) (a a2 : Nat → Nat) (N : (Int32 × Vn) × Vn) : (wSV cI h a a2 N)[7]? = some (a 6, .inl (cI, 16, .inl N.1.2.2.2.1.2)) := rfl
theorem pSV_8 (cI : ClassId) (h : Nat) (a a2 : Nat → Nat) (N : (Int32 × Vn) × Vn) : (wSV cI h a a2 N)[8]? = some (a 7, .inr (6, [.ref (a 8), .int 16, .int 4, .int N.1.2.2.2.2.1.1])) := rfl
theorem pSV_9 (cI : ClassId) (h : Nat) (a a2 : Nat → Nat) (N : (Int32 × Vn) × Vn) : (wSV cI h a a2 N)[9]? = some (a 8, .inl (cI, 64, .inl N.1.2.2.2.2.1.2)) := rfl
theorem pSV_10 (cI : ClassId) (h : Nat) (a a2 : Nat → Nat) (N : (Int32 × Vn) × Vn) : (wSV cI h a a2 N)[10]? = some (a 9, .inr (6, [.ref (a 10), .int 5, .int 1, .int N.1.2.2.2.2.2.1.1])) := rfl
theorem pSV_11 (cI : ClassId) (h : Nat) (a a2 : Nat → Nat) (N : (Int32 × Vn) × Vn) : (wSV cI h a a2 N)[11]? = some (a 10, .inl (cI, 5, .inl N.1.2.2.2.2.2.1.2)) := rfl
theorem pSV_12 (cI : ClassId) (h : Nat) (a a2 : Nat → Nat) (N : (Int32 × Vn) × Vn) : (wSV cI h a a2 N)[12]? = some (a2 0, .inr (7, [.ref (a2 1), .ref (a2 3), .ref (a2 5), .ref (a2 7), .ref (a2 9), .int N.2.2.2.2.2.2])) := rfl
theorem pSV_13 (cI : ClassId) (h : Nat) (a a2 : Nat → Nat) (N : (Int32 × Vn) × Vn) : (wSV cI h a a2 N)[13]? = some (a2 1, .inr (6, [.ref (a2 2), .int 4, .int 11, .int N.2.1.1])) := rfl
theorem pSV_14 (cI : ClassId) (h : Nat) (a a2 : Nat → Nat) (N : (Int32 × Vn) × Vn) : (wSV cI h a a2 N)[14]? = some (a2 2, .inl (cI, 44, .inl N.2.1.2)) := rfl
theorem pSV_15 (cI : ClassId) (h : Nat) (a a2 : Nat → Nat) (N : (Int32 × Vn) × Vn) : (wSV cI h a a2 N)[15]? = some (a2 3, .inr (6, [.ref (a2 4), .int 16, .int 10, .int N.2.2.1.1])) := rfl
theorem pSV_16 (cI : ClassId) (h : Nat) (a a2 : Nat → Nat) (N : (Int32 × Vn) × Vn) : (wSV cI h a a2 N)[16]? = some (a2 4, .inl (cI, 160, .inl N.2.2.1.2)) := rfl
theorem pSV_17 (cI : ClassId) (h : Nat) (a a2 : Nat → Nat) (N : (Int32 × Vn) × Vn) : (wSV cI h a a2 N)[17]? = some (a2 5, .inr (6, [.ref (a2 6), .int 8, .int 2, .int N.2.2.2.1.1])) := rfl
theorem pSV_18 (cI : ClassId) (h : Nat) (a a2 : Nat → Nat) (N : (Int32 × Vn) × Vn) : (wSV cI h a a2 N)[18]? = some (a2 6, .inl (cI, 16, .inl N.2.2.2.1.2)) := rfl
theorem pSV_19 (cI : ClassId) (h : Nat) (a a2 : Nat → Nat) (N : (Int32 × Vn) × Vn) : (wSV cI h a a2 N)[19]? = some (a2 7, .inr (6, [.ref (a2 8), .int 16, .int 4, .int N.2.2.2.2.1.1])) := rfl
theorem pSV_20 (cI : ClassId) (h : Nat) (a a2 : Nat → Nat) (N : (Int32 × Vn) × Vn) : (wSV cI h a a2 N)[20]? = some (a2 8, .inl (cI, 64, .inl N.2.2.2.2.1.2)) := rfl
theorem pSV_21 (cI : ClassId) (h : Nat) (a a2 : Nat → Nat) (N : (Int32 × Vn) × Vn) : (wSV cI h a a2 N)[21]? = some (a2 9, .inr (6, [.ref (a2 10), .int 5, .int 1, .int N.2.2.2.2.2.1.1])) := rfl
theorem pSV_22 (cI : ClassId) (h : Nat) (a a2 : Nat → Nat) (N : (Int32 × Vn) × Vn) : (wSV cI h a a2 N)[22]? = some (a2 10, .inl (cI, 5, .inl N.2.2.2.2.2.1.2)) := rfl
def wSS (cI : ClassId) (h : Nat) (a : Nat → Nat) (h2 : Nat) (a2 : Nat → Nat) (N : (Int32 × Vn) × (Int32 × Vn)) : va_W := ((h, .inr (4, [.ref (a 0), .int N.1.1])) :: wVn cI a N.1.2) ++ ((h2, .inr (4, [.ref (a2 0), .int N.2.1])) :: wVn cI a2 N.2.2)
theorem pSS_0 (cI : ClassId) (h : Nat) (a : Nat → Nat) (h2 : Nat) (a2 : Nat → Nat) (N : (Int32 × Vn) × (Int32 × Vn)) : (wSS cI h a h2 a2 N)[0]? = some (h, .inr (4, [.ref (a 0), .int N.1.1])) := rfl
theorem pSS_1 (cI : ClassId) (h : Nat) (a : Nat → Nat) (h2 : Nat) (a2 : Nat → Nat) (N : (Int32 × Vn) × (Int32 × Vn)) : (wSS cI h a h2 a2 N)[1]? = some (a 0, .inr (7, [.ref (a 1), .ref (a 3), .ref (a 5), .ref (a 7), .ref (a 9), .int N.1.2.2.2.2.2.2])) := rfl
theorem pSS_2 (cI : ClassId) (h : Nat) (a : Nat → Nat) (h2 : Nat) (a2 : Nat → Nat) (N : (Int32 × Vn) × (Int32 × Vn)) : (wSS cI h a h2 a2 N)[2]? = some (a 1, .inr (6, [.ref (a 2), .int 4, .int 11, .int N.1.2.1.1])) := rfl
theorem pSS_3 (cI : ClassId) (h : Nat) (a : Nat → Nat) (h2 : Nat) (a2 : Nat → Nat) (N : (Int32 × Vn) × (Int32 × Vn)) : (wSS cI h a h2 a2 N)[3]? = some (a 2, .inl (cI, 44, .inl N.1.2.1.2)) := rfl
theorem pSS_4 (cI : ClassId) (h : Nat) (a : Nat → Nat) (h2 : Nat) (a2 : Nat → Nat) (N : (Int32 × Vn) × (Int32 × Vn)) : (wSS cI h a h2 a2 N)[4]? = some (a 3, .inr (6, [.ref (a 4), .int 16, .int 10, .int N.1.2.2.1.1])) := rfl
theorem pSS_5 (cI : ClassId) (h : Nat) (a : Nat → Nat) (h2 : Nat) (a2 : Nat → Nat) (N : (Int32 × Vn) × (Int32 × Vn)) : (wSS cI h a h2 a2 N)[5]? = some (a 4, .inl (cI, 160, .inl N.1.2.2.1.2)) := rfl
theorem pSS_6 (cI : ClassId) (h : Nat) (a : Nat → Nat) (h2 : Nat) (a2 : Nat → Nat) (N : (Int32 × Vn) × (Int32 × Vn)) : (wSS cI h a h2 a2 N)[6]? = some (a 5, .inr (6, [.ref (a 6), .int 8, .int 2, .int N.1.2.2.2.1.1])) := rfl
theorem pSS_7 (cI : ClassId) (h : Nat) (a : Nat → Nat) (h2 : Nat) (a2 : Nat → Nat) (N : (Int32 × Vn) × (Int32 × Vn)) : (wSS cI h a h2 a2 N)[7]? = some (a 6, .inl (cI, 16, .inl N.1.2.2.2.1.2)) := rfl
theorem pSS_8 (cI : ClassId) (h : Nat) (a : Nat → Nat) (h2 : Nat) (a2 : Nat → Nat) (N : (Int32 × Vn) × (Int32 × Vn)) : (wSS cI h a h2 a2 N)[8]? = some (a 7, .inr (6, [.ref (a 8), .int 16, .int 4, .int N.1.2.2.2.2.1.1])) := rfl
theorem pSS_9 (cI : ClassId) (h : Nat) (a : Nat → Nat) (h2 : Nat) (a2 : Nat → Nat) (N : (Int32 × Vn) × (Int32 × Vn)) : (wSS cI h a h2 a2 N)[9]? = some (a 8, .inl (cI, 64, .inl N.1.2.2.2.2.1.2)) := rfl
theorem pSS_10 (cI : ClassId) (h : Nat) (a : Nat → Nat) (h2 : Nat) (a2 : Nat → Nat) (N : (Int32 × Vn) × (Int32 × Vn)) : (wSS cI h a h2 a2 N)[10]? = some (a 9, .inr (6, [.ref (a 10), .int 5, .int 1, .int N.1.2.2.2.2.2.1.1])) := rfl
theorem pSS_11 (cI : ClassId) (h : Nat) (a : Nat → Nat) (h2 : Nat) (a2 : Nat → Nat) (N : (Int32 × Vn) × (Int32 × Vn)) : (wSS cI h a h2 a2 N)[11]? = some (a 10, .inl (cI, 5, .inl N.1.2.2.2.2.2.1.2)) := rfl
theorem pSS_12 (cI : ClassId) (h : Nat) (a : Nat → Nat) (h2 : Nat) (a2 : Nat → Nat) (N : (Int32 × Vn) × (Int32 × Vn)) : (wSS cI h a h2 a2 N)[12]? = some (h2, .inr (4, [.ref (a2 0), .int N.2.1])) := rfl
theorem pSS_13 (cI : ClassId) (h : Nat) (a : Nat → Nat) (h2 : Nat) (a2 : Nat → Nat) (N : (Int32 × Vn) × (Int32 × Vn)) : (wSS cI h a h2 a2 N)[13]? = some (a2 0, .inr (7, [.ref (a2 1), .ref (a2 3), .ref (a2 5), .ref (a2 7), .ref (a2 9), .int N.2.2.2.2.2.2.2])) := rfl
theorem pSS_14 (cI : ClassId) (h : Nat) (a : Nat → Nat) (h2 : Nat) (a2 : Nat → Nat) (N : (Int32 × Vn) × (Int32 × Vn)) : (wSS cI h a h2 a2 N)[14]? = some (a2 1, .inr (6, [.ref (a2 2), .int 4, .int 11, .int N.2.2.1.1])) := rfl
theorem pSS_15 (cI : ClassId) (h : Nat) (a : Nat → Nat) (h2 : Nat) (a2 : Nat → Nat) (N : (Int32 × Vn) × (Int32 × Vn)) : (wSS cI h a h2 a2 N)[15]? = some (a2 2, .inl (cI, 44, .inl N.2.2.1.2)) := rfl
theorem pSS_16 (cI : ClassId) (h : Nat) (a : Nat → Nat) (h2 : Nat) (a2 : Nat → Nat) (N : (Int32 × Vn) × (Int32 × Vn)) : (wSS cI h a h2 a2 N)[16]? = some (a2 3, .inr (6, [.ref (a2 4), .int 16, .int 10, .int N.2.2.2.1.1])) := rfl
theorem pSS_17 (cI : ClassId) (h : Nat) (a : Nat → Nat) (h2 : Nat) (a2 : Nat → Nat) (N : (Int32 × Vn) × (Int32 × Vn)) : (wSS cI h a h2 a2 N)[17]? = some (a2 4, .inl (cI, 160, .inl N.2.2.2.1.2)) := rfl
theorem pSS_18 (cI : ClassId) (h : Nat) (a : Nat → Nat) (h2 : Nat) (a2 : Nat → Nat) (N : (Int32 × Vn) × (Int32 × Vn)) : (wSS cI h a h2 a2 N)[18]? = some (a2 5, .inr (6, [.ref (a2 6), .int 8, .int 2, .int N.2.2.2.2.1.1])) := rfl
theorem pSS_19 (cI : ClassId) (h : Nat) (a : Nat → Nat) (h2 : Nat) (a2 : Nat → Nat) (N : (Int32 × Vn) × (Int32 × Vn)) : (wSS cI h a h2 a2 N)[19]? = some (a2 6, .inl (cI, 16, .inl N.2.2.2.2.1.2)) := rfl
theorem pSS_20 (cI : ClassId) (h : Nat) (a : Nat → Nat) (h2 : Nat) (a2 : Nat → Nat) (N : (Int32 × Vn) × (Int32 × Vn)) : (wSS cI h a h2 a2 N)[20]? = some (a2 7, .inr (6, [.ref (a2 8), .int 16, .int 4, .int N.2.2.2.2.2.1.1])) := rfl
theorem pSS_21 (cI : ClassId) (h : Nat) (a : Nat → Nat) (h2 : Nat) (a2 : Nat → Nat) (N : (Int32 × Vn) × (Int32 × Vn)) : (wSS cI h a h2 a2 N)[21]? = some (a2 8, .inl (cI, 64, .inl N.2.2.2.2.2.1.2)) := rfl
theorem pSS_22 (cI : ClassId) (h : Nat) (a : Nat → Nat) (h2 : Nat) (a2 : Nat → Nat) (N : (Int32 × Vn) × (Int32 × Vn)) : (wSS cI h a h2 a2 N)[22]? = some (a2 9, .inr (6, [.ref (a2 10), .int 5, .int 1, .int N.2.2.2.2.2.2.1.1])) := rfl
theorem pSS_23 (cI : ClassId) (h : Nat) (a : Nat → Nat) (h2 : Nat) (a2 : Nat → Nat) (N : (Int32 × Vn) × (Int32 × Vn)) : (wSS cI h a h2 a2 N)[23]? = some (a2 10, .inl (cI, 5, .inl N.2.2.2.2.2.2.1.2)) := rfl
def wSt (cI : ClassId) (z : Nat → Nat) (S : Sn) : va_W := (z 0, .inr (5, [.ref (z 1), .ref (z 12), .ref (z 24)])) :: (wVn cI (fun k => z (1 + k)) S.1 ++ ((z 12, .inr (4, [.ref (z 13), .int S.2.1.1])) :: wVn cI (fun k => z (13 + k)) S.2.1.2) ++ ((z 24, .inr (4, [.ref (z 25), .int S.2.2.1])) :: wVn cI (fun k => z (25 + k)) S.2.2.2))
theorem pSt_0 (cI : ClassId) (z : Nat → Nat) (S : Sn) : (wSt cI z S)[0]? = some (z 0, .inr (5, [.ref (z 1), .ref (z 12), .ref (z 24)])) := rfl
theorem pSt_1 (cI : ClassId) (z : Nat → Nat) (S : Sn) : (wSt cI z S)[1]? = some (z 1, .inr (7, [.ref (z 2), .ref (z 4), .ref (z 6), .ref (z 8), .ref (z 10), .int S.1.2.2.2.2.2])) := rfl
theorem pSt_2 (cI : ClassId) (z : Nat → Nat) (S : Sn) : (wSt cI z S)[2]? = some (z 2, .inr (6, [.ref (z 3), .int 4, .int 11, .int S.1.1.1])) := rfl
theorem pSt_3 (cI : ClassId) (z : Nat → Nat) (S : Sn) : (wSt cI z S)[3]? = some (z 3, .inl (cI, 44, .inl S.1.1.2)) := rfl
theorem pSt_4 (cI : ClassId) (z : Nat → Nat) (S : Sn) : (wSt cI z S)[4]? = some (z 4, .inr (6, [.ref (z 5), .int 16, .int 10, .int S.1.2.1.1])) := rfl
theorem pSt_5 (cI : ClassId) (z : Nat → Nat) (S : Sn) : (wSt cI z S)[5]? = some (z 5, .inl (cI, 160, .inl S.1.2.1.2)) := rfl
theorem pSt_6 (cI : ClassId) (z : Nat → Nat) (S : Sn) : (wSt cI z S)[6]? = some (z 6, .inr (6, [.ref (z 7), .int 8, .int 2, .int S.1.2.2.1.1])) := rfl
theorem pSt_7 (cI : ClassId) (z : Nat → Nat) (S : Sn) : (wSt cI z S)[7]? = some (z 7, .inl (cI, 16, .inl S.1.2.2.1.2)) := rfl
theorem pSt_8 (cI : ClassId) (z : Nat → Nat) (S : Sn) : (wSt cI z S)[8]? = some (z 8, .inr (6, [.ref (z 9), .int 16, .int 4, .int S.1.2.2.2.1.1])) := rfl
theorem pSt_9 (cI : ClassId) (z : Nat → Nat) (S : Sn) : (wSt cI z S)[9]? = some (z 9, .inl (cI, 64, .inl S.1.2.2.2.1.2)) := rfl
theorem pSt_10 (cI : ClassId) (z : Nat → Nat) (S : Sn) : (wSt cI z S)[10]? = some (z 10, .inr (6, [.ref (z 11), .int 5, .int 1, .int S.1.2.2.2.2.1.1])) := rfl
theorem pSt_11 (cI : ClassId) (z : Nat → Nat) (S : Sn) : (wSt cI z S)[11]? = some (z 11, .inl (cI, 5, .inl S.1.2.2.2.2.1.2)) := rfl
theorem pSt_12 (cI : ClassId) (z : Nat → Nat) (S : Sn) : (wSt cI z S)[12]? = some (z 12, .inr (4, [.ref (z 13), .int S.2.1.1])) := rfl
theorem pSt_13 (cI : ClassId) (z : Nat → Nat) (S : Sn) : (wSt cI z S)[13]? = some (z 13, .inr (7, [.ref (z 14), .ref (z 16), .ref (z 18), .ref (z 20), .ref (z 22), .int S.2.1.2.2.2.2.2.2])) := rfl
theorem pSt_14 (cI : ClassId) (z : Nat → Nat) (S : Sn) : (wSt cI z S)[14]? = some (z 14, .inr (6, [.ref (z 15), .int 4, .int 11, .int S.2.1.2.1.1])) := rfl
theorem pSt_15 (cI : ClassId) (z : Nat → Nat) (S : Sn) : (wSt cI z S)[15]? = some (z 15, .inl (cI, 44, .inl S.2.1.2.1.2)) := rfl
theorem pSt_16 (cI : ClassId) (z : Nat → Nat) (S : Sn) : (wSt cI z S)[16]? = some (z 16, .inr (6, [.ref (z 17), .int 16, .int 10, .int S.2.1.2.2.1.1])) := rfl
theorem pSt_17 (cI : ClassId) (z : Nat → Nat) (S : Sn) : (wSt cI z S)[17]? = some (z 17, .inl (cI, 160, .inl S.2.1.2.2.1.2)) := rfl
theorem pSt_18 (cI : ClassId) (z : Nat → Nat) (S : Sn) : (wSt cI z S)[18]? = some (z 18, .inr (6, [.ref (z 19), .int 8, .int 2, .int S.2.1.2.2.2.1.1])) := rfl
theorem pSt_19 (cI : ClassId) (z : Nat → Nat) (S : Sn) : (wSt cI z S)[19]? = some (z 19, .inl (cI, 16, .inl S.2.1.2.2.2.1.2)) := rfl
theorem pSt_20 (cI : ClassId) (z : Nat → Nat) (S : Sn) : (wSt cI z S)[20]? = some (z 20, .inr (6, [.ref (z 21), .int 16, .int 4, .int S.2.1.2.2.2.2.1.1])) := rfl
theorem pSt_21 (cI : ClassId) (z : Nat → Nat) (S : Sn) : (wSt cI z S)[21]? = some (z 21, .inl (cI, 64, .inl S.2.1.2.2.2.2.1.2)) := rfl
theorem pSt_22 (cI : ClassId) (z : Nat → Nat) (S : Sn) : (wSt cI z S)[22]? = some (z 22, .inr (6, [.ref (z 23), .int 5, .int 1, .int S.2.1.2.2.2.2.2.1.1])) := rfl
theorem pSt_23 (cI : ClassId) (z : Nat → Nat) (S : Sn) : (wSt cI z S)[23]? = some (z 23, .inl (cI, 5, .inl S.2.1.2.2.2.2.2.1.2)) := rfl
theorem pSt_24 (cI : ClassId) (z : Nat → Nat) (S : Sn) : (wSt cI z S)[24]? = some (z 24, .inr (4, [.ref (z 25), .int S.2.2.1])) := rfl
theorem pSt_25 (cI : ClassId) (z : Nat → Nat) (S : Sn) : (wSt cI z S)[25]? = some (z 25, .inr (7, [.ref (z 26), .ref (z 28), .ref (z 30), .ref (z 32), .ref (z 34), .int S.2.2.2.2.2.2.2.2])) := rfl
theorem pSt_26 (cI : ClassId) (z : Nat → Nat) (S : Sn) : (wSt cI z S)[26]? = some (z 26, .inr (6, [.ref (z 27), .int 4, .int 11, .int S.2.2.2.1.1])) := rfl
theorem pSt_27 (cI : ClassId) (z : Nat → Nat) (S : Sn) : (wSt cI z S)[27]? = some (z 27, .inl (cI, 44, .inl S.2.2.2.1.2)) := rfl
theorem pSt_28 (cI : ClassId) (z : Nat → Nat) (S : Sn) : (wSt cI z S)[28]? = some (z 28, .inr (6, [.ref (z 29), .int 16, .int 10, .int S.2.2.2.2.1.1])) := rfl
theorem pSt_29 (cI : ClassId) (z : Nat → Nat) (S : Sn) : (wSt cI z S)[29]? = some (z 29, .inl (cI, 160, .inl S.2.2.2.2.1.2)) := rfl
theorem pSt_30 (cI : ClassId) (z : Nat → Nat) (S : Sn) : (wSt cI z S)[30]? = some (z 30, .inr (6, [.ref (z 31), .int 8, .int 2, .int S.2.2.2.2.2.1.1])) := rfl
theorem pSt_31 (cI : ClassId) (z : Nat → Nat) (S : Sn) : (wSt cI z S)[31]? = some (z 31, .inl (cI, 16, .inl S.2.2.2.2.2.1.2)) := rfl
theorem pSt_32 (cI : ClassId) (z : Nat → Nat) (S : Sn) : (wSt cI z S)[32]? = some (z 32, .inr (6, [.ref (z 33), .int 16, .int 4, .int S.2.2.2.2.2.2.1.1])) := rfl
theorem pSt_33 (cI : ClassId) (z : Nat → Nat) (S : Sn) : (wSt cI z S)[33]? = some (z 33, .inl (cI, 64, .inl S.2.2.2.2.2.2.1.2)) := rfl
theorem pSt_34 (cI : ClassId) (z : Nat → Nat) (S : Sn) : (wSt cI z S)[34]? = some (z 34, .inr (6, [.ref (z 35), .int 5, .int 1, .int S.2.2.2.2.2.2.2.1.1])) := rfl
theorem pSt_35 (cI : ClassId) (z : Nat → Nat) (S : Sn) : (wSt cI z S)[35]? = some (z 35, .inl (cI, 5, .inl S.2.2.2.2.2.2.2.1.2)) := rfl
def wQQ (cI : ClassId) (z z2 : Nat → Nat) (N : Sn × Sn) : va_W := wSt cI z N.1 ++ wSt cI z2 N.2
theorem pQQ_0 (cI : ClassId) (z z2 : Nat → Nat) (N : Sn × Sn) : (wQQ cI z z2 N)[0]? = some (z 0, .inr (5, [.ref (z 1), .ref (z 12), .ref (z 24)])) := rfl
theorem pQQ_1 (cI : ClassId) (z z2 : Nat → Nat) (N : Sn × Sn) : (wQQ cI z z2 N)[1]? = some (z 1, .inr (7, [.ref (z 2), .ref (z 4), .ref (z 6), .ref (z 8), .ref (z 10), .int N.1.1.2.2.2.2.2])) := rfl
theorem pQQ_2 (cI : ClassId) (z z2 : Nat → Nat) (N : Sn × Sn) : (wQQ cI z z2 N)[2]? = some (z 2, .inr (6, [.ref (z 3), .int 4, .int 11, .int N.1.1.1.1])) := rfl
theorem pQQ_3 (cI : ClassId) (z z2 : Nat → Nat) (N : Sn × Sn) : (wQQ cI z z2 N)[3]? = some (z 3, .inl (cI, 44, .inl N.1.1.1.2)) := rfl
theorem pQQ_4 (cI : ClassId) (z z2 : Nat → Nat) (N : Sn × Sn) : (wQQ cI z z2 N)[4]? = some (z 4, .inr (6, [.ref (z 5), .int 16, .int 10, .int N.1.1.2.1.1])) := rfl
theorem pQQ_5 (cI : ClassId) (z z2 : Nat → Nat) (N : Sn × Sn) : (wQQ cI z z2 N)[5]? = some (z 5, .inl (cI, 160, .inl N.1.1.2.1.2)) := rfl
theorem pQQ_6 (cI : ClassId) (z z2 : Nat → Nat) (N : Sn × Sn) : (wQQ cI z z2 N)[6]? = some (z 6, .inr (6, [.ref (z 7), .int 8, .int 2, .int N.1.1.2.2.1.1])) := rfl
theorem pQQ_7 (cI : ClassId) (z z2 : Nat → Nat) (N : Sn × Sn) : (wQQ cI z z2 N)[7]? = some (z 7, .inl (cI, 16, .inl N.1.1.2.2.1.2)) := rfl
theorem pQQ_8 (cI : ClassId) (z z2 : Nat → Nat) (N : Sn × Sn) : (wQQ cI z z2 N)[8]? = some (z 8, .inr (6, [.ref (z 9), .int 16, .int 4, .int N.1.1.2.2.2.1.1])) := rfl
theorem pQQ_9 (cI : ClassId) (z z2 : Nat → Nat) (N : Sn × Sn) : (wQQ cI z z2 N)[9]? = some (z 9, .inl (cI, 64, .inl N.1.1.2.2.2.1.2)) := rfl
theorem pQQ_10 (cI : ClassId) (z z2 : Nat → Nat) (N : Sn × Sn) : (wQQ cI z z2 N)[10]? = some (z 10, .inr (6, [.ref (z 11), .int 5, .int 1, .int N.1.1.2.2.2.2.1.1])) := rfl
theorem pQQ_11 (cI : ClassId) (z z2 : Nat → Nat) (N : Sn × Sn) : (wQQ cI z z2 N)[11]? = some (z 11, .inl (cI, 5, .inl N.1.1.2.2.2.2.1.2)) := rfl
theorem pQQ_12 (cI : ClassId) (z z2 : Nat → Nat) (N : Sn × Sn) : (wQQ cI z z2 N)[12]? = some (z 12, .inr (4, [.ref (z 13), .int N.1.2.1.1])) := rfl
theorem pQQ_13 (cI : ClassId) (z z2 : Nat → Nat) (N : Sn × Sn) : (wQQ cI z z2 N)[13]? = some (z 13, .inr (7, [.ref (z 14), .ref (z 16), .ref (z 18), .ref (z 20), .ref (z 22), .int N.1.2.1.2.2.2.2.2.2])) := rfl
theorem pQQ_14 (cI : ClassId) (z z2 : Nat → Nat) (N : Sn × Sn) : (wQQ cI z z2 N)[14]? = some (z 14, .inr (6, [.ref (z 15), .int 4, .int 11, .int N.1.2.1.2.1.1])) := rfl
theorem pQQ_15 (cI : ClassId) (z z2 : Nat → Nat) (N : Sn × Sn) : (wQQ cI z z2 N)[15]? = some (z 15, .inl (cI, 44, .inl N.1.2.1.2.1.2)) := rfl
theorem pQQ_16 (cI : ClassId) (z z2 : Nat → Nat) (N : Sn × Sn) : (wQQ cI z z2 N)[16]? = some (z 16, .inr (6, [.ref (z 17), .int 16, .int 10, .int N.1.2.1.2.2.1.1])) := rfl
theorem pQQ_17 (cI : ClassId) (z z2 : Nat → Nat) (N : Sn × Sn) : (wQQ cI z z2 N)[17]? = some (z 17, .inl (cI, 160, .inl N.1.2.1.2.2.1.2)) := rfl
theorem pQQ_18 (cI : ClassId) (z z2 : Nat → Nat) (N : Sn × Sn) : (wQQ cI z z2 N)[18]? = some (z 18, .inr (6, [.ref (z 19), .int 8, .int 2, .int N.1.2.1.2.2.2.1.1])) := rfl
theorem pQQ_19 (cI : ClassId) (z z2 : Nat → Nat) (N : Sn × Sn) : (wQQ cI z z2 N)[19]? = some (z 19, .inl (cI, 16, .inl N.1.2.1.2.2.2.1.2)) := rfl
theorem pQQ_20 (cI : ClassId) (z z2 : Nat → Nat) (N : Sn × Sn) : (wQQ cI z z2 N)[20]? = some (z 20, .inr (6, [.ref (z 21), .int 16, .int 4, .int N.1.2.1.2.2.2.2.1.1])) := rfl
theorem pQQ_21 (cI : ClassId) (z z2 : Nat → Nat) (N : Sn × Sn) : (wQQ cI z z2 N)[21]? = some (z 21, .inl (cI, 64, .inl N.1.2.1.2.2.2.2.1.2)) := rfl
theorem pQQ_22 (cI : ClassId) (z z2 : Nat → Nat) (N : Sn × Sn) : (wQQ cI z z2 N)[22]? = some (z 22, .inr (6, [.ref (z 23), .int 5, .int 1, .int N.1.2.1.2.2.2.2.2.1.1])) := rfl
theorem pQQ_23 (cI : ClassId) (z z2 : Nat → Nat) (N : Sn × Sn) : (wQQ cI z z2 N)[23]? = some (z 23, .inl (cI, 5, .inl N.1.2.1.2.2.2.2.2.1.2)) := rfl
theorem pQQ_24 (cI : ClassId) (z z2 : Nat → Nat) (N : Sn × Sn) : (wQQ cI z z2 N)[24]? = some (z 24, .inr (4, [.ref (z 25), .int N.1.2.2.1])) := rfl
theorem pQQ_25 (cI : ClassId) (z z2 : Nat → Nat) (N : Sn × Sn) : (wQQ cI z z2 N)[25]? = some (z 25, .inr (7, [.ref (z 26), .ref (z 28), .ref (z 30), .ref (z 32), .ref (z 34), .int N.1.2.2.2.2.2.2.2.2])) := rfl
theorem pQQ_26 (cI : ClassId) (z z2 : Nat → Nat) (N : Sn × Sn) : (wQQ cI z z2 N)[26]? = some (z 26, .inr (6, [.ref (z 27), .int 4, .int 11, .int N.1.2.2.2.1.1])) := rfl
theorem pQQ_27 (cI : ClassId) (z z2 : Nat → Nat) (N : Sn × Sn) : (wQQ cI z z2 N)[27]? = some (z 27, .inl (cI, 44, .inl N.1.2.2.2.1.2)) := rfl
theorem pQQ_28 (cI : ClassId) (z z2 : Nat → Nat) (N : Sn × Sn) : (wQQ cI z z2 N)[28]? = some (z 28, .inr (6, [.ref (z 29), .int 16, .int 10, .int N.1.2.2.2.2.1.1])) := rfl
theorem pQQ_29 (cI : ClassId) (z z2 : Nat → Nat) (N : Sn × Sn) : (wQQ cI z z2 N)[29]? = some (z 29, .inl (cI, 160, .inl N.1.2.2.2.2.1.2)) := rfl
theorem pQQ_30 (cI : ClassId) (z z2 : Nat → Nat) (N : Sn × Sn) : (wQQ cI z z2 N)[30]? = some (z 30, .inr (6, [.ref (z 31), .int 8, .int 2, .int N.1.2.2.2.2.2.1.1])) := rfl
theorem pQQ_31 (cI : ClassId) (z z2 : Nat → Nat) (N : Sn × Sn) : (wQQ cI z z2 N)[31]? = some (z 31, .inl (cI, 16, .inl N.1.2.2.2.2.2.1.2)) := rfl
theorem pQQ_32 (cI : ClassId) (z z2 : Nat → Nat) (N : Sn × Sn) : (wQQ cI z z2 N)[32]? = some (z 32, .inr (6, [.ref (z 33), .int 16, .int 4, .int N.1.2.2.2.2.2.2.1.1])) := rfl
theorem pQQ_33 (cI : ClassId) (z z2 : Nat → Nat) (N : Sn × Sn) : (wQQ cI z z2 N)[33]? = some (z 33, .inl (cI, 64, .inl N.1.2.2.2.2.2.2.1.2)) := rfl
theorem pQQ_34 (cI : ClassId) (z z2 : Nat → Nat) (N : Sn × Sn) : (wQQ cI z z2 N)[34]? = some (z 34, .inr (6, [.ref (z 35), .int 5, .int 1, .int N.1.2.2.2.2.2.2.2.1.1])) := rfl
theorem pQQ_35 (cI : ClassId) (z z2 : Nat → Nat) (N : Sn × Sn) : (wQQ cI z z2 N)[35]? = some (z 35, .inl (cI, 5, .inl N.1.2.2.2.2.2.2.2.1.2)) := rfl
theorem pQQ_36 (cI : ClassId) (z z2 : Nat → Nat) (N : Sn × Sn) : (wQQ cI z z2 N)[36]? = some (z2 0, .inr (5, [.ref (z2 1), .ref (z2 12), .ref (z2 24)])) := rfl
theorem pQQ_37 (cI : ClassId) (z z2 : Nat → Nat) (N : Sn × Sn) : (wQQ cI z z2 N)[37]? = some (z2 1, .inr (7, [.ref (z2 2), .ref (z2 4), .ref (z2 6), .ref (z2 8), .ref (z2 10), .int N.2.1.2.2.2.2.2])) := rfl
theorem pQQ_38 (cI : ClassId) (z z2 : Nat → Nat) (N : Sn × Sn) : (wQQ cI z z2 N)[38]? = some (z2 2, .inr (6, [.ref (z2 3), .int 4, .int 11, .int N.2.1.1.1])) := rfl
theorem pQQ_39 (cI : ClassId) (z z2 : Nat → Nat) (N : Sn × Sn) : (wQQ cI z z2 N)[39]? = some (z2 3, .inl (cI, 44, .inl N.2.1.1.2)) := rfl
theorem pQQ_40 (cI : ClassId) (z z2 : Nat → Nat) (N : Sn × Sn) : (wQQ cI z z2 N)[40]? = some (z2 4, .inr (6, [.ref (z2 5), .int 16, .int 10, .int N.2.1.2.1.1])) := rfl
theorem pQQ_41 (cI : ClassId) (z z2 : Nat → Nat) (N : Sn × Sn) : (wQQ cI z z2 N)[41]? = some (z2 5, .inl (cI, 160, .inl N.2.1.2.1.2)) := rfl
theorem pQQ_42 (cI : ClassId) (z z2 : Nat → Nat) (N : Sn × Sn) : (wQQ cI z z2 N)[42]? = some (z2 6, .inr (6, [.ref (z2 7), .int 8, .int 2, .int N.2.1.2.2.1.1])) := rfl
theorem pQQ_43 (cI : ClassId) (z z2 : Nat → Nat) (N : Sn × Sn) : (wQQ cI z z2 N)[43]? = some (z2 7, .inl (cI, 16, .inl N.2.1.2.2.1.2)) := rfl
theorem pQQ_44 (cI : ClassId) (z z2 : Nat → Nat) (N : Sn × Sn) : (wQQ cI z z2 N)[44]? = some (z2 8, .inr (6, [.ref (z2 9), .int 16, .int 4, .int N.2.1.2.2.2.1.1])) := rfl
theorem pQQ_45 (cI : ClassId) (z z2 : Nat → Nat) (N : Sn × Sn) : (wQQ cI z z2 N)[45]? = some (z2 9, .inl (cI, 64, .inl N.2.1.2.2.2.1.2)) := rfl
theorem pQQ_46 (cI : ClassId) (z z2 : Nat → Nat) (N : Sn × Sn) : (wQQ cI z z2 N)[46]? = some (z2 10, .inr (6, [.ref (z2 11), .int 5, .int 1, .int N.2.1.2.2.2.2.1.1])) := rfl
theorem pQQ_47 (cI : ClassId) (z z2 : Nat → Nat) (N : Sn × Sn) : (wQQ cI z z2 N)[47]? = some (z2 11, .inl (cI, 5, .inl N.2.1.2.2.2.2.1.2)) := rfl
theorem pQQ_48 (cI : ClassId) (z z2 : Nat → Nat) (N : Sn × Sn) : (wQQ cI z z2 N)[48]? = some (z2 12, .inr (4, [.ref (z2 13), .int N.2.2.1.1])) := rfl
theorem pQQ_49 (cI : ClassId) (z z2 : Nat → Nat) (N : Sn × Sn) : (wQQ cI z z2 N)[49]? = some (z2 13, .inr (7, [.ref (z2 14), .ref (z2 16), .ref (z2 18), .ref (z2 20), .ref (z2 22), .int N.2.2.1.2.2.2.2.2.2])) := rfl
theorem pQQ_50 (cI : ClassId) (z z2 : Nat → Nat) (N : Sn × Sn) : (wQQ cI z z2 N)[50]? = some (z2 14, .inr (6, [.ref (z2 15), .int 4, .int 11, .int N.2.2.1.2.1.1])) := rfl
theorem pQQ_51 (cI : ClassId) (z z2 : Nat → Nat) (N : Sn × Sn) : (wQQ cI z z2 N)[51]? = some (z2 15, .inl (cI, 44, .inl N.2.2.1.2.1.2)) := rfl
theorem pQQ_52 (cI : ClassId) (z z2 : Nat → Nat) (N : Sn × Sn) : (wQQ cI z z2 N)[52]? = some (z2 16, .inr (6, [.ref (z2 17), .int 16, .int 10, .int N.2.2.1.2.2.1.1])) := rfl
theorem pQQ_53 (cI : ClassId) (z z2 : Nat → Nat) (N : Sn × Sn) : (wQQ cI z z2 N)[53]? = some (z2 17, .inl (cI, 160, .inl N.2.2.1.2.2.1.2)) := rfl
theorem pQQ_54 (cI : ClassId) (z z2 : Nat → Nat) (N : Sn × Sn) : (wQQ cI z z2 N)[54]? = some (z2 18, .inr (6, [.ref (z2 19), .int 8, .int 2, .int N.2.2.1.2.2.2.1.1])) := rfl
theorem pQQ_55 (cI : ClassId) (z z2 : Nat → Nat) (N : Sn × Sn) : (wQQ cI z z2 N)[55]? = some (z2 19, .inl (cI, 16, .inl N.2.2.1.2.2.2.1.2)) := rfl
theorem pQQ_56 (cI : ClassId) (z z2 : Nat → Nat) (N : Sn × Sn) : (wQQ cI z z2 N)[56]? = some (z2 20, .inr (6, [.ref (z2 21), .int 16, .int 4, .int N.2.2.1.2.2.2.2.1.1])) := rfl
theorem pQQ_57 (cI : ClassId) (z z2 : Nat → Nat) (N : Sn × Sn) : (wQQ cI z z2 N)[57]? = some (z2 21, .inl (cI, 64, .inl N.2.2.1.2.2.2.2.1.2)) := rfl
theorem pQQ_58 (cI : ClassId) (z z2 : Nat → Nat) (N : Sn × Sn) : (wQQ cI z z2 N)[58]? = some (z2 22, .inr (6, [.ref (z2 23), .int 5, .int 1, .int N.2.2.1.2.2.2.2.2.1.1])) := rfl
theorem pQQ_59 (cI : ClassId) (z z2 : Nat → Nat) (N : Sn × Sn) : (wQQ cI z z2 N)[59]? = some (z2 23, .inl (cI, 5, .inl N.2.2.1.2.2.2.2.2.1.2)) := rfl
theorem pQQ_60 (cI : ClassId) (z z2 : Nat → Nat) (N : Sn × Sn) : (wQQ cI z z2 N)[60]? = some (z2 24, .inr (4, [.ref (z2 25), .int N.2.2.2.1])) := rfl
theorem pQQ_61 (cI : ClassId) (z z2 : Nat → Nat) (N : Sn × Sn) : (wQQ cI z z2 N)[61]? = some (z2 25, .inr (7, [.ref (z2 26), .ref (z2 28), .ref (z2 30), .ref (z2 32), .ref (z2 34), .int N.2.2.2.2.2.2.2.2.2])) := rfl
theorem pQQ_62 (cI : ClassId) (z z2 : Nat → Nat) (N : Sn × Sn) : (wQQ cI z z2 N)[62]? = some (z2 26, .inr (6, [.ref (z2 27), .int 4, .int 11, .int N.2.2.2.2.1.1])) := rfl
theorem pQQ_63 (cI : ClassId) (z z2 : Nat → Nat) (N : Sn × Sn) : (wQQ cI z z2 N)[63]? = some (z2 27, .inl (cI, 44, .inl N.2.2.2.2.1.2)) := rfl
theorem pQQ_64 (cI : ClassId) (z z2 : Nat → Nat) (N : Sn × Sn) : (wQQ cI z z2 N)[64]? = some (z2 28, .inr (6, [.ref (z2 29), .int 16, .int 10, .int N.2.2.2.2.2.1.1])) := rfl
theorem pQQ_65 (cI : ClassId) (z z2 : Nat → Nat) (N : Sn × Sn) : (wQQ cI z z2 N)[65]? = some (z2 29, .inl (cI, 160, .inl N.2.2.2.2.2.1.2)) := rfl
theorem pQQ_66 (cI : ClassId) (z z2 : Nat → Nat) (N : Sn × Sn) : (wQQ cI z z2 N)[66]? = some (z2 30, .inr (6, [.ref (z2 31), .int 8, .int 2, .int N.2.2.2.2.2.2.1.1])) := rfl
theorem pQQ_67 (cI : ClassId) (z z2 : Nat → Nat) (N : Sn × Sn) : (wQQ cI z z2 N)[67]? = some (z2 31, .inl (cI, 16, .inl N.2.2.2.2.2.2.1.2)) := rfl
theorem pQQ_68 (cI : ClassId) (z z2 : Nat → Nat) (N : Sn × Sn) : (wQQ cI z z2 N)[68]? = some (z2 32, .inr (6, [.ref (z2 33), .int 16, .int 4, .int N.2.2.2.2.2.2.2.1.1])) := rfl
theorem pQQ_69 (cI : ClassId) (z z2 : Nat → Nat) (N : Sn × Sn) : (wQQ cI z z2 N)[69]? = some (z2 33, .inl (cI, 64, .inl N.2.2.2.2.2.2.2.1.2)) := rfl
theorem pQQ_70 (cI : ClassId) (z z2 : Nat → Nat) (N : Sn × Sn) : (wQQ cI z z2 N)[70]? = some (z2 34, .inr (6, [.ref (z2 35), .int 5, .int 1, .int N.2.2.2.2.2.2.2.2.1.1])) := rfl
theorem pQQ_71 (cI : ClassId) (z z2 : Nat → Nat) (N : Sn × Sn) : (wQQ cI z z2 N)[71]? = some (z2 35, .inl (cI, 5, .inl N.2.2.2.2.2.2.2.2.1.2)) := rfl
theorem sg_Tb_Tb (cI : ClassId) (th tc tn : Nat) (cap tw : Int32) (T : Tb) (N' : Tb) : Sg (wTb cI th tc tn cap tw T) (wTb cI th tc tn cap tw T) (wTb cI th tc tn cap tw N') (wTb cI th tc tn cap tw (N')) := sg_all
theorem sr_Tb_Tb (cI : ClassId) (th tc tn : Nat) (cap tw : Int32) (T : Tb) : Sg (wTb cI th tc tn cap tw T) (wTb cI th tc tn cap tw T) (wTb cI th tc tn cap tw T) (wTb cI th tc tn cap tw T) := sg_all
theorem sg_Vn_rooms (cI : ClassId) (a : Nat → Nat) (V : Vn) (N' : Tb) : Sg (wVn cI a V) (wTb cI (a 1) (a 2) 44 4 11 (V.1)) (wTb cI (a 1) (a 2) 44 4 11 N') (wVn cI a ((N', V.2))) := ⟨[[(a 0, .inr (7, [.ref (a 1), .ref (a 3), .ref (a 5), .ref (a 7), .ref (a 9), .int V.2.2.2.2.2]))], (wTb cI (a 1) (a 2) 44 4 11 V.1), (wTb cI (a 3) (a 4) 160 16 10 V.2.1), (wTb cI (a 5) (a 6) 16 8 2 V.2.2.1), (wTb cI (a 7) (a 8) 64 16 4 V.2.2.2.1), (wTb cI (a 9) (a 10) 5 5 1 V.2.2.2.2.1)], [(wTb cI (a 1) (a 2) 44 4 11 (V.1))], [(wTb cI (a 1) (a 2) 44 4 11 (N'))], [[(a 0, .inr (7, [.ref (a 1), .ref (a 3), .ref (a 5), .ref (a 7), .ref (a 9), .int ((N', V.2)).2.2.2.2.2]))], (wTb cI (a 1) (a 2) 44 4 11 ((N', V.2)).1), (wTb cI (a 3) (a 4) 160 16 10 ((N', V.2)).2.1), (wTb cI (a 5) (a 6) 16 8 2 ((N', V.2)).2.2.1), (wTb cI (a 7) (a 8) 64 16 4 ((N', V.2)).2.2.2.1), (wTb cI (a 9) (a 10) 5 5 1 ((N', V.2)).2.2.2.2.1)], [1], [0, 2, 3, 4, 5], by simp only [wVn, List.flatten_cons, List.flatten_nil, List.append_assoc, List.append_nil, List.nil_append, List.cons_append], by simp only [List.flatten_cons, List.flatten_nil, List.append_assoc, List.append_nil, List.nil_append, List.cons_append], by simp only [List.flatten_cons, List.flatten_nil, List.append_assoc, List.append_nil, List.nil_append, List.cons_append], by simp only [wVn, List.flatten_cons, List.flatten_nil, List.append_assoc, List.append_nil, List.nil_append, List.cons_append], rfl, rfl, rfl, rfl, rfl⟩
theorem sr_Vn_rooms (cI : ClassId) (a : Nat → Nat) (V : Vn) : Sg (wVn cI a V) (wTb cI (a 1) (a 2) 44 4 11 (V.1)) (wTb cI (a 1) (a 2) 44 4 11 (V.1)) (wVn cI a V) := ⟨[[(a 0, .inr (7, [.ref (a 1), .ref (a 3), .ref (a 5), .ref (a 7), .ref (a 9), .int V.2.2.2.2.2]))], (wTb cI (a 1) (a 2) 44 4 11 V.1), (wTb cI (a 3) (a 4) 160 16 10 V.2.1), (wTb cI (a 5) (a 6) 16 8 2 V.2.2.1), (wTb cI (a 7) (a 8) 64 16 4 V.2.2.2.1), (wTb cI (a 9) (a 10) 5 5 1 V.2.2.2.2.1)], [(wTb cI (a 1) (a 2) 44 4 11 (V.1))], [(wTb cI (a 1) (a 2) 44 4 11 (V.1))], [[(a 0, .inr (7, [.ref (a 1), .ref (a 3), .ref (a 5), .ref (a 7), .ref (a 9), .int V.2.2.2.2.2]))], (wTb cI (a 1) (a 2) 44 4 11 V.1), (wTb cI (a 3) (a 4) 160 16 10 V.2.1), (wTb cI (a 5) (a 6) 16 8 2 V.2.2.1), (wTb cI (a 7) (a 8) 64 16 4 V.2.2.2.1), (wTb cI (a 9) (a 10) 5 5 1 V.2.2.2.2.1)], [1], [0, 2, 3, 4, 5], by simp only [wVn, List.flatten_cons, List.flatten_nil, List.append_assoc, List.append_nil, List.nil_append, List.cons_append], by simp only [List.flatten_cons, List.flatten_nil, List.append_assoc, List.append_nil, List.nil_append, List.cons_append], by simp only [List.flatten_cons, List.flatten_nil, List.append_assoc, List.append_nil, List.nil_append, List.cons_append], by simp only [wVn, List.flatten_cons, List.flatten_nil, List.append_assoc, List.append_nil, List.nil_append, List.cons_append], rfl, rfl, rfl, rfl, rfl⟩
theorem sg_Vn_bookings (cI : ClassId) (a : Nat → Nat) (V : Vn) (N' : Tb) : Sg (wVn cI a V) (wTb cI (a 3) (a 4) 160 16 10 (V.2.1)) (wTb cI (a 3) (a 4) 160 16 10 N') (wVn cI a ((V.1, N', V.2.2))) := ⟨[[(a 0, .inr (7, [.ref (a 1), .ref (a 3), .ref (a 5), .ref (a 7), .ref (a 9), .int V.2.2.2.2.2]))], (wTb cI (a 1) (a 2) 44 4 11 V.1), (wTb cI (a 3) (a 4) 160 16 10 V.2.1), (wTb cI (a 5) (a 6) 16 8 2 V.2.2.1), (wTb cI (a 7) (a 8) 64 16 4 V.2.2.2.1), (wTb cI (a 9) (a 10) 5 5 1 V.2.2.2.2.1)], [(wTb cI (a 3) (a 4) 160 16 10 (V.2.1))], [(wTb cI (a 3) (a 4) 160 16 10 (N'))], [[(a 0, .inr (7, [.ref (a 1), .ref (a 3), .ref (a 5), .ref (a 7), .ref (a 9), .int ((V.1, N', V.2.2)).2.2.2.2.2]))], (wTb cI (a 1) (a 2) 44 4 11 ((V.1, N', V.2.2)).1), (wTb cI (a 3) (a 4) 160 16 10 ((V.1, N', V.2.2)).2.1), (wTb cI (a 5) (a 6) 16 8 2 ((V.1, N', V.2.2)).2.2.1), (wTb cI (a 7) (a 8) 64 16 4 ((V.1, N', V.2.2)).2.2.2.1), (wTb cI (a 9) (a 10) 5 5 1 ((V.1, N', V.2.2)).2.2.2.2.1)], [2], [0, 1, 3, 4, 5], by simp only [wVn, List.flatten_cons, List.flatten_nil, List.append_assoc, List.append_nil, List.nil_append, List.cons_append], by simp only [List.flatten_cons, List.flatten_nil, List.append_assoc, List.append_nil, List.nil_append, List.cons_append], by simp only [List.flatten_cons, List.flatten_nil, List.append_assoc, List.append_nil, List.nil_append, List.cons_append], by simp only [wVn, List.flatten_cons, List.flatten_nil, List.append_assoc, List.append_nil, List.nil_append, List.cons_append], rfl, rfl, rfl, rfl, rfl⟩
theorem sr_Vn_bookings (cI : ClassId) (a : Nat → Nat) (V : Vn) : Sg (wVn cI a V) (wTb cI (a 3) (a 4) 160 16 10 (V.2.1)) (wTb cI (a 3) (a 4) 160 16 10 (V.2.1)) (wVn cI a V) := ⟨[[(a 0, .inr (7, [.ref (a 1), .ref (a 3), .ref (a 5), .ref (a 7), .ref (a 9), .int V.2.2.2.2.2]))], (wTb cI (a 1) (a 2) 44 4 11 V.1), (wTb cI (a 3) (a 4) 160 16 10 V.2.1), (wTb cI (a 5) (a 6) 16 8 2 V.2.2.1), (wTb cI (a 7) (a 8) 64 16 4 V.2.2.2.1), (wTb cI (a 9) (a 10) 5 5 1 V.2.2.2.2.1)], [(wTb cI (a 3) (a 4) 160 16 10 (V.2.1))], [(wTb cI (a 3) (a 4) 160 16 10 (V.2.1))], [[(a 0, .inr (7, [.ref (a 1), .ref (a 3), .ref (a 5), .ref (a 7), .ref (a 9), .int V.2.2.2.2.2]))], (wTb cI (a 1) (a 2) 44 4 11 V.1), (wTb cI (a 3) (a 4) 160 16 10 V.2.1), (wTb cI (a 5) (a 6) 16 8 2 V.2.2.1), (wTb cI (a 7) (a 8) 64 16 4 V.2.2.2.1), (wTb cI (a 9) (a 10) 5 5 1 V.2.2.2.2.1)], [2], [0, 1, 3, 4, 5], by simp only [wVn, List.flatten_cons, List.flatten_nil, List.append_assoc, List.append_nil, List.nil_append, List.cons_append], by simp only [List.flatten_cons, List.flatten_nil, List.append_assoc, List.append_nil, List.nil_append, List.cons_append], by simp only [List.flatten_cons, List.flatten_nil, List.append_assoc, List.append_nil, List.nil_append, List.cons_append], by simp only [wVn, List.flatten_cons, List.flatten_nil, List.append_assoc, List.append_nil, List.nil_append, List.cons_append], rfl, rfl, rfl, rfl, rfl⟩
theorem sg_Vn_vouchers (cI : ClassId) (a : Nat → Nat) (V : Vn) (N' : Tb) : Sg (wVn cI a V) (wTb cI (a 5) (a 6) 16 8 2 (V.2.2.1)) (wTb cI (a 5) (a 6) 16 8 2 N') (wVn cI a ((V.1, V.2.1, N', V.2.2.2))) := ⟨[[(a 0, .inr (7, [.ref (a 1), .ref (a 3), .ref (a 5), .ref (a 7), .ref (a 9), .int V.2.2.2.2.2]))], (wTb cI (a 1) (a 2) 44 4 11 V.1), (wTb cI (a 3) (a 4) 160 16 10 V.2.1), (wTb cI (a 5) (a 6) 16 8 2 V.2.2.1), (wTb cI (a 7) (a 8) 64 16 4 V.2.2.2.1), (wTb cI (a 9) (a 10) 5 5 1 V.2.2.2.2.1)], [(wTb cI (a 5) (a 6) 16 8 2 (V.2.2.1))], [(wTb cI (a 5) (a 6) 16 8 2 (N'))], [[(a 0, .inr (7, [.ref (a 1), .ref (a 3), .ref (a 5), .ref (a 7), .ref (a 9), .int ((V.1, V.2.1, N', V.2.2.2)).2.2.2.2.2]))], (wTb cI (a 1) (a 2) 44 4 11 ((V.1, V.2.1, N', V.2.2.2)).1), (wTb cI (a 3) (a 4) 160 16 10 ((V.1, V.2.1, N', V.2.2.2)).2.1), (wTb cI (a 5) (a 6) 16 8 2 ((V.1, V.2.1, N', V.2.2.2)).2.2.1), (wTb cI (a 7) (a 8) 64 16 4 ((V.1, V.2.1, N', V.2.2.2)).2.2.2.1), (wTb cI (a 9) (a 10) 5 5 1 ((V.1, V.2.1, N', V.2.2.2)).2.2.2.2.1)], [3], [0, 1, 2, 4, 5], by simp only [wVn, List.flatten_cons, List.flatten_nil, List.append_assoc, List.append_nil, List.nil_append, List.cons_append], by simp only [List.flatten_cons, List.flatten_nil, List.append_assoc, List.append_nil, List.nil_append, List.cons_append], by simp only [List.flatten_cons, List.flatten_nil, List.append_assoc, List.append_nil, List.nil_append, List.cons_append], by simp only [wVn, List.flatten_cons, List.flatten_nil, List.append_assoc, List.append_nil, List.nil_append, List.cons_append], rfl, rfl, rfl, rfl, rfl⟩
theorem sr_Vn_vouchers (cI : ClassId) (a : Nat → Nat) (V : Vn) : Sg (wVn cI a V) (wTb cI (a 5) (a 6) 16 8 2 (V.2.2.1)) (wTb cI (a 5) (a 6) 16 8 2 (V.2.2.1)) (wVn cI a V) := ⟨[[(a 0, .inr (7, [.ref (a 1), .ref (a 3), .ref (a 5), .ref (a 7), .ref (a 9), .int V.2.2.2.2.2]))], (wTb cI (a 1) (a 2) 44 4 11 V.1), (wTb cI (a 3) (a 4) 160 16 10 V.2.1), (wTb cI (a 5) (a 6) 16 8 2 V.2.2.1), (wTb cI (a 7) (a 8) 64 16 4 V.2.2.2.1), (wTb cI (a 9) (a 10) 5 5 1 V.2.2.2.2.1)], [(wTb cI (a 5) (a 6) 16 8 2 (V.2.2.1))], [(wTb cI (a 5) (a 6) 16 8 2 (V.2.2.1))], [[(a 0, .inr (7, [.ref (a 1), .ref (a 3), .ref (a 5), .ref (a 7), .ref (a 9), .int V.2.2.2.2.2]))], (wTb cI (a 1) (a 2) 44 4 11 V.1), (wTb cI (a 3) (a 4) 160 16 10 V.2.1), (wTb cI (a 5) (a 6) 16 8 2 V.2.2.1), (wTb cI (a 7) (a 8) 64 16 4 V.2.2.2.1), (wTb cI (a 9) (a 10) 5 5 1 V.2.2.2.2.1)], [3], [0, 1, 2, 4, 5], by simp only [wVn, List.flatten_cons, List.flatten_nil, List.append_assoc, List.append_nil, List.nil_append, List.cons_append], by simp only [List.flatten_cons, List.flatten_nil, List.append_assoc, List.append_nil, List.nil_append, List.cons_append], by simp only [List.flatten_cons, List.flatten_nil, List.append_assoc, List.append_nil, List.nil_append, List.cons_append], by simp only [wVn, List.flatten_cons, List.flatten_nil, List.append_assoc, List.append_nil, List.nil_append, List.cons_append], rfl, rfl, rfl, rfl, rfl⟩
theorem sg_Vn_payments (cI : ClassId) (a : Nat → Nat) (V : Vn) (N' : Tb) : Sg (wVn cI a V) (wTb cI (a 7) (a 8) 64 16 4 (V.2.2.2.1)) (wTb cI (a 7) (a 8) 64 16 4 N') (wVn cI a ((V.1, V.2.1, V.2.2.1, N', V.2.2.2.2))) := ⟨[[(a 0, .inr (7, [.ref (a 1), .ref (a 3), .ref (a 5), .ref (a 7), .ref (a 9), .int V.2.2.2.2.2]))], (wTb cI (a 1) (a 2) 44 4 11 V.1), (wTb cI (a 3) (a 4) 160 16 10 V.2.1), (wTb cI (a 5) (a 6) 16 8 2 V.2.2.1), (wTb cI (a 7) (a 8) 64 16 4 V.2.2.2.1), (wTb cI (a 9) (a 10) 5 5 1 V.2.2.2.2.1)], [(wTb cI (a 7) (a 8) 64 16 4 (V.2.2.2.1))], [(wTb cI (a 7) (a 8) 64 16 4 (N'))], [[(a 0, .inr (7, [.ref (a 1), .ref (a 3), .ref (a 5), .ref (a 7), .ref (a 9), .int ((V.1, V.2.1, V.2.2.1, N', V.2.2.2.2)).2.2.2.2.2]))], (wTb cI (a 1) (a 2) 44 4 11 ((V.1, V.2.1, V.2.2.1, N', V.2.2.2.2)).1), (wTb cI (a 3) (a 4) 160 16 10 ((V.1, V.2.1, V.2.2.1, N', V.2.2.2.2)).2.1), (wTb cI (a 5) (a 6) 16 8 2 ((V.1, V.2.1, V.2.2.1, N', V.2.2.2.2)).2.2.1), (wTb cI (a 7) (a 8) 64 16 4 ((V.1, V.2.1, V.2.2.1, N', V.2.2.2.2)).2.2.2.1), (wTb cI (a 9) (a 10) 5 5 1 ((V.1, V.2.1, V.2.2.1, N', V.2.2.2.2)).2.2.2.2.1)], [4], [0, 1, 2, 3, 5], by simp only [wVn, List.flatten_cons, List.flatten_nil, List.append_assoc, List.append_nil, List.nil_append, List.cons_append], by simp only [List.flatten_cons, List.flatten_nil, List.append_assoc, List.append_nil, List.nil_append, List.cons_append], by simp only [List.flatten_cons, List.flatten_nil, List.append_assoc, List.append_nil, List.nil_append, List.cons_append], by simp only [wVn, List.flatten_cons, List.flatten_nil, List.append_assoc, List.append_nil, List.nil_append, List.cons_append], rfl, rfl, rfl, rfl, rfl⟩
theorem sr_Vn_payments (cI : ClassId) (a : Nat → Nat) (V : Vn) : Sg (wVn cI a V) (wTb cI (a 7) (a 8) 64 16 4 (V.2.2.2.1)) (wTb cI (a 7) (a 8) 64 16 4 (V.2.2.2.1)) (wVn cI a V) := ⟨[[(a 0, .inr (7, [.ref (a 1), .ref (a 3), .ref (a 5), .ref (a 7), .ref (a 9), .int V.2.2.2.2.2]))], (wTb cI (a 1) (a 2) 44 4 11 V.1), (wTb cI (a 3) (a 4) 160 16 10 V.2.1), (wTb cI (a 5) (a 6) 16 8 2 V.2.2.1), (wTb cI (a 7) (a 8) 64 16 4 V.2.2.2.1), (wTb cI (a 9) (a 10) 5 5 1 V.2.2.2.2.1)], [(wTb cI (a 7) (a 8) 64 16 4 (V.2.2.2.1))], [(wTb cI (a 7) (a 8) 64 16 4 (V.2.2.2.1))], [[(a 0, .inr (7, [.ref (a 1), .ref (a 3), .ref (a 5), .ref (a 7), .ref (a 9), .int V.2.2.2.2.2]))], (wTb cI (a 1) (a 2) 44 4 11 V.1), (wTb cI (a 3) (a 4) 160 16 10 V.2.1), (wTb cI (a 5) (a 6) 16 8 2 V.2.2.1), (wTb cI (a 7) (a 8) 64 16 4 V.2.2.2.1), (wTb cI (a 9) (a 10) 5 5 1 V.2.2.2.2.1)], [4], [0, 1, 2, 3, 5], by simp only [wVn, List.flatten_cons, List.flatten_nil, List.append_assoc, List.append_nil, List.nil_append, List.cons_append], by simp only [List.flatten_cons, List.flatten_nil, List.append_assoc, List.append_nil, List.nil_append, List.cons_append], by simp only [List.flatten_cons, List.flatten_nil, List.append_assoc, List.append_nil, List.nil_append, List.cons_append], by simp only [wVn, List.flatten_cons, List.flatten_nil, List.append_assoc, List.append_nil, List.nil_append, List.cons_append], rfl, rfl, rfl, rfl, rfl⟩
theorem sg_Vn_settings (cI : ClassId) (a : Nat → Nat) (V : Vn) (N' : Tb) : Sg (wVn cI a V) (wTb cI (a 9) (a 10) 5 5 1 (V.2.2.2.2.1)) (wTb cI (a 9) (a 10) 5 5 1 N') (wVn cI a ((V.1, V.2.1, V.2.2.1, V.2.2.2.1, N', V.2.2.2.2.2))) := ⟨[[(a 0, .inr (7, [.ref (a 1), .ref (a 3), .ref (a 5), .ref (a 7), .ref (a 9), .int V.2.2.2.2.2]))], (wTb cI (a 1) (a 2) 44 4 11 V.1), (wTb cI (a 3) (a 4) 160 16 10 V.2.1), (wTb cI (a 5) (a 6) 16 8 2 V.2.2.1), (wTb cI (a 7) (a 8) 64 16 4 V.2.2.2.1), (wTb cI (a 9) (a 10) 5 5 1 V.2.2.2.2.1)], [(wTb cI (a 9) (a 10) 5 5 1 (V.2.2.2.2.1))], [(wTb cI (a 9) (a 10) 5 5 1 (N'))], [[(a 0, .inr (7, [.ref (a 1), .ref (a 3), .ref (a 5), .ref (a 7), .ref (a 9), .int ((V.1, V.2.1, V.2.2.1, V.2.2.2.1, N', V.2.2.2.2.2)).2.2.2.2.2]))], (wTb cI (a 1) (a 2) 44 4 11 ((V.1, V.2.1, V.2.2.1, V.2.2.2.1, N', V.2.2.2.2.2)).1), (wTb cI (a 3) (a 4) 160 16 10 ((V.1, V.2.1, V.2.2.1, V.2.2.2.1, N', V.2.2.2.2.2)).2.1), (wTb cI (a 5) (a 6) 16 8 2 ((V.1, V.2.1, V.2.2.1, V.2.2.2.1, N', V.2.2.2.2.2)).2.2.1), (wTb cI (a 7) (a 8) 64 16 4 ((V.1, V.2.1, V.2.2.1, V.2.2.2.1, N', V.2.2.2.2.2)).2.2.2.1), (wTb cI (a 9) (a 10) 5 5 1 ((V.1, V.2.1, V.2.2.1, V.2.2.2.1, N', V.2.2.2.2.2)).2.2.2.2.1)], [5], [0, 1, 2, 3, 4], by simp only [wVn, List.flatten_cons, List.flatten_nil, List.append_assoc, List.append_nil, List.nil_append, List.cons_append], by simp only [List.flatten_cons, List.flatten_nil, List.append_assoc, List.append_nil, List.nil_append, List.cons_append], by simp only [List.flatten_cons, List.flatten_nil, List.append_assoc, List.append_nil, List.nil_append, List.cons_append], by simp only [wVn, List.flatten_cons, List.flatten_nil, List.append_assoc, List.append_nil, List.nil_append, List.cons_append], rfl, rfl, rfl, rfl, rfl⟩
theorem sr_Vn_settings (cI : ClassId) (a : Nat → Nat) (V : Vn) : Sg (wVn cI a V) (wTb cI (a 9) (a 10) 5 5 1 (V.2.2.2.2.1)) (wTb cI (a 9) (a 10) 5 5 1 (V.2.2.2.2.1)) (wVn cI a V) := ⟨[[(a 0, .inr (7, [.ref (a 1), .ref (a 3), .ref (a 5), .ref (a 7), .ref (a 9), .int V.2.2.2.2.2]))], (wTb cI (a 1) (a 2) 44 4 11 V.1), (wTb cI (a 3) (a 4) 160 16 10 V.2.1), (wTb cI (a 5) (a 6) 16 8 2 V.2.2.1), (wTb cI (a 7) (a 8) 64 16 4 V.2.2.2.1), (wTb cI (a 9) (a 10) 5 5 1 V.2.2.2.2.1)], [(wTb cI (a 9) (a 10) 5 5 1 (V.2.2.2.2.1))], [(wTb cI (a 9) (a 10) 5 5 1 (V.2.2.2.2.1))], [[(a 0, .inr (7, [.ref (a 1), .ref (a 3), .ref (a 5), .ref (a 7), .ref (a 9), .int V.2.2.2.2.2]))], (wTb cI (a 1) (a 2) 44 4 11 V.1), (wTb cI (a 3) (a 4) 160 16 10 V.2.1), (wTb cI (a 5) (a 6) 16 8 2 V.2.2.1), (wTb cI (a 7) (a 8) 64 16 4 V.2.2.2.1), (wTb cI (a 9) (a 10) 5 5 1 V.2.2.2.2.1)], [5], [0, 1, 2, 3, 4], by simp only [wVn, List.flatten_cons, List.flatten_nil, List.append_assoc, List.append_nil, List.nil_append, List.cons_append], by simp only [List.flatten_cons, List.flatten_nil, List.append_assoc, List.append_nil, List.nil_append, List.cons_append], by simp only [List.flatten_cons, List.flatten_nil, List.append_assoc, List.append_nil, List.nil_append, List.cons_append], by simp only [wVn, List.flatten_cons, List.flatten_nil, List.append_assoc, List.append_nil, List.nil_append, List.cons_append], rfl, rfl, rfl, rfl, rfl⟩
theorem sg_Vn_Vn (cI : ClassId) (a : Nat → Nat) (V : Vn) (N' : Vn) : Sg (wVn cI a V) (wVn cI a V) (wVn cI a N') (wVn cI a (N')) := sg_all
theorem sr_Vn_Vn (cI : ClassId) (a : Nat → Nat) (V : Vn) : Sg (wVn cI a V) (wVn cI a V) (wVn cI a V) (wVn cI a V) := sg_all
theorem sg_Dk_rooms (cI : ClassId) (d : Nat) (a : Nat → Nat) (V : Vn) (N' : Tb) : Sg (wDk cI d a V) (wTb cI (a 1) (a 2) 44 4 11 (V.1)) (wTb cI (a 1) (a 2) 44 4 11 N') (wDk cI d a ((N', V.2))) := ⟨[[(d, .inr (0, [.ref (a 0), .ref (a 1), .ref (a 3), .ref (a 5), .ref (a 7)]))], [(a 0, .inr (7, [.ref (a 1), .ref (a 3), .ref (a 5), .ref (a 7), .ref (a 9), .int V.2.2.2.2.2]))], (wTb cI (a 1) (a 2) 44 4 11 V.1), (wTb cI (a 3) (a 4) 160 16 10 V.2.1), (wTb cI (a 5) (a 6) 16 8 2 V.2.2.1), (wTb cI (a 7) (a 8) 64 16 4 V.2.2.2.1), (wTb cI (a 9) (a 10) 5 5 1 V.2.2.2.2.1)], [(wTb cI (a 1) (a 2) 44 4 11 (V.1))], [(wTb cI (a 1) (a 2) 44 4 11 (N'))], [[(d, .inr (0, [.ref (a 0), .ref (a 1), .ref (a 3), .ref (a 5), .ref (a 7)]))], [(a 0, .inr (7, [.ref (a 1), .ref (a 3), .ref (a 5), .ref (a 7), .ref (a 9), .int ((N', V.2)).2.2.2.2.2]))], (wTb cI (a 1) (a 2) 44 4 11 ((N', V.2)).1), (wTb cI (a 3) (a 4) 160 16 10 ((N', V.2)).2.1), (wTb cI (a 5) (a 6) 16 8 2 ((N', V.2)).2.2.1), (wTb cI (a 7) (a 8) 64 16 4 ((N', V.2)).2.2.2.1), (wTb cI (a 9) (a 10) 5 5 1 ((N', V.2)).2.2.2.2.1)], [2], [0, 1, 3, 4, 5, 6], by simp only [wDk, wVn, List.flatten_cons, List.flatten_nil, List.append_assoc, List.append_nil, List.nil_append, List.cons_append], by simp only [List.flatten_cons, List.flatten_nil, List.append_assoc, List.append_nil, List.nil_append, List.cons_append], by simp only [List.flatten_cons, List.flatten_nil, List.append_assoc, List.append_nil, List.nil_append, List.cons_append], by simp only [wDk, wVn, List.flatten_cons, List.flatten_nil, List.append_assoc, List.append_nil, List.nil_append, List.cons_append], rfl, rfl, rfl, rfl, rfl⟩
theorem sr_Dk_rooms (cI : ClassId) (d : Nat) (a : Nat → Nat) (V : Vn) : Sg (wDk cI d a V) (wTb cI (a 1) (a 2) 44 4 11 (V.1)) (wTb cI (a 1) (a 2) 44 4 11 (V.1)) (wDk cI d a V) := ⟨[[(d, .inr (0, [.ref (a 0), .ref (a 1), .ref (a 3), .ref (a 5), .ref (a 7)]))], [(a 0, .inr (7, [.ref (a 1), .ref (a 3), .ref (a 5), .ref (a 7), .ref (a 9), .int V.2.2.2.2.2]))], (wTb cI (a 1) (a 2) 44 4 11 V.1), (wTb cI (a 3) (a 4) 160 16 10 V.2.1), (wTb cI (a 5) (a 6) 16 8 2 V.2.2.1), (wTb cI (a 7) (a 8) 64 16 4 V.2.2.2.1), (wTb cI (a 9) (a 10) 5 5 1 V.2.2.2.2.1)], [(wTb cI (a 1) (a 2) 44 4 11 (V.1))], [(wTb cI (a 1) (a 2) 44 4 11 (V.1))], [[(d, .inr (0, [.ref (a 0), .ref (a 1), .ref (a 3), .ref (a 5), .ref (a 7)]))], [(a 0, .inr (7, [.ref (a 1), .ref (a 3), .ref (a 5), .ref (a 7), .ref (a 9), .int V.2.2.2.2.2]))], (wTb cI (a 1) (a 2) 44 4 11 V.1), (wTb cI (a 3) (a 4) 160 16 10 V.2.1), (wTb cI (a 5) (a 6) 16 8 2 V.2.2.1), (wTb cI (a 7) (a 8) 64 16 4 V.2.2.2.1), (wTb cI (a 9) (a 10) 5 5 1 V.2.2.2.2.1)], [2], [0, 1, 3, 4, 5, 6], by simp only [wDk, wVn, List.flatten_cons, List.flatten_nil, List.append_assoc, List.append_nil, List.nil_append, List.cons_append], by simp only [List.flatten_cons, List.flatten_nil, List.append_assoc, List.append_nil, List.nil_append, List.cons_append], by simp only [List.flatten_cons, List.flatten_nil, List.append_assoc, List.append_nil, List.nil_append, List.cons_append], by simp only [wDk, wVn, List.flatten_cons, List.flatten_nil, List.append_assoc, List.append_nil, List.nil_append, List.cons_append], rfl, rfl, rfl, rfl, rfl⟩
theorem sg_Dk_bookings (cI : ClassId) (d : Nat) (a : Nat → Nat) (V : Vn) (N' : Tb) : Sg (wDk cI d a V) (wTb cI (a 3) (a 4) 160 16 10 (V.2.1)) (wTb cI (a 3) (a 4) 160 16 10 N') (wDk cI d a ((V.1, N', V.2.2))) := ⟨[[(d, .inr (0, [.ref (a 0), .ref (a 1), .ref (a 3), .ref (a 5), .ref (a 7)]))], [(a 0, .inr (7, [.ref (a 1), .ref (a 3), .ref (a 5), .ref (a 7), .ref (a 9), .int V.2.2.2.2.2]))], (wTb cI (a 1) (a 2) 44 4 11 V.1), (wTb cI (a 3) (a 4) 160 16 10 V.2.1), (wTb cI (a 5) (a 6) 16 8 2 V.2.2.1), (wTb cI (a 7) (a 8) 64 16 4 V.2.2.2.1), (wTb cI (a 9) (a 10) 5 5 1 V.2.2.2.2.1)], [(wTb cI (a 3) (a 4) 160 16 10 (V.2.1))], [(wTb cI (a 3) (a 4) 160 16 10 (N'))], [[(d, .inr (0, [.ref (a 0), .ref (a 1), .ref (a 3), .ref (a 5), .ref (a 7)]))], [(a 0, .inr (7, [.ref (a 1), .ref (a 3), .ref (a 5), .ref (a 7), .ref (a 9), .int ((V.1, N', V.2.2)).2.2.2.2.2]))], (wTb cI (a 1) (a 2) 44 4 11 ((V.1, N', V.2.2)).1), (wTb cI (a 3) (a 4) 160 16 10 ((V.1, N', V.2.2)).2.1), (wTb cI (a 5) (a 6) 16 8 2 ((V.1, N', V.2.2)).2.2.1), (wTb cI (a 7) (a 8) 64 16 4 ((V.1, N', V.2.2)).2.2.2.1), (wTb cI (a 9) (a 10) 5 5 1 ((V.1, N', V.2.2)).2.2.2.2.1)], [3], [0, 1, 2, 4, 5, 6], by simp only [wDk, wVn, List.flatten_cons, List.flatten_nil, List.append_assoc, List.append_nil, List.nil_append, List.cons_append], by simp only [List.flatten_cons, List.flatten_nil, List.append_assoc, List.append_nil, List.nil_append, List.cons_append], by simp only [List.flatten_cons, List.flatten_nil, List.append_assoc, List.append_nil, List.nil_append, List.cons_append], by simp only [wDk, wVn, List.flatten_cons, List.flatten_nil, List.append_assoc, List.append_nil, List.nil_append, List.cons_append], rfl, rfl, rfl, rfl, rfl⟩
theorem sr_Dk_bookings (cI : ClassId) (d : Nat) (a : Nat → Nat) (V : Vn) : Sg (wDk cI d a V) (wTb cI (a 3) (a 4) 160 16 10 (V.2.1)) (wTb cI (a 3) (a 4) 160 16 10 (V.2.1)) (wDk cI d a V) := ⟨[[(d, .inr (0, [.ref (a 0), .ref (a 1), .ref (a 3), .ref (a 5), .ref (a 7)]))], [(a 0, .inr (7, [.ref (a 1), .ref (a 3), .ref (a 5), .ref (a 7), .ref (a 9), .int V.2.2.2.2.2]))], (wTb cI (a 1) (a 2) 44 4 11 V.1), (wTb cI (a 3) (a 4) 160 16 10 V.2.1), (wTb cI (a 5) (a 6) 16 8 2 V.2.2.1), (wTb cI (a 7) (a 8) 64 16 4 V.2.2.2.1), (wTb cI (a 9) (a 10) 5 5 1 V.2.2.2.2.1)], [(wTb cI (a 3) (a 4) 160 16 10 (V.2.1))], [(wTb cI (a 3) (a 4) 160 16 10 (V.2.1))], [[(d, .inr (0, [.ref (a 0), .ref (a 1), .ref (a 3), .ref (a 5), .ref (a 7)]))], [(a 0, .inr (7, [.ref (a 1), .ref (a 3), .ref (a 5), .ref (a 7), .ref (a 9), .int V.2.2.2.2.2]))], (wTb cI (a 1) (a 2) 44 4 11 V.1), (wTb cI (a 3) (a 4) 160 16 10 V.2.1), (wTb cI (a 5) (a 6) 16 8 2 V.2.2.1), (wTb cI (a 7) (a 8) 64 16 4 V.2.2.2.1), (wTb cI (a 9) (a 10) 5 5 1 V.2.2.2.2.1)], [3], [0, 1, 2, 4, 5, 6], by simp only [wDk, wVn, List.flatten_cons, List.flatten_nil, List.append_assoc, List.append_nil, List.nil_append, List.cons_append], by simp only [List.flatten_cons, List.flatten_nil, List.append_assoc, List.append_nil, List.nil_append, List.cons_append], by simp only [List.flatten_cons, List.flatten_nil, List.append_assoc, List.append_nil, List.nil_append, List.cons_append], by simp only [wDk, wVn, List.flatten_cons, List.flatten_nil, List.append_assoc, List.append_nil, List.nil_append, List.cons_append], rfl, rfl, rfl, rfl, rfl⟩
theorem sg_Dk_vouchers (cI : ClassId) (d : Nat) (a : Nat → Nat) (V : Vn) (N' : Tb) : Sg (wDk cI d a V) (wTb cI (a 5) (a 6) 16 8 2 (V.2.2.1)) (wTb cI (a 5) (a 6) 16 8 2 N') (wDk cI d a ((V.1, V.2.1, N', V.2.2.2))) := ⟨[[(d, .inr (0, [.ref (a 0), .ref (a 1), .ref (a 3), .ref (a 5), .ref (a 7)]))], [(a 0, .inr (7, [.ref (a 1), .ref (a 3), .ref (a 5), .ref (a 7), .ref (a 9), .int V.2.2.2.2.2]))], (wTb cI (a 1) (a 2) 44 4 11 V.1), (wTb cI (a 3) (a 4) 160 16 10 V.2.1), (wTb cI (a 5) (a 6) 16 8 2 V.2.2.1), (wTb cI (a 7) (a 8) 64 16 4 V.2.2.2.1), (wTb cI (a 9) (a 10) 5 5 1 V.2.2.2.2.1)], [(wTb cI (a 5) (a 6) 16 8 2 (V.2.2.1))], [(wTb cI (a 5) (a 6) 16 8 2 (N'))], [[(d, .inr (0, [.ref (a 0), .ref (a 1), .ref (a 3), .ref (a 5), .ref (a 7)]))], [(a 0, .inr (7, [.ref (a 1), .ref (a 3), .ref (a 5), .ref (a 7), .ref (a 9), .int ((V.1, V.2.1, N', V.2.2.2)).2.2.2.2.2]))], (wTb cI (a 1) (a 2) 44 4 11 ((V.1, V.2.1, N', V.2.2.2)).1), (wTb cI (a 3) (a 4) 160 16 10 ((V.1, V.2.1, N', V.2.2.2)).2.1), (wTb cI (a 5) (a 6) 16 8 2 ((V.1, V.2.1, N', V.2.2.2)).2.2.1), (wTb cI (a 7) (a 8) 64 16 4 ((V.1, V.2.1, N', V.2.2.2)).2.2.2.1), (wTb cI (a 9) (a 10) 5 5 1 ((V.1, V.2.1, N', V.2.2.2)).2.2.2.2.1)], [4], [0, 1, 2, 3, 5, 6], by simp only [wDk, wVn, List.flatten_cons, List.flatten_nil, List.append_assoc, List.append_nil, List.nil_append, List.cons_append], by simp only [List.flatten_cons, List.flatten_nil, List.append_assoc, List.append_nil, List.nil_append, List.cons_append], by simp only [List.flatten_cons, List.flatten_nil, List.append_assoc, List.append_nil, List.nil_append, List.cons_append], by simp only [wDk, wVn, List.flatten_cons, List.flatten_nil, List.append_assoc, List.append_nil, List.nil_append, List.cons_append], rfl, rfl, rfl, rfl, rfl⟩
theorem sr_Dk_vouchers (cI : ClassId) (d : Nat) (a : Nat → Nat) (V : Vn) : Sg (wDk cI d a V) (wTb cI (a 5) (a 6) 16 8 2 (V.2.2.1)) (wTb cI (a 5) (a 6) 16 8 2 (V.2.2.1)) (wDk cI d a V) := ⟨[[(d, .inr (0, [.ref (a 0), .ref (a 1), .ref (a 3), .ref (a 5), .ref (a 7)]))], [(a 0, .inr (7, [.ref (a 1), .ref (a 3), .ref (a 5), .ref (a 7), .ref (a 9), .int V.2.2.2.2.2]))], (wTb cI (a 1) (a 2) 44 4 11 V.1), (wTb cI (a 3) (a 4) 160 16 10 V.2.1), (wTb cI (a 5) (a 6) 16 8 2 V.2.2.1), (wTb cI (a 7) (a 8) 64 16 4 V.2.2.2.1), (wTb cI (a 9) (a 10) 5 5 1 V.2.2.2.2.1)], [(wTb cI (a 5) (a 6) 16 8 2 (V.2.2.1))], [(wTb cI (a 5) (a 6) 16 8 2 (V.2.2.1))], [[(d, .inr (0, [.ref (a 0), .ref (a 1), .ref (a 3), .ref (a 5), .ref (a 7)]))], [(a 0, .inr (7, [.ref (a 1), .ref (a 3), .ref (a 5), .ref (a 7), .ref (a 9), .int V.2.2.2.2.2]))], (wTb cI (a 1) (a 2) 44 4 11 V.1), (wTb cI (a 3) (a 4) 160 16 10 V.2.1), (wTb cI (a 5) (a 6) 16 8 2 V.2.2.1), (wTb cI (a 7) (a 8) 64 16 4 V.2.2.2.1), (wTb cI (a 9) (a 10) 5 5 1 V.2.2.2.2.1)], [4], [0, 1, 2, 3, 5, 6], by simp only [wDk, wVn, List.flatten_cons, List.flatten_nil, List.append_assoc, List.append_nil, List.nil_append, List.cons_append], by simp only [List.flatten_cons, List.flatten_nil, List.append_assoc, List.append_nil, List.nil_append, List.cons_append], by simp only [List.flatten_cons, List.flatten_nil, List.append_assoc, List.append_nil, List.nil_append, List.cons_append], by simp only [wDk, wVn, List.flatten_cons, List.flatten_nil, List.append_assoc, List.append_nil, List.nil_append, List.cons_append], rfl, rfl, rfl, rfl, rfl⟩
theorem sg_Dk_payments (cI : ClassId) (d : Nat) (a : Nat → Nat) (V : Vn) (N' : Tb) : Sg (wDk cI d a V) (wTb cI (a 7) (a 8) 64 16 4 (V.2.2.2.1)) (wTb cI (a 7) (a 8) 64 16 4 N') (wDk cI d a ((V.1, V.2.1, V.2.2.1, N', V.2.2.2.2))) := ⟨[[(d, .inr (0, [.ref (a 0), .ref (a 1), .ref (a 3), .ref (a 5), .ref (a 7)]))], [(a 0, .inr (7, [.ref (a 1), .ref (a 3), .ref (a 5), .ref (a 7), .ref (a 9), .int V.2.2.2.2.2]))], (wTb cI (a 1) (a 2) 44 4 11 V.1), (wTb cI (a 3) (a 4) 160 16 10 V.2.1), (wTb cI (a 5) (a 6) 16 8 2 V.2.2.1), (wTb cI (a 7) (a 8) 64 16 4 V.2.2.2.1), (wTb cI (a 9) (a 10) 5 5 1 V.2.2.2.2.1)], [(wTb cI (a 7) (a 8) 64 16 4 (V.2.2.2.1))], [(wTb cI (a 7) (a 8) 64 16 4 (N'))], [[(d, .inr (0, [.ref (a 0), .ref (a 1), .ref (a 3), .ref (a 5), .ref (a 7)]))], [(a 0, .inr (7, [.ref (a 1), .ref (a 3), .ref (a 5), .ref (a 7), .ref (a 9), .int ((V.1, V.2.1, V.2.2.1, N', V.2.2.2.2)).2.2.2.2.2]))], (wTb cI (a 1) (a 2) 44 4 11 ((V.1, V.2.1, V.2.2.1, N', V.2.2.2.2)).1), (wTb cI (a 3) (a 4) 160 16 10 ((V.1, V.2.1, V.2.2.1, N', V.2.2.2.2)).2.1), (wTb cI (a 5) (a 6) 16 8 2 ((V.1, V.2.1, V.2.2.1, N', V.2.2.2.2)).2.2.1), (wTb cI (a 7) (a 8) 64 16 4 ((V.1, V.2.1, V.2.2.1, N', V.2.2.2.2)).2.2.2.1), (wTb cI (a 9) (a 10) 5 5 1 ((V.1, V.2.1, V.2.2.1, N', V.2.2.2.2)).2.2.2.2.1)], [5], [0, 1, 2, 3, 4, 6], by simp only [wDk, wVn, List.flatten_cons, List.flatten_nil, List.append_assoc, List.append_nil, List.nil_append, List.cons_append], by simp only [List.flatten_cons, List.flatten_nil, List.append_assoc, List.append_nil, List.nil_append, List.cons_append], by simp only [List.flatten_cons, List.flatten_nil, List.append_assoc, List.append_nil, List.nil_append, List.cons_append], by simp only [wDk, wVn, List.flatten_cons, List.flatten_nil, List.append_assoc, List.append_nil, List.nil_append, List.cons_append], rfl, rfl, rfl, rfl, rfl⟩
theorem sr_Dk_payments (cI : ClassId) (d : Nat) (a : Nat → Nat) (V : Vn) : Sg (wDk cI d a V) (wTb cI (a 7) (a 8) 64 16 4 (V.2.2.2.1)) (wTb cI (a 7) (a 8) 64 16 4 (V.2.2.2.1)) (wDk cI d a V) := ⟨[[(d, .inr (0, [.ref (a 0), .ref (a 1), .ref (a 3), .ref (a 5), .ref (a 7)]))], [(a 0, .inr (7, [.ref (a 1), .ref (a 3), .ref (a 5), .ref (a 7), .ref (a 9), .int V.2.2.2.2.2]))], (wTb cI (a 1) (a 2) 44 4 11 V.1), (wTb cI (a 3) (a 4) 160 16 10 V.2.1), (wTb cI (a 5) (a 6) 16 8 2 V.2.2.1), (wTb cI (a 7) (a 8) 64 16 4 V.2.2.2.1), (wTb cI (a 9) (a 10) 5 5 1 V.2.2.2.2.1)], [(wTb cI (a 7) (a 8) 64 16 4 (V.2.2.2.1))], [(wTb cI (a 7) (a 8) 64 16 4 (V.2.2.2.1))], [[(d, .inr (0, [.ref (a 0), .ref (a 1), .ref (a 3), .ref (a 5), .ref (a 7)]))], [(a 0, .inr (7, [.ref (a 1), .ref (a 3), .ref (a 5), .ref (a 7), .ref (a 9), .int V.2.2.2.2.2]))], (wTb cI (a 1) (a 2) 44 4 11 V.1), (wTb cI (a 3) (a 4) 160 16 10 V.2.1), (wTb cI (a 5) (a 6) 16 8 2 V.2.2.1), (wTb cI (a 7) (a 8) 64 16 4 V.2.2.2.1), (wTb cI (a 9) (a 10) 5 5 1 V.2.2.2.2.1)], [5], [0, 1, 2, 3, 4, 6], by simp only [wDk, wVn, List.flatten_cons, List.flatten_nil, List.append_assoc, List.append_nil, List.nil_append, List.cons_append], by simp only [List.flatten_cons, List.flatten_nil, List.append_assoc, List.append_nil, List.nil_append, List.cons_append], by simp only [List.flatten_cons, List.flatten_nil, List.append_assoc, List.append_nil, List.nil_append, List.cons_append], by simp only [wDk, wVn, List.flatten_cons, List.flatten_nil, List.append_assoc, List.append_nil, List.nil_append, List.cons_append], rfl, rfl, rfl, rfl, rfl⟩
theorem sg_Dk_settings (cI : ClassId) (d : Nat) (a : Nat → Nat) (V : Vn) (N' : Tb) : Sg (wDk cI d a V) (wTb cI (a 9) (a 10) 5 5 1 (V.2.2.2.2.1)) (wTb cI (a 9) (a 10) 5 5 1 N') (wDk cI d a ((V.1, V.2.1, V.2.2.1, V.2.2.2.1, N', V.2.2.2.2.2))) := ⟨[[(d, .inr (0, [.ref (a 0), .ref (a 1), .ref (a 3), .ref (a 5), .ref (a 7)]))], [(a 0, .inr (7, [.ref (a 1), .ref (a 3), .ref (a 5), .ref (a 7), .ref (a 9), .int V.2.2.2.2.2]))], (wTb cI (a 1) (a 2) 44 4 11 V.1), (wTb cI (a 3) (a 4) 160 16 10 V.2.1), (wTb cI (a 5) (a 6) 16 8 2 V.2.2.1), (wTb cI (a 7) (a 8) 64 16 4 V.2.2.2.1), (wTb cI (a 9) (a 10) 5 5 1 V.2.2.2.2.1)], [(wTb cI (a 9) (a 10) 5 5 1 (V.2.2.2.2.1))], [(wTb cI (a 9) (a 10) 5 5 1 (N'))], [[(d, .inr (0, [.ref (a 0), .ref (a 1), .ref (a 3), .ref (a 5), .ref (a 7)]))], [(a 0, .inr (7, [.ref (a 1), .ref (a 3), .ref (a 5), .ref (a 7), .ref (a 9), .int ((V.1, V.2.1, V.2.2.1, V.2.2.2.1, N', V.2.2.2.2.2)).2.2.2.2.2]))], (wTb cI (a 1) (a 2) 44 4 11 ((V.1, V.2.1, V.2.2.1, V.2.2.2.1, N', V.2.2.2.2.2)).1), (wTb cI (a 3) (a 4) 160 16 10 ((V.1, V.2.1, V.2.2.1, V.2.2.2.1, N', V.2.2.2.2.2)).2.1), (wTb cI (a 5) (a 6) 16 8 2 ((V.1, V.2.1, V.2.2.1, V.2.2.2.1, N', V.2.2.2.2.2)).2.2.1), (wTb cI (a 7) (a 8) 64 16 4 ((V.1, V.2.1, V.2.2.1, V.2.2.2.1, N', V.2.2.2.2.2)).2.2.2.1), (wTb cI (a 9) (a 10) 5 5 1 ((V.1, V.2.1, V.2.2.1, V.2.2.2.1, N', V.2.2.2.2.2)).2.2.2.2.1)], [6], [0, 1, 2, 3, 4, 5], by simp only [wDk, wVn, List.flatten_cons, List.flatten_nil, List.append_assoc, List.append_nil, List.nil_append, List.cons_append], by simp only [List.flatten_cons, List.flatten_nil, List.append_assoc, List.append_nil, List.nil_append, List.cons_append], by simp only [List.flatten_cons, List.flatten_nil, List.append_assoc, List.append_nil, List.nil_append, List.cons_append], by simp only [wDk, wVn, List.flatten_cons, List.flatten_nil, List.append_assoc, List.append_nil, List.nil_append, List.cons_append], rfl, rfl, rfl, rfl, rfl⟩
theorem sr_Dk_settings (cI : ClassId) (d : Nat) (a : Nat → Nat) (V : Vn) : Sg (wDk cI d a V) (wTb cI (a 9) (a 10) 5 5 1 (V.2.2.2.2.1)) (wTb cI (a 9) (a 10) 5 5 1 (V.2.2.2.2.1)) (wDk cI d a V) := ⟨[[(d, .inr (0, [.ref (a 0), .ref (a 1), .ref (a 3), .ref (a 5), .ref (a 7)]))], [(a 0, .inr (7, [.ref (a 1), .ref (a 3), .ref (a 5), .ref (a 7), .ref (a 9), .int V.2.2.2.2.2]))], (wTb cI (a 1) (a 2) 44 4 11 V.1), (wTb cI (a 3) (a 4) 160 16 10 V.2.1), (wTb cI (a 5) (a 6) 16 8 2 V.2.2.1), (wTb cI (a 7) (a 8) 64 16 4 V.2.2.2.1), (wTb cI (a 9) (a 10) 5 5 1 V.2.2.2.2.1)], [(wTb cI (a 9) (a 10) 5 5 1 (V.2.2.2.2.1))], [(wTb cI (a 9) (a 10) 5 5 1 (V.2.2.2.2.1))], [[(d, .inr (0, [.ref (a 0), .ref (a 1), .ref (a 3), .ref (a 5), .ref (a 7)]))], [(a 0, .inr (7, [.ref (a 1), .ref (a 3), .ref (a 5), .ref (a 7), .ref (a 9), .int V.2.2.2.2.2]))], (wTb cI (a 1) (a 2) 44 4 11 V.1), (wTb cI (a 3) (a 4) 160 16 10 V.2.1), (wTb cI (a 5) (a 6) 16 8 2 V.2.2.1), (wTb cI (a 7) (a 8) 64 16 4 V.2.2.2.1), (wTb cI (a 9) (a 10) 5 5 1 V.2.2.2.2.1)], [6], [0, 1, 2, 3, 4, 5], by simp only [wDk, wVn, List.flatten_cons, List.flatten_nil, List.append_assoc, List.append_nil, List.nil_append, List.cons_append], by simp only [List.flatten_cons, List.flatten_nil, List.append_assoc, List.append_nil, List.nil_append, List.cons_append], by simp only [List.flatten_cons, List.flatten_nil, List.append_assoc, List.append_nil, List.nil_append, List.cons_append], by simp only [wDk, wVn, List.flatten_cons, List.flatten_nil, List.append_assoc, List.append_nil, List.nil_append, List.cons_append], rfl, rfl, rfl, rfl, rfl⟩
theorem sg_Dk_Dk (cI : ClassId) (d : Nat) (a : Nat → Nat) (V : Vn) (N' : Vn) : Sg (wDk cI d a V) (wDk cI d a V) (wDk cI d a N') (wDk cI d a (N')) := sg_all
theorem sr_Dk_Dk (cI : ClassId) (d : Nat) (a : Nat → Nat) (V : Vn) : Sg (wDk cI d a V) (wDk cI d a V) (wDk cI d a V) (wDk cI d a V) := sg_all
theorem sg_Dk_Vn (cI : ClassId) (d : Nat) (a : Nat → Nat) (V : Vn) (N' : Vn) : Sg (wDk cI d a V) (wVn cI a V) (wVn cI a N') (wDk cI d a (N')) := ⟨[[(d, .inr (0, [.ref (a 0), .ref (a 1), .ref (a 3), .ref (a 5), .ref (a 7)]))], (wVn cI a V)], [(wVn cI a V)], [(wVn cI a ((N')))], [[(d, .inr (0, [.ref (a 0), .ref (a 1), .ref (a 3), .ref (a 5), .ref (a 7)]))], (wVn cI a ((N')))], [1], [0], by simp only [wDk, List.flatten_cons, List.flatten_nil, List.append_assoc, List.append_nil, List.nil_append, List.cons_append], by simp only [List.flatten_cons, List.flatten_nil, List.append_assoc, List.append_nil, List.nil_append, List.cons_append], by simp only [List.flatten_cons, List.flatten_nil, List.append_assoc, List.append_nil, List.nil_append, List.cons_append], by simp only [wDk, List.flatten_cons, List.flatten_nil, List.append_assoc, List.append_nil, List.nil_append, List.cons_append], rfl, rfl, rfl, rfl, rfl⟩
theorem sr_Dk_Vn (cI : ClassId) (d : Nat) (a : Nat → Nat) (V : Vn) : Sg (wDk cI d a V) (wVn cI a V) (wVn cI a V) (wDk cI d a V) := ⟨[[(d, .inr (0, [.ref (a 0), .ref (a 1), .ref (a 3), .ref (a 5), .ref (a 7)]))], (wVn cI a V)], [(wVn cI a V)], [(wVn cI a V)], [[(d, .inr (0, [.ref (a 0), .ref (a 1), .ref (a 3), .ref (a 5), .ref (a 7)]))], (wVn cI a V)], [1], [0], by simp only [wDk, List.flatten_cons, List.flatten_nil, List.append_assoc, List.append_nil, List.nil_append, List.cons_append], by simp only [List.flatten_cons, List.flatten_nil, List.append_assoc, List.append_nil, List.nil_append, List.cons_append], by simp only [List.flatten_cons, List.flatten_nil, List.append_assoc, List.append_nil, List.nil_append, List.cons_append], by simp only [wDk, List.flatten_cons, List.flatten_nil, List.append_assoc, List.append_nil, List.nil_append, List.cons_append], rfl, rfl, rfl, rfl, rfl⟩
theorem sg_Ol_rooms (cI : ClassId) (d : Nat) (a : Nat → Nat) (V : Vn) (N' : Tb) : Sg (wOl cI d a V) (wTb cI (a 1) (a 2) 44 4 11 (V.1)) (wTb cI (a 1) (a 2) 44 4 11 N') (wOl cI d a ((N', V.2))) := ⟨[[(d, .inr (2, [.ref (a 0), .ref (a 1), .ref (a 3)]))], [(a 0, .inr (7, [.ref (a 1), .ref (a 3), .ref (a 5), .ref (a 7), .ref (a 9), .int V.2.2.2.2.2]))], (wTb cI (a 1) (a 2) 44 4 11 V.1), (wTb cI (a 3) (a 4) 160 16 10 V.2.1), (wTb cI (a 5) (a 6) 16 8 2 V.2.2.1), (wTb cI (a 7) (a 8) 64 16 4 V.2.2.2.1), (wTb cI (a 9) (a 10) 5 5 1 V.2.2.2.2.1)], [(wTb cI (a 1) (a 2) 44 4 11 (V.1))], [(wTb cI (a 1) (a 2) 44 4 11 (N'))], [[(d, .inr (2, [.ref (a 0), .ref (a 1), .ref (a 3)]))], [(a 0, .inr (7, [.ref (a 1), .ref (a 3), .ref (a 5), .ref (a 7), .ref (a 9), .int ((N', V.2)).2.2.2.2.2]))], (wTb cI (a 1) (a 2) 44 4 11 ((N', V.2)).1), (wTb cI (a 3) (a 4) 160 16 10 ((N', V.2)).2.1), (wTb cI (a 5) (a 6) 16 8 2 ((N', V.2)).2.2.1), (wTb cI (a 7) (a 8) 64 16 4 ((N', V.2)).2.2.2.1), (wTb cI (a 9) (a 10) 5 5 1 ((N', V.2)).2.2.2.2.1)], [2], [0, 1, 3, 4, 5, 6], by simp only [wOl, wVn, List.flatten_cons, List.flatten_nil, List.append_assoc, List.append_nil, List.nil_append, List.cons_append], by simp only [List.flatten_cons, List.flatten_nil, List.append_assoc, List.append_nil, List.nil_append, List.cons_append], by simp only [List.flatten_cons, List.flatten_nil, List.append_assoc, List.append_nil, List.nil_append, List.cons_append], by simp only [wOl, wVn, List.flatten_cons, List.flatten_nil, List.append_assoc, List.append_nil, List.nil_append, List.cons_append], rfl, rfl, rfl, rfl, rfl⟩
theorem sr_Ol_rooms (cI : ClassId) (d : Nat) (a : Nat → Nat) (V : Vn) : Sg (wOl cI d a V) (wTb cI (a 1) (a 2) 44 4 11 (V.1)) (wTb cI (a 1) (a 2) 44 4 11 (V.1)) (wOl cI d a V) := ⟨[[(d, .inr (2, [.ref (a 0), .ref (a 1), .ref (a 3)]))], [(a 0, .inr (7, [.ref (a 1), .ref (a 3), .ref (a 5), .ref (a 7), .ref (a 9), .int V.2.2.2.2.2]))], (wTb cI (a 1) (a 2) 44 4 11 V.1), (wTb cI (a 3) (a 4) 160 16 10 V.2.1), (wTb cI (a 5) (a 6) 16 8 2 V.2.2.1), (wTb cI (a 7) (a 8) 64 16 4 V.2.2.2.1), (wTb cI (a 9) (a 10) 5 5 1 V.2.2.2.2.1)], [(wTb cI (a 1) (a 2) 44 4 11 (V.1))], [(wTb cI (a 1) (a 2) 44 4 11 (V.1))], [[(d, .inr (2, [.ref (a 0), .ref (a 1), .ref (a 3)]))], [(a 0, .inr (7, [.ref (a 1), .ref (a 3), .ref (a 5), .ref (a 7), .ref (a 9), .int V.2.2.2.2.2]))], (wTb cI (a 1) (a 2) 44 4 11 V.1), (wTb cI (a 3) (a 4) 160 16 10 V.2.1), (wTb cI (a 5) (a 6) 16 8 2 V.2.2.1), (wTb cI (a 7) (a 8) 64 16 4 V.2.2.2.1), (wTb cI (a 9) (a 10) 5 5 1 V.2.2.2.2.1)], [2], [0, 1, 3, 4, 5, 6], by simp only [wOl, wVn, List.flatten_cons, List.flatten_nil, List.append_assoc, List.append_nil, List.nil_append, List.cons_append], by simp only [List.flatten_cons, List.flatten_nil, List.append_assoc, List.append_nil, List.nil_append, List.cons_append], by simp only [List.flatten_cons, List.flatten_nil, List.append_assoc, List.append_nil, List.nil_append, List.cons_append], by simp only [wOl, wVn, List.flatten_cons, List.flatten_nil, List.append_assoc, List.append_nil, List.nil_append, List.cons_append], rfl, rfl, rfl, rfl, rfl⟩
theorem sg_Ol_bookings (cI : ClassId) (d : Nat) (a : Nat → Nat) (V : Vn) (N' : Tb) : Sg (wOl cI d a V) (wTb cI (a 3) (a 4) 160 16 10 (V.2.1)) (wTb cI (a 3) (a 4) 160 16 10 N') (wOl cI d a ((V.1, N', V.2.2))) := ⟨[[(d, .inr (2, [.ref (a 0), .ref (a 1), .ref (a 3)]))], [(a 0, .inr (7, [.ref (a 1), .ref (a 3), .ref (a 5), .ref (a 7), .ref (a 9), .int V.2.2.2.2.2]))], (wTb cI (a 1) (a 2) 44 4 11 V.1), (wTb cI (a 3) (a 4) 160 16 10 V.2.1), (wTb cI (a 5) (a 6) 16 8 2 V.2.2.1), (wTb cI (a 7) (a 8) 64 16 4 V.2.2.2.1), (wTb cI (a 9) (a 10) 5 5 1 V.2.2.2.2.1)], [(wTb cI (a 3) (a 4) 160 16 10 (V.2.1))], [(wTb cI (a 3) (a 4) 160 16 10 (N'))], [[(d, .inr (2, [.ref (a 0), .ref (a 1), .ref (a 3)]))], [(a 0, .inr (7, [.ref (a 1), .ref (a 3), .ref (a 5), .ref (a 7), .ref (a 9), .int ((V.1, N', V.2.2)).2.2.2.2.2]))], (wTb cI (a 1) (a 2) 44 4 11 ((V.1, N', V.2.2)).1), (wTb cI (a 3) (a 4) 160 16 10 ((V.1, N', V.2.2)).2.1), (wTb cI (a 5) (a 6) 16 8 2 ((V.1, N', V.2.2)).2.2.1), (wTb cI (a 7) (a 8) 64 16 4 ((V.1, N', V.2.2)).2.2.2.1), (wTb cI (a 9) (a 10) 5 5 1 ((V.1, N', V.2.2)).2.2.2.2.1)], [3], [0, 1, 2, 4, 5, 6], by simp only [wOl, wVn, List.flatten_cons, List.flatten_nil, List.append_assoc, List.append_nil, List.nil_append, List.cons_append], by simp only [List.flatten_cons, List.flatten_nil, List.append_assoc, List.append_nil, List.nil_append, List.cons_append], by simp only [List.flatten_cons, List.flatten_nil, List.append_assoc, List.append_nil, List.nil_append, List.cons_append], by simp only [wOl, wVn, List.flatten_cons, List.flatten_nil, List.append_assoc, List.append_nil, List.nil_append, List.cons_append], rfl, rfl, rfl, rfl, rfl⟩
theorem sr_Ol_bookings (cI : ClassId) (d : Nat) (a : Nat → Nat) (V : Vn) : Sg (wOl cI d a V) (wTb cI (a 3) (a 4) 160 16 10 (V.2.1)) (wTb cI (a 3) (a 4) 160 16 10 (V.2.1)) (wOl cI d a V) := ⟨[[(d, .inr (2, [.ref (a 0), .ref (a 1), .ref (a 3)]))], [(a 0, .inr (7, [.ref (a 1), .ref (a 3), .ref (a 5), .ref (a 7), .ref (a 9), .int V.2.2.2.2.2]))], (wTb cI (a 1) (a 2) 44 4 11 V.1), (wTb cI (a 3) (a 4) 160 16 10 V.2.1), (wTb cI (a 5) (a 6) 16 8 2 V.2.2.1), (wTb cI (a 7) (a 8) 64 16 4 V.2.2.2.1), (wTb cI (a 9) (a 10) 5 5 1 V.2.2.2.2.1)], [(wTb cI (a 3) (a 4) 160 16 10 (V.2.1))], [(wTb cI (a 3) (a 4) 160 16 10 (V.2.1))], [[(d, .inr (2, [.ref (a 0), .ref (a 1), .ref (a 3)]))], [(a 0, .inr (7, [.ref (a 1), .ref (a 3), .ref (a 5), .ref (a 7), .ref (a 9), .int V.2.2.2.2.2]))], (wTb cI (a 1) (a 2) 44 4 11 V.1), (wTb cI (a 3) (a 4) 160 16 10 V.2.1), (wTb cI (a 5) (a 6) 16 8 2 V.2.2.1), (wTb cI (a 7) (a 8) 64 16 4 V.2.2.2.1), (wTb cI (a 9) (a 10) 5 5 1 V.2.2.2.2.1)], [3], [0, 1, 2, 4, 5, 6], by simp only [wOl, wVn, List.flatten_cons, List.flatten_nil, List.append_assoc, List.append_nil, List.nil_append, List.cons_append], by simp only [List.flatten_cons, List.flatten_nil, List.append_assoc, List.append_nil, List.nil_append, List.cons_append], by simp only [List.flatten_cons, List.flatten_nil, List.append_assoc, List.append_nil, List.nil_append, List.cons_append], by simp only [wOl, wVn, List.flatten_cons, List.flatten_nil, List.append_assoc, List.append_nil, List.nil_append, List.cons_append], rfl, rfl, rfl, rfl, rfl⟩
theorem sg_Ol_vouchers (cI : ClassId) (d : Nat) (a : Nat → Nat) (V : Vn) (N' : Tb) : Sg (wOl cI d a V) (wTb cI (a 5) (a 6) 16 8 2 (V.2.2.1)) (wTb cI (a 5) (a 6) 16 8 2 N') (wOl cI d a ((V.1, V.2.1, N', V.2.2.2))) := ⟨[[(d, .inr (2, [.ref (a 0), .ref (a 1), .ref (a 3)]))], [(a 0, .inr (7, [.ref (a 1), .ref (a 3), .ref (a 5), .ref (a 7), .ref (a 9), .int V.2.2.2.2.2]))], (wTb cI (a 1) (a 2) 44 4 11 V.1), (wTb cI (a 3) (a 4) 160 16 10 V.2.1), (wTb cI (a 5) (a 6) 16 8 2 V.2.2.1), (wTb cI (a 7) (a 8) 64 16 4 V.2.2.2.1), (wTb cI (a 9) (a 10) 5 5 1 V.2.2.2.2.1)], [(wTb cI (a 5) (a 6) 16 8 2 (V.2.2.1))], [(wTb cI (a 5) (a 6) 16 8 2 (N'))], [[(d, .inr (2, [.ref (a 0), .ref (a 1), .ref (a 3)]))], [(a 0, .inr (7, [.ref (a 1), .ref (a 3), .ref (a 5), .ref (a 7), .ref (a 9), .int ((V.1, V.2.1, N', V.2.2.2)).2.2.2.2.2]))], (wTb cI (a 1) (a 2) 44 4 11 ((V.1, V.2.1, N', V.2.2.2)).1), (wTb cI (a 3) (a 4) 160 16 10 ((V.1, V.2.1, N', V.2.2.2)).2.1), (wTb cI (a 5) (a 6) 16 8 2 ((V.1, V.2.1, N', V.2.2.2)).2.2.1), (wTb cI (a 7) (a 8) 64 16 4 ((V.1, V.2.1, N', V.2.2.2)).2.2.2.1), (wTb cI (a 9) (a 10) 5 5 1 ((V.1, V.2.1, N', V.2.2.2)).2.2.2.2.1)], [4], [0, 1, 2, 3, 5, 6], by simp only [wOl, wVn, List.flatten_cons, List.flatten_nil, List.append_assoc, List.append_nil, List.nil_append, List.cons_append], by simp only [List.flatten_cons, List.flatten_nil, List.append_assoc, List.append_nil, List.nil_append, List.cons_append], by simp only [List.flatten_cons, List.flatten_nil, List.append_assoc, List.append_nil, List.nil_append, List.cons_append], by simp only [wOl, wVn, List.flatten_cons, List.flatten_nil, List.append_assoc, List.append_nil, List.nil_append, List.cons_append], rfl, rfl, rfl, rfl, rfl⟩
theorem sr_Ol_vouchers (cI : ClassId) (d : Nat) (a : Nat → Nat) (V : Vn) : Sg (wOl cI d a V) (wTb cI (a 5) (a 6) 16 8 2 (V.2.2.1)) (wTb cI (a 5) (a 6) 16 8 2 (V.2.2.1)) (wOl cI d a V) := ⟨[[(d, .inr (2, [.ref (a 0), .ref (a 1), .ref (a 3)]))], [(a 0, .inr (7, [.ref (a 1), .ref (a 3), .ref (a 5), .ref (a 7), .ref (a 9), .int V.2.2.2.2.2]))], (wTb cI (a 1) (a 2) 44 4 11 V.1), (wTb cI (a 3) (a 4) 160 16 10 V.2.1), (wTb cI (a 5) (a 6) 16 8 2 V.2.2.1), (wTb cI (a 7) (a 8) 64 16 4 V.2.2.2.1), (wTb cI (a 9) (a 10) 5 5 1 V.2.2.2.2.1)], [(wTb cI (a 5) (a 6) 16 8 2 (V.2.2.1))], [(wTb cI (a 5) (a 6) 16 8 2 (V.2.2.1))], [[(d, .inr (2, [.ref (a 0), .ref (a 1), .ref (a 3)]))], [(a 0, .inr (7, [.ref (a 1), .ref (a 3), .ref (a 5), .ref (a 7), .ref (a 9), .int V.2.2.2.2.2]))], (wTb cI (a 1) (a 2) 44 4 11 V.1), (wTb cI (a 3) (a 4) 160 16 10 V.2.1), (wTb cI (a 5) (a 6) 16 8 2 V.2.2.1), (wTb cI (a 7) (a 8) 64 16 4 V.2.2.2.1), (wTb cI (a 9) (a 10) 5 5 1 V.2.2.2.2.1)], [4], [0, 1, 2, 3, 5, 6], by simp only [wOl, wVn, List.flatten_cons, List.flatten_nil, List.append_assoc, List.append_nil, List.nil_append, List.cons_append], by simp only [List.flatten_cons, List.flatten_nil, List.append_assoc, List.append_nil, List.nil_append, List.cons_append], by simp only [List.flatten_cons, List.flatten_nil, List.append_assoc, List.append_nil, List.nil_append, List.cons_append], by simp only [wOl, wVn, List.flatten_cons, List.flatten_nil, List.append_assoc, List.append_nil, List.nil_append, List.cons_append], rfl, rfl, rfl, rfl, rfl⟩
theorem sg_Ol_payments (cI : ClassId) (d : Nat) (a : Nat → Nat) (V : Vn) (N' : Tb) : Sg (wOl cI d a V) (wTb cI (a 7) (a 8) 64 16 4 (V.2.2.2.1)) (wTb cI (a 7) (a 8) 64 16 4 N') (wOl cI d a ((V.1, V.2.1, V.2.2.1, N', V.2.2.2.2))) := ⟨[[(d, .inr (2, [.ref (a 0), .ref (a 1), .ref (a 3)]))], [(a 0, .inr (7, [.ref (a 1), .ref (a 3), .ref (a 5), .ref (a 7), .ref (a 9), .int V.2.2.2.2.2]))], (wTb cI (a 1) (a 2) 44 4 11 V.1), (wTb cI (a 3) (a 4) 160 16 10 V.2.1), (wTb cI (a 5) (a 6) 16 8 2 V.2.2.1), (wTb cI (a 7) (a 8) 64 16 4 V.2.2.2.1), (wTb cI (a 9) (a 10) 5 5 1 V.2.2.2.2.1)], [(wTb cI (a 7) (a 8) 64 16 4 (V.2.2.2.1))], [(wTb cI (a 7) (a 8) 64 16 4 (N'))], [[(d, .inr (2, [.ref (a 0), .ref (a 1), .ref (a 3)]))], [(a 0, .inr (7, [.ref (a 1), .ref (a 3), .ref (a 5), .ref (a 7), .ref (a 9), .int ((V.1, V.2.1, V.2.2.1, N', V.2.2.2.2)).2.2.2.2.2]))], (wTb cI (a 1) (a 2) 44 4 11 ((V.1, V.2.1, V.2.2.1, N', V.2.2.2.2)).1), (wTb cI (a 3) (a 4) 160 16 10 ((V.1, V.2.1, V.2.2.1, N', V.2.2.2.2)).2.1), (wTb cI (a 5) (a 6) 16 8 2 ((V.1, V.2.1, V.2.2.1, N', V.2.2.2.2)).2.2.1), (wTb cI (a 7) (a 8) 64 16 4 ((V.1, V.2.1, V.2.2.1, N', V.2.2.2.2)).2.2.2.1), (wTb cI (a 9) (a 10) 5 5 1 ((V.1, V.2.1, V.2.2.1, N', V.2.2.2.2)).2.2.2.2.1)], [5], [0, 1, 2, 3, 4, 6], by simp only [wOl, wVn, List.flatten_cons, List.flatten_nil, List.append_assoc, List.append_nil, List.nil_append, List.cons_append], by simp only [List.flatten_cons, List.flatten_nil, List.append_assoc, List.append_nil, List.nil_append, List.cons_append], by simp only [List.flatten_cons, List.flatten_nil, List.append_assoc, List.append_nil, List.nil_append, List.cons_append], by simp only [wOl, wVn, List.flatten_cons, List.flatten_nil, List.append_assoc, List.append_nil, List.nil_append, List.cons_append], rfl, rfl, rfl, rfl, rfl⟩
theorem sr_Ol_payments (cI : ClassId) (d : Nat) (a : Nat → Nat) (V : Vn) : Sg (wOl cI d a V) (wTb cI (a 7) (a 8) 64 16 4 (V.2.2.2.1)) (wTb cI (a 7) (a 8) 64 16 4 (V.2.2.2.1)) (wOl cI d a V) := ⟨[[(d, .inr (2, [.ref (a 0), .ref (a 1), .ref (a 3)]))], [(a 0, .inr (7, [.ref (a 1), .ref (a 3), .ref (a 5), .ref (a 7), .ref (a 9), .int V.2.2.2.2.2]))], (wTb cI (a 1) (a 2) 44 4 11 V.1), (wTb cI (a 3) (a 4) 160 16 10 V.2.1), (wTb cI (a 5) (a 6) 16 8 2 V.2.2.1), (wTb cI (a 7) (a 8) 64 16 4 V.2.2.2.1), (wTb cI (a 9) (a 10) 5 5 1 V.2.2.2.2.1)], [(wTb cI (a 7) (a 8) 64 16 4 (V.2.2.2.1))], [(wTb cI (a 7) (a 8) 64 16 4 (V.2.2.2.1))], [[(d, .inr (2, [.ref (a 0), .ref (a 1), .ref (a 3)]))], [(a 0, .inr (7, [.ref (a 1), .ref (a 3), .ref (a 5), .ref (a 7), .ref (a 9), .int V.2.2.2.2.2]))], (wTb cI (a 1) (a 2) 44 4 11 V.1), (wTb cI (a 3) (a 4) 160 16 10 V.2.1), (wTb cI (a 5) (a 6) 16 8 2 V.2.2.1), (wTb cI (a 7) (a 8) 64 16 4 V.2.2.2.1), (wTb cI (a 9) (a 10) 5 5 1 V.2.2.2.2.1)], [5], [0, 1, 2, 3, 4, 6], by simp only [wOl, wVn, List.flatten_cons, List.flatten_nil, List.append_assoc, List.append_nil, List.nil_append, List.cons_append], by simp only [List.flatten_cons, List.flatten_nil, List.append_assoc, List.append_nil, List.nil_append, List.cons_append], by simp only [List.flatten_cons, List.flatten_nil, List.append_assoc, List.append_nil, List.nil_append, List.cons_append], by simp only [wOl, wVn, List.flatten_cons, List.flatten_nil, List.append_assoc, List.append_nil, List.nil_append, List.cons_append], rfl, rfl, rfl, rfl, rfl⟩
theorem sg_Ol_settings (cI : ClassId) (d : Nat) (a : Nat → Nat) (V : Vn) (N' : Tb) : Sg (wOl cI d a V) (wTb cI (a 9) (a 10) 5 5 1 (V.2.2.2.2.1)) (wTb cI (a 9) (a 10) 5 5 1 N') (wOl cI d a ((V.1, V.2.1, V.2.2.1, V.2.2.2.1, N', V.2.2.2.2.2))) := ⟨[[(d, .inr (2, [.ref (a 0), .ref (a 1), .ref (a 3)]))], [(a 0, .inr (7, [.ref (a 1), .ref (a 3), .ref (a 5), .ref (a 7), .ref (a 9), .int V.2.2.2.2.2]))], (wTb cI (a 1) (a 2) 44 4 11 V.1), (wTb cI (a 3) (a 4) 160 16 10 V.2.1), (wTb cI (a 5) (a 6) 16 8 2 V.2.2.1), (wTb cI (a 7) (a 8) 64 16 4 V.2.2.2.1), (wTb cI (a 9) (a 10) 5 5 1 V.2.2.2.2.1)], [(wTb cI (a 9) (a 10) 5 5 1 (V.2.2.2.2.1))], [(wTb cI (a 9) (a 10) 5 5 1 (N'))], [[(d, .inr (2, [.ref (a 0), .ref (a 1), .ref (a 3)]))], [(a 0, .inr (7, [.ref (a 1), .ref (a 3), .ref (a 5), .ref (a 7), .ref (a 9), .int ((V.1, V.2.1, V.2.2.1, V.2.2.2.1, N', V.2.2.2.2.2)).2.2.2.2.2]))], (wTb cI (a 1) (a 2) 44 4 11 ((V.1, V.2.1, V.2.2.1, V.2.2.2.1, N', V.2.2.2.2.2)).1), (wTb cI (a 3) (a 4) 160 16 10 ((V.1, V.2.1, V.2.2.1, V.2.2.2.1, N', V.2.2.2.2.2)).2.1), (wTb cI (a 5) (a 6) 16 8 2 ((V.1, V.2.1, V.2.2.1, V.2.2.2.1, N', V.2.2.2.2.2)).2.2.1), (wTb cI (a 7) (a 8) 64 16 4 ((V.1, V.2.1, V.2.2.1, V.2.2.2.1, N', V.2.2.2.2.2)).2.2.2.1), (wTb cI (a 9) (a 10) 5 5 1 ((V.1, V.2.1, V.2.2.1, V.2.2.2.1, N', V.2.2.2.2.2)).2.2.2.2.1)], [6], [0, 1, 2, 3, 4, 5], by simp only [wOl, wVn, List.flatten_cons, List.flatten_nil, List.append_assoc, List.append_nil, List.nil_append, List.cons_append], by simp only [List.flatten_cons, List.flatten_nil, List.append_assoc, List.append_nil, List.nil_append, List.cons_append], by simp only [List.flatten_cons, List.flatten_nil, List.append_assoc, List.append_nil, List.nil_append, List.cons_append], by simp only [wOl, wVn, List.flatten_cons, List.flatten_nil, List.append_assoc, List.append_nil, List.nil_append, List.cons_append], rfl, rfl, rfl, rfl, rfl⟩
theorem sr_Ol_settings (cI : ClassId) (d : Nat) (a : Nat → Nat) (V : Vn) : Sg (wOl cI d a V) (wTb cI (a 9) (a 10) 5 5 1 (V.2.2.2.2.1)) (wTb cI (a 9) (a 10) 5 5 1 (V.2.2.2.2.1)) (wOl cI d a V) := ⟨[[(d, .inr (2, [.ref (a 0), .ref (a 1), .ref (a 3)]))], [(a 0, .inr (7, [.ref (a 1), .ref (a 3), .ref (a 5), .ref (a 7), .ref (a 9), .int V.2.2.2.2.2]))], (wTb cI (a 1) (a 2) 44 4 11 V.1), (wTb cI (a 3) (a 4) 160 16 10 V.2.1), (wTb cI (a 5) (a 6) 16 8 2 V.2.2.1), (wTb cI (a 7) (a 8) 64 16 4 V.2.2.2.1), (wTb cI (a 9) (a 10) 5 5 1 V.2.2.2.2.1)], [(wTb cI (a 9) (a 10) 5 5 1 (V.2.2.2.2.1))], [(wTb cI (a 9) (a 10) 5 5 1 (V.2.2.2.2.1))], [[(d, .inr (2, [.ref (a 0), .ref (a 1), .ref (a 3)]))], [(a 0, .inr (7, [.ref (a 1), .ref (a 3), .ref (a 5), .ref (a 7), .ref (a 9), .int V.2.2.2.2.2]))], (wTb cI (a 1) (a 2) 44 4 11 V.1), (wTb cI (a 3) (a 4) 160 16 10 V.2.1), (wTb cI (a 5) (a 6) 16 8 2 V.2.2.1), (wTb cI (a 7) (a 8) 64 16 4 V.2.2.2.1), (wTb cI (a 9) (a 10) 5 5 1 V.2.2.2.2.1)], [6], [0, 1, 2, 3, 4, 5], by simp only [wOl, wVn, List.flatten_cons, List.flatten_nil, List.append_assoc, List.append_nil, List.nil_append, List.cons_append], by simp only [List.flatten_cons, List.flatten_nil, List.append_assoc, List.append_nil, List.nil_append, List.cons_append], by simp only [List.flatten_cons, List.flatten_nil, List.append_assoc, List.append_nil, List.nil_append, List.cons_append], by simp only [wOl, wVn, List.flatten_cons, List.flatten_nil, List.append_assoc, List.append_nil, List.nil_append, List.cons_append], rfl, rfl, rfl, rfl, rfl⟩
theorem sg_Ol_Ol (cI : ClassId) (d : Nat) (a : Nat → Nat) (V : Vn) (N' : Vn) : Sg (wOl cI d a V) (wOl cI d a V) (wOl cI d a N') (wOl cI d a (N')) := sg_all
theorem sr_Ol_Ol (cI : ClassId) (d : Nat) (a : Nat → Nat) (V : Vn) : Sg (wOl cI d a V) (wOl cI d a V) (wOl cI d a V) (wOl cI d a V) := sg_all
theorem sg_Ol_Vn (cI : ClassId) (d : Nat) (a : Nat → Nat) (V : Vn) (N' : Vn) : Sg (wOl cI d a V) (wVn cI a V) (wVn cI a N') (wOl cI d a (N')) := ⟨[[(d, .inr (2, [.ref (a 0), .ref (a 1), .ref (a 3)]))], (wVn cI a V)], [(wVn cI a V)], [(wVn cI a ((N')))], [[(d, .inr (2, [.ref (a 0), .ref (a 1), .ref (a 3)]))], (wVn cI a ((N')))], [1], [0], by simp only [wOl, List.flatten_cons, List.flatten_nil, List.append_assoc, List.append_nil, List.nil_append, List.cons_append], by simp only [List.flatten_cons, List.flatten_nil, List.append_assoc, List.append_nil, List.nil_append, List.cons_append], by simp only [List.flatten_cons, List.flatten_nil, List.append_assoc, List.append_nil, List.nil_append, List.cons_append], by simp only [wOl, List.flatten_cons, List.flatten_nil, List.append_assoc, List.append_nil, List.nil_append, List.cons_append], rfl, rfl, rfl, rfl, rfl⟩
theorem sr_Ol_Vn (cI : ClassId) (d : Nat) (a : Nat → Nat) (V : Vn) : Sg (wOl cI d a V) (wVn cI a V) (wVn cI a V) (wOl cI d a V) := ⟨[[(d, .inr (2, [.ref (a 0), .ref (a 1), .ref (a 3)]))], (wVn cI a V)], [(wVn cI a V)], [(wVn cI a V)], [[(d, .inr (2, [.ref (a 0), .ref (a 1), .ref (a 3)]))], (wVn cI a V)], [1], [0], by simp only [wOl, List.flatten_cons, List.flatten_nil, List.append_assoc, List.append_nil, List.nil_append, List.cons_append], by simp only [List.flatten_cons, List.flatten_nil, List.append_assoc, List.append_nil, List.nil_append, List.cons_append], by simp only [List.flatten_cons, List.flatten_nil, List.append_assoc, List.append_nil, List.nil_append, List.cons_append], by simp only [wOl, List.flatten_cons, List.flatten_nil, List.append_assoc, List.append_nil, List.nil_append, List.cons_append], rfl, rfl, rfl, rfl, rfl⟩
theorem sg_Pg_Pg (cI : ClassId) (q : Nat → Nat) (P : Pg) (N' : Pg) : Sg (wPg cI q P) (wPg cI q P) (wPg cI q N') (wPg cI q (N')) := sg_all
theorem sr_Pg_Pg (cI : ClassId) (q : Nat → Nat) (P : Pg) : Sg (wPg cI q P) (wPg cI q P) (wPg cI q P) (wPg cI q P) := sg_all
theorem sg_Pd_Pg (cI : ClassId) (q : Nat → Nat) (d : Nat) (a : Nat → Nat) (N : Pg × Vn) (N' : Pg) : Sg (wPd cI q d a N) (wPg cI q (N.1)) (wPg cI q N') (wPd cI q d a ((N', N.2))) := ⟨[(wPg cI q (N.1)), [(d, .inr (0, [.ref (a 0), .ref (a 1), .ref (a 3), .ref (a 5), .ref (a 7)]))], (wVn cI a ((N.2)))], [(wPg cI q (N.1))], [(wPg cI q (N'))], [(wPg cI q (((N', N.2)).1)), [(d, .inr (0, [.ref (a 0), .ref (a 1), .ref (a 3), .ref (a 5), .ref (a 7)]))], (wVn cI a ((((N', N.2)).2)))], [0], [1, 2], by simp only [wPd, wDk, List.flatten_cons, List.flatten_nil, List.append_assoc, List.append_nil, List.nil_append, List.cons_append], by simp only [List.flatten_cons, List.flatten_nil, List.append_assoc, List.append_nil, List.nil_append, List.cons_append], by simp only [List.flatten_cons, List.flatten_nil, List.append_assoc, List.append_nil, List.nil_append, List.cons_append], by simp only [wPd, wDk, List.flatten_cons, List.flatten_nil, List.append_assoc, List.append_nil, List.nil_append, List.cons_append], rfl, rfl, rfl, rfl, rfl⟩
theorem sr_Pd_Pg (cI : ClassId) (q : Nat → Nat) (d : Nat) (a : Nat → Nat) (N : Pg × Vn) : Sg (wPd cI q d a N) (wPg cI q (N.1)) (wPg cI q (N.1)) (wPd cI q d a N) := ⟨[(wPg cI q (N.1)), [(d, .inr (0, [.ref (a 0), .ref (a 1), .ref (a 3), .ref (a 5), .ref (a 7)]))], (wVn cI a ((N.2)))], [(wPg cI q (N.1))], [(wPg cI q (N.1))], [(wPg cI q (N.1)), [(d, .inr (0, [.ref (a 0), .ref (a 1), .ref (a 3), .ref (a 5), .ref (a 7)]))], (wVn cI a ((N.2)))], [0], [1, 2], by simp only [wPd, wDk, List.flatten_cons, List.flatten_nil, List.append_assoc, List.append_nil, List.nil_append, List.cons_append], by simp only [List.flatten_cons, List.flatten_nil, List.append_assoc, List.append_nil, List.nil_append, List.cons_append], by simp only [List.flatten_cons, List.flatten_nil, List.append_assoc, List.append_nil, List.nil_append, List.cons_append], by simp only [wPd, wDk, List.flatten_cons, List.flatten_nil, List.append_assoc, List.append_nil, List.nil_append, List.cons_append], rfl, rfl, rfl, rfl, rfl⟩
theorem sg_Pd_Dk (cI : ClassId) (q : Nat → Nat) (d : Nat) (a : Nat → Nat) (N : Pg × Vn) (N' : Vn) : Sg (wPd cI q d a N) (wDk cI d a (N.2)) (wDk cI d a N') (wPd cI q d a ((N.1, N'))) := ⟨[(wPg cI q (N.1)), [(d, .inr (0, [.ref (a 0), .ref (a 1), .ref (a 3), .ref (a 5), .ref (a 7)]))], (wVn cI a ((N.2)))], [[(d, .inr (0, [.ref (a 0), .ref (a 1), .ref (a 3), .ref (a 5), .ref (a 7)]))], (wVn cI a ((N.2)))], [[(d, .inr (0, [.ref (a 0), .ref (a 1), .ref (a 3), .ref (a 5), .ref (a 7)]))], (wVn cI a ((N')))], [(wPg cI q (((N.1, N')).1)), [(d, .inr (0, [.ref (a 0), .ref (a 1), .ref (a 3), .ref (a 5), .ref (a 7)]))], (wVn cI a ((((N.1, N')).2)))], [1, 2], [0], by simp only [wPd, wDk, List.flatten_cons, List.flatten_nil, List.append_assoc, List.append_nil, List.nil_append, List.cons_append], by simp only [wDk, List.flatten_cons, List.flatten_nil, List.append_assoc, List.append_nil, List.nil_append, List.cons_append], by simp only [wDk, List.flatten_cons, List.flatten_nil, List.append_assoc, List.append_nil, List.nil_append, List.cons_append], by simp only [wPd, wDk, List.flatten_cons, List.flatten_nil, List.append_assoc, List.append_nil, List.nil_append, List.cons_append], rfl, rfl, rfl, rfl, rfl⟩
theorem sr_Pd_Dk (cI : ClassId) (q : Nat → Nat) (d : Nat) (a : Nat → Nat) (N : Pg × Vn) : Sg (wPd cI q d a N) (wDk cI d a (N.2)) (wDk cI d a (N.2)) (wPd cI q d a N) := ⟨[(wPg cI q (N.1)), [(d, .inr (0, [.ref (a 0), .ref (a 1), .ref (a 3), .ref (a 5), .ref (a 7)]))], (wVn cI a ((N.2)))], [[(d, .inr (0, [.ref (a 0), .ref (a 1), .ref (a 3), .ref (a 5), .ref (a 7)]))], (wVn cI a ((N.2)))], [[(d, .inr (0, [.ref (a 0), .ref (a 1), .ref (a 3), .ref (a 5), .ref (a 7)]))], (wVn cI a ((N.2)))], [(wPg cI q (N.1)), [(d, .inr (0, [.ref (a 0), .ref (a 1), .ref (a 3), .ref (a 5), .ref (a 7)]))], (wVn cI a ((N.2)))], [1, 2], [0], by simp only [wPd, wDk, List.flatten_cons, List.flatten_nil, List.append_assoc, List.append_nil, List.nil_append, List.cons_append], by simp only [wDk, List.flatten_cons, List.flatten_nil, List.append_assoc, List.append_nil, List.nil_append, List.cons_append], by simp only [wDk, List.flatten_cons, List.flatten_nil, List.append_assoc, List.append_nil, List.nil_append, List.cons_append], by simp only [wPd, wDk, List.flatten_cons, List.flatten_nil, List.append_assoc, List.append_nil, List.nil_append, List.cons_append], rfl, rfl, rfl, rfl, rfl⟩
theorem sg_Pd_Pd (cI : ClassId) (q : Nat → Nat) (d : Nat) (a : Nat → Nat) (N : Pg × Vn) (N' : Pg × Vn) : Sg (wPd cI q d a N) (wPd cI q d a N) (wPd cI q d a N') (wPd cI q d a (N')) := sg_all
theorem sr_Pd_Pd (cI : ClassId) (q : Nat → Nat) (d : Nat) (a : Nat → Nat) (N : Pg × Vn) : Sg (wPd cI q d a N) (wPd cI q d a N) (wPd cI q d a N) (wPd cI q d a N) := sg_all
theorem sg_Md_Md (cI : ClassId) (b : Nat → Nat) (M : Md) (N' : Md) : Sg (wMd cI b M) (wMd cI b M) (wMd cI b N') (wMd cI b (N')) := sg_all
theorem sr_Md_Md (cI : ClassId) (b : Nat → Nat) (M : Md) : Sg (wMd cI b M) (wMd cI b M) (wMd cI b M) (wMd cI b M) := sg_all
theorem sg_VV_rooms (cI : ClassId) (a a2 : Nat → Nat) (N : Vn × Vn) (N' : Tb × Tb) : Sg (wVV cI a a2 N) (wTT cI (a 1) (a 2) (a2 1) (a2 2) 44 4 11 ((N.1.1, N.2.1))) (wTT cI (a 1) (a 2) (a2 1) (a2 2) 44 4 11 N') (wVV cI a a2 (((N'.1, N.1.2), (N'.2, N.2.2)))) := ⟨[[(a 0, .inr (7, [.ref (a 1), .ref (a 3), .ref (a 5), .ref (a 7), .ref (a 9), .int N.1.2.2.2.2.2]))], (wTb cI (a 1) (a 2) 44 4 11 N.1.1), (wTb cI (a 3) (a 4) 160 16 10 N.1.2.1), (wTb cI (a 5) (a 6) 16 8 2 N.1.2.2.1), (wTb cI (a 7) (a 8) 64 16 4 N.1.2.2.2.1), (wTb cI (a 9) (a 10) 5 5 1 N.1.2.2.2.2.1), [(a2 0, .inr (7, [.ref (a2 1), .ref (a2 3), .ref (a2 5), .ref (a2 7), .ref (a2 9), .int N.2.2.2.2.2.2]))], (wTb cI (a2 1) (a2 2) 44 4 11 N.2.1), (wTb cI (a2 3) (a2 4) 160 16 10 N.2.2.1), (wTb cI (a2 5) (a2 6) 16 8 2 N.2.2.2.1), (wTb cI (a2 7) (a2 8) 64 16 4 N.2.2.2.2.1), (wTb cI (a2 9) (a2 10) 5 5 1 N.2.2.2.2.2.1)], [(wTb cI (a 1) (a 2) 44 4 11 ((N.1.1, N.2.1)).1), (wTb cI (a2 1) (a2 2) 44 4 11 ((N.1.1, N.2.1)).2)], [(wTb cI (a 1) (a 2) 44 4 11 (N').1), (wTb cI (a2 1) (a2 2) 44 4 11 (N').2)], [[(a 0, .inr (7, [.ref (a 1), .ref (a 3), .ref (a 5), .ref (a 7), .ref (a 9), .int (((N'.1, N.1.2), (N'.2, N.2.2))).1.2.2.2.2.2]))], (wTb cI (a 1) (a 2) 44 4 11 (((N'.1, N.1.2), (N'.2, N.2.2))).1.1), (wTb cI (a 3) (a 4) 160 16 10 (((N'.1, N.1.2), (N'.2, N.2.2))).1.2.1), (wTb cI (a 5) (a 6) 16 8 2 (((N'.1, N.1.2), (N'.2, N.2.2))).1.2.2.1), (wTb cI (a 7) (a 8) 64 16 4 (((N'.1, N.1.2), (N'.2, N.2.2))).1.2.2.2.1), (wTb cI (a 9) (a 10) 5 5 1 (((N'.1, N.1.2), (N'.2, N.2.2))).1.2.2.2.2.1), [(a2 0, .inr (7, [.ref (a2 1), .ref (a2 3), .ref (a2 5), .ref (a2 7), .ref (a2 9), .int (((N'.1, N.1.2), (N'.2, N.2.2))).2.2.2.2.2.2]))], (wTb cI (a2 1) (a2 2) 44 4 11 (((N'.1, N.1.2), (N'.2, N.2.2))).2.1), (wTb cI (a2 3) (a2 4) 160 16 10 (((N'.1, N.1.2), (N'.2, N.2.2))).2.2.1), (wTb cI (a2 5) (a2 6) 16 8 2 (((N'.1, N.1.2), (N'.2, N.2.2))).2.2.2.1), (wTb cI (a2 7) (a2 8) 64 16 4 (((N'.1, N.1.2), (N'.2, N.2.2))).2.2.2.2.1), (wTb cI (a2 9) (a2 10) 5 5 1 (((N'.1, N.1.2), (N'.2, N.2.2))).2.2.2.2.2.1)], [1, 7], [0, 2, 3, 4, 5, 6, 8, 9, 10, 11], by simp only [wVV, wVn, List.flatten_cons, List.flatten_nil, List.append_assoc, List.append_nil, List.nil_append, List.cons_append], by simp only [wTT, List.flatten_cons, List.flatten_nil, List.append_assoc, List.append_nil, List.nil_append, List.cons_append], by simp only [wTT, List.flatten_cons, List.flatten_nil, List.append_assoc, List.append_nil, List.nil_append, List.cons_append], by simp only [wVV, wVn, List.flatten_cons, List.flatten_nil, List.append_assoc, List.append_nil, List.nil_append, List.cons_append], rfl, rfl, rfl, rfl, rfl⟩
theorem sr_VV_rooms (cI : ClassId) (a a2 : Nat → Nat) (N : Vn × Vn) : Sg (wVV cI a a2 N) (wTT cI (a 1) (a 2) (a2 1) (a2 2) 44 4 11 ((N.1.1, N.2.1))) (wTT cI (a 1) (a 2) (a2 1) (a2 2) 44 4 11 ((N.1.1, N.2.1))) (wVV cI a a2 N) := ⟨[[(a 0, .inr (7, [.ref (a 1), .ref (a 3), .ref (a 5), .ref (a 7), .ref (a 9), .int N.1.2.2.2.2.2]))], (wTb cI (a 1) (a 2) 44 4 11 N.1.1), (wTb cI (a 3) (a 4) 160 16 10 N.1.2.1), (wTb cI (a 5) (a 6) 16 8 2 N.1.2.2.1), (wTb cI (a 7) (a 8) 64 16 4 N.1.2.2.2.1), (wTb cI (a 9) (a 10) 5 5 1 N.1.2.2.2.2.1), [(a2 0, .inr (7, [.ref (a2 1), .ref (a2 3), .ref (a2 5), .ref (a2 7), .ref (a2 9), .int N.2.2.2.2.2.2]))], (wTb cI (a2 1) (a2 2) 44 4 11 N.2.1), (wTb cI (a2 3) (a2 4) 160 16 10 N.2.2.1), (wTb cI (a2 5) (a2 6) 16 8 2 N.2.2.2.1), (wTb cI (a2 7) (a2 8) 64 16 4 N.2.2.2.2.1), (wTb cI (a2 9) (a2 10) 5 5 1 N.2.2.2.2.2.1)], [(wTb cI (a 1) (a 2) 44 4 11 ((N.1.1, N.2.1)).1), (wTb cI (a2 1) (a2 2) 44 4 11 ((N.1.1, N.2.1)).2)], [(wTb cI (a 1) (a 2) 44 4 11 ((N.1.1, N.2.1)).1), (wTb cI (a2 1) (a2 2) 44 4 11 ((N.1.1, N.2.1)).2)], [[(a 0, .inr (7, [.ref (a 1), .ref (a 3), .ref (a 5), .ref (a 7), .ref (a 9), .int N.1.2.2.2.2.2]))], (wTb cI (a 1) (a 2) 44 4 11 N.1.1), (wTb cI (a 3) (a 4) 160 16 10 N.1.2.1), (wTb cI (a 5) (a 6) 16 8 2 N.1.2.2.1), (wTb cI (a 7) (a 8) 64 16 4 N.1.2.2.2.1), (wTb cI (a 9) (a 10) 5 5 1 N.1.2.2.2.2.1), [(a2 0, .inr (7, [.ref (a2 1), .ref (a2 3), .ref (a2 5), .ref (a2 7), .ref (a2 9), .int N.2.2.2.2.2.2]))], (wTb cI (a2 1) (a2 2) 44 4 11 N.2.1), (wTb cI (a2 3) (a2 4) 160 16 10 N.2.2.1), (wTb cI (a2 5) (a2 6) 16 8 2 N.2.2.2.1), (wTb cI (a2 7) (a2 8) 64 16 4 N.2.2.2.2.1), (wTb cI (a2 9) (a2 10) 5 5 1 N.2.2.2.2.2.1)], [1, 7], [0, 2, 3, 4, 5, 6, 8, 9, 10, 11], by simp only [wVV, wVn, List.flatten_cons, List.flatten_nil, List.append_assoc, List.append_nil, List.nil_append, List.cons_append], by simp only [wTT, List.flatten_cons, List.flatten_nil, List.append_assoc, List.append_nil, List.nil_append, List.cons_append], by simp only [wTT, List.flatten_cons, List.flatten_nil, List.append_assoc, List.append_nil, List.nil_append, List.cons_append], by simp only [wVV, wVn, List.flatten_cons, List.flatten_nil, List.append_assoc, List.append_nil, List.nil_append, List.cons_append], rfl, rfl, rfl, rfl, rfl⟩
theorem sg_VV_bookings (cI : ClassId) (a a2 : Nat → Nat) (N : Vn × Vn) (N' : Tb × Tb) : Sg (wVV cI a a2 N) (wTT cI (a 3) (a 4) (a2 3) (a2 4) 160 16 10 ((N.1.2.1, N.2.2.1))) (wTT cI (a 3) (a 4) (a2 3) (a2 4) 160 16 10 N') (wVV cI a a2 (((N.1.1, N'.1, N.1.2.2), (N.2.1, N'.2, N.2.2.2)))) := ⟨[[(a 0, .inr (7, [.ref (a 1), .ref (a 3), .ref (a 5), .ref (a 7), .ref (a 9), .int N.1.2.2.2.2.2]))], (wTb cI (a 1) (a 2) 44 4 11 N.1.1), (wTb cI (a 3) (a 4) 160 16 10 N.1.2.1), (wTb cI (a 5) (a 6) 16 8 2 N.1.2.2.1), (wTb cI (a 7) (a 8) 64 16 4 N.1.2.2.2.1), (wTb cI (a 9) (a 10) 5 5 1 N.1.2.2.2.2.1), [(a2 0, .inr (7, [.ref (a2 1), .ref (a2 3), .ref (a2 5), .ref (a2 7), .ref (a2 9), .int N.2.2.2.2.2.2]))], (wTb cI (a2 1) (a2 2) 44 4 11 N.2.1), (wTb cI (a2 3) (a2 4) 160 16 10 N.2.2.1), (wTb cI (a2 5) (a2 6) 16 8 2 N.2.2.2.1), (wTb cI (a2 7) (a2 8) 64 16 4 N.2.2.2.2.1), (wTb cI (a2 9) (a2 10) 5 5 1 N.2.2.2.2.2.1)], [(wTb cI (a 3) (a 4) 160 16 10 ((N.1.2.1, N.2.2.1)).1), (wTb cI (a2 3) (a2 4) 160 16 10 ((N.1.2.1, N.2.2.1)).2)], [(wTb cI (a 3) (a 4) 160 16 10 (N').1), (wTb cI (a2 3) (a2 4) 160 16 10 (N').2)], [[(a 0, .inr (7, [.ref (a 1), .ref (a 3), .ref (a 5), .ref (a 7), .ref (a 9), .int (((N.1.1, N'.1, N.1.2.2), (N.2.1, N'.2, N.2.2.2))).1.2.2.2.2.2]))], (wTb cI (a 1) (a 2) 44 4 11 (((N.1.1, N'.1, N.1.2.2), (N.2.1, N'.2, N.2.2.2))).1.1), (wTb cI (a 3) (a 4) 160 16 10 (((N.1.1, N'.1, N.1.2.2), (N.2.1, N'.2, N.2.2.2))).1.2.1), (wTb cI (a 5) (a 6) 16 8 2 (((N.1.1, N'.1, N.1.2.2), (N.2.1, N'.2, N.2.2.2))).1.2.2.1), (wTb cI (a 7) (a 8) 64 16 4 (((N.1.1, N'.1, N.1.2.2), (N.2.1, N'.2, N.2.2.2))).1.2.2.2.1), (wTb cI (a 9) (a 10) 5 5 1 (((N.1.1, N'.1, N.1.2.2), (N.2.1, N'.2, N.2.2.2))).1.2.2.2.2.1), [(a2 0, .inr (7, [.ref (a2 1), .ref (a2 3), .ref (a2 5), .ref (a2 7), .ref (a2 9), .int (((N.1.1, N'.1, N.1.2.2), (N.2.1, N'.2, N.2.2.2))).2.2.2.2.2.2]))], (wTb cI (a2 1) (a2 2) 44 4 11 (((N.1.1, N'.1, N.1.2.2), (N.2.1, N'.2, N.2.2.2))).2.1), (wTb cI (a2 3) (a2 4) 160 16 10 (((N.1.1, N'.1, N.1.2.2), (N.2.1, N'.2, N.2.2.2))).2.2.1), (wTb cI (a2 5) (a2 6) 16 8 2 (((N.1.1, N'.1, N.1.2.2), (N.2.1, N'.2, N.2.2.2))).2.2.2.1), (wTb cI (a2 7) (a2 8) 64 16 4 (((N.1.1, N'.1, N.1.2.2), (N.2.1, N'.2, N.2.2.2))).2.2.2.2.1), (wTb cI (a2 9) (a2 10) 5 5 1 (((N.1.1, N'.1, N.1.2.2), (N.2.1, N'.2, N.2.2.2))).2.2.2.2.2.1)], [2, 8], [0, 1, 3, 4, 5, 6, 7, 9, 10, 11], by simp only [wVV, wVn, List.flatten_cons, List.flatten_nil, List.append_assoc, List.append_nil, List.nil_append, List.cons_append], by simp only [wTT, List.flatten_cons, List.flatten_nil, List.append_assoc, List.append_nil, List.nil_append, List.cons_append], by simp only [wTT, List.flatten_cons, List.flatten_nil, List.append_assoc, List.append_nil, List.nil_append, List.cons_append], by simp only [wVV, wVn, List.flatten_cons, List.flatten_nil, List.append_assoc, List.append_nil, List.nil_append, List.cons_append], rfl, rfl, rfl, rfl, rfl⟩
theorem sr_VV_bookings (cI : ClassId) (a a2 : Nat → Nat) (N : Vn × Vn) : Sg (wVV cI a a2 N) (wTT cI (a 3) (a 4) (a2 3) (a2 4) 160 16 10 ((N.1.2.1, N.2.2.1))) (wTT cI (a 3) (a 4) (a2 3) (a2 4) 160 16 10 ((N.1.2.1, N.2.2.1))) (wVV cI a a2 N) := ⟨[[(a 0, .inr (7, [.ref (a 1), .ref (a 3), .ref (a 5), .ref (a 7), .ref (a 9), .int N.1.2.2.2.2.2]))], (wTb cI (a 1) (a 2) 44 4 11 N.1.1), (wTb cI (a 3) (a 4) 160 16 10 N.1.2.1), (wTb cI (a 5) (a 6) 16 8 2 N.1.2.2.1), (wTb cI (a 7) (a 8) 64 16 4 N.1.2.2.2.1), (wTb cI (a 9) (a 10) 5 5 1 N.1.2.2.2.2.1), [(a2 0, .inr (7, [.ref (a2 1), .ref (a2 3), .ref (a2 5), .ref (a2 7), .ref (a2 9), .int N.2.2.2.2.2.2]))], (wTb cI (a2 1) (a2 2) 44 4 11 N.2.1), (wTb cI (a2 3) (a2 4) 160 16 10 N.2.2.1), (wTb cI (a2 5) (a2 6) 16 8 2 N.2.2.2.1), (wTb cI (a2 7) (a2 8) 64 16 4 N.2.2.2.2.1), (wTb cI (a2 9) (a2 10) 5 5 1 N.2.2.2.2.2.1)], [(wTb cI (a 3) (a 4) 160 16 10 ((N.1.2.1, N.2.2.1)).1), (wTb cI (a2 3) (a2 4) 160 16 10 ((N.1.2.1, N.2.2.1)).2)], [(wTb cI (a 3) (a 4) 160 16 10 ((N.1.2.1, N.2.2.1)).1), (wTb cI (a2 3) (a2 4) 160 16 10 ((N.1.2.1, N.2.2.1)).2)], [[(a 0, .inr (7, [.ref (a 1), .ref (a 3), .ref (a 5), .ref (a 7), .ref (a 9), .int N.1.2.2.2.2.2]))], (wTb cI (a 1) (a 2) 44 4 11 N.1.1), (wTb cI (a 3) (a 4) 160 16 10 N.1.2.1), (wTb cI (a 5) (a 6) 16 8 2 N.1.2.2.1), (wTb cI (a 7) (a 8) 64 16 4 N.1.2.2.2.1), (wTb cI (a 9) (a 10) 5 5 1 N.1.2.2.2.2.1), [(a2 0, .inr (7, [.ref (a2 1), .ref (a2 3), .ref (a2 5), .ref (a2 7), .ref (a2 9), .int N.2.2.2.2.2.2]))], (wTb cI (a2 1) (a2 2) 44 4 11 N.2.1), (wTb cI (a2 3) (a2 4) 160 16 10 N.2.2.1), (wTb cI (a2 5) (a2 6) 16 8 2 N.2.2.2.1), (wTb cI (a2 7) (a2 8) 64 16 4 N.2.2.2.2.1), (wTb cI (a2 9) (a2 10) 5 5 1 N.2.2.2.2.2.1)], [2, 8], [0, 1, 3, 4, 5, 6, 7, 9, 10, 11], by simp only [wVV, wVn, List.flatten_cons, List.flatten_nil, List.append_assoc, List.append_nil, List.nil_append, List.cons_append], by simp only [wTT, List.flatten_cons, List.flatten_nil, List.append_assoc, List.append_nil, List.nil_append, List.cons_append], by simp only [wTT, List.flatten_cons, List.flatten_nil, List.append_assoc, List.append_nil, List.nil_append, List.cons_append], by simp only [wVV, wVn, List.flatten_cons, List.flatten_nil, List.append_assoc, List.append_nil, List.nil_append, List.cons_append], rfl, rfl, rfl, rfl, rfl⟩
theorem sg_VV_vouchers (cI : ClassId) (a a2 : Nat → Nat) (N : Vn × Vn) (N' : Tb × Tb) : Sg (wVV cI a a2 N) (wTT cI (a 5) (a 6) (a2 5) (a2 6) 16 8 2 ((N.1.2.2.1, N.2.2.2.1))) (wTT cI (a 5) (a 6) (a2 5) (a2 6) 16 8 2 N') (wVV cI a a2 (((N.1.1, N.1.2.1, N'.1, N.1.2.2.2), (N.2.1, N.2.2.1, N'.2, N.2.2.2.2)))) := ⟨[[(a 0, .inr (7, [.ref (a 1), .ref (a 3), .ref (a 5), .ref (a 7), .ref (a 9), .int N.1.2.2.2.2.2]))], (wTb cI (a 1) (a 2) 44 4 11 N.1.1), (wTb cI (a 3) (a 4) 160 16 10 N.1.2.1), (wTb cI (a 5) (a 6) 16 8 2 N.1.2.2.1), (wTb cI (a 7) (a 8) 64 16 4 N.1.2.2.2.1), (wTb cI (a 9) (a 10) 5 5 1 N.1.2.2.2.2.1), [(a2 0, .inr (7, [.ref (a2 1), .ref (a2 3), .ref (a2 5), .ref (a2 7), .ref (a2 9), .int N.2.2.2.2.2.2]))], (wTb cI (a2 1) (a2 2) 44 4 11 N.2.1), (wTb cI (a2 3) (a2 4) 160 16 10 N.2.2.1), (wTb cI (a2 5) (a2 6) 16 8 2 N.2.2.2.1), (wTb cI (a2 7) (a2 8) 64 16 4 N.2.2.2.2.1), (wTb cI (a2 9) (a2 10) 5 5 1 N.2.2.2.2.2.1)], [(wTb cI (a 5) (a 6) 16 8 2 ((N.1.2.2.1, N.2.2.2.1)).1), (wTb cI (a2 5) (a2 6) 16 8 2 ((N.1.2.2.1, N.2.2.2.1)).2)], [(wTb cI (a 5) (a 6) 16 8 2 (N').1), (wTb cI (a2 5) (a2 6) 16 8 2 (N').2)], [[(a 0, .inr (7, [.ref (a 1), .ref (a 3), .ref (a 5), .ref (a 7), .ref (a 9), .int (((N.1.1, N.1.2.1, N'.1, N.1.2.2.2), (N.2.1, N.2.2.1, N'.2, N.2.2.2.2))).1.2.2.2.2.2]))], (wTb cI (a 1) (a 2) 44 4 11 (((N.1.1, N.1.2.1, N'.1, N.1.2.2.2), (N.2.1, N.2.2.1, N'.2, N.2.2.2.2))).1.1), (wTb cI (a 3) (a 4) 160 16 10 (((N.1.1, N.1.2.1, N'.1, N.1.2.2.2), (N.2.1, N.2.2.1, N'.2, N.2.2.2.2))).1.2.1), (wTb cI (a 5) (a 6) 16 8 2 (((N.1.1, N.1.2.1, N'.1, N.1.2.2.2), (N.2.1, N.2.2.1, N'.2, N.2.2.2.2))).1.2.2.1), (wTb cI (a 7) (a 8) 64 16 4 (((N.1.1, N.1.2.1, N'.1, N.1.2.2.2), (N.2.1, N.2.2.1, N'.2, N.2.2.2.2))).1.2.2.2.1), (wTb cI (a 9) (a 10) 5 5 1 (((N.1.1, N.1.2.1, N'.1, N.1.2.2.2), (N.2.1, N.2.2.1, N'.2, N.2.2.2.2))).1.2.2.2.2.1), [(a2 0, .inr (7, [.ref (a2 1), .ref (a2 3), .ref (a2 5), .ref (a2 7), .ref (a2 9), .int (((N.1.1, N.1.2.1, N'.1, N.1.2.2.2), (N.2.1, N.2.2.1, N'.2, N.2.2.2.2))).2.2.2.2.2.2]))], (wTb cI (a2 1) (a2 2) 44 4 11 (((N.1.1, N.1.2.1, N'.1, N.1.2.2.2), (N.2.1, N.2.2.1, N'.2, N.2.2.2.2))).2.1), (wTb cI (a2 3) (a2 4) 160 16 10 (((N.1.1, N.1.2.1, N'.1, N.1.2.2.2), (N.2.1, N.2.2.1, N'.2, N.2.2.2.2))).2.2.1), (wTb cI (a2 5) (a2 6) 16 8 2 (((N.1.1, N.1.2.1, N'.1, N.1.2.2.2), (N.2.1, N.2.2.1, N'.2, N.2.2.2.2))).2.2.2.1), (wTb cI (a2 7) (a2 8) 64 16 4 (((N.1.1, N.1.2.1, N'.1, N.1.2.2.2), (N.2.1, N.2.2.1, N'.2, N.2.2.2.2))).2.2.2.2.1), (wTb cI (a2 9) (a2 10) 5 5 1 (((N.1.1, N.1.2.1, N'.1, N.1.2.2.2), (N.2.1, N.2.2.1, N'.2, N.2.2.2.2))).2.2.2.2.2.1)], [3, 9], [0, 1, 2, 4, 5, 6, 7, 8, 10, 11], by simp only [wVV, wVn, List.flatten_cons, List.flatten_nil, List.append_assoc, List.append_nil, List.nil_append, List.cons_append], by simp only [wTT, List.flatten_cons, List.flatten_nil, List.append_assoc, List.append_nil, List.nil_append, List.cons_append], by simp only [wTT, List.flatten_cons, List.flatten_nil, List.append_assoc, List.append_nil, List.nil_append, List.cons_append], by simp only [wVV, wVn, List.flatten_cons, List.flatten_nil, List.append_assoc, List.append_nil, List.nil_append, List.cons_append], rfl, rfl, rfl, rfl, rfl⟩
theorem sr_VV_vouchers (cI : ClassId) (a a2 : Nat → Nat) (N : Vn × Vn) : Sg (wVV cI a a2 N) (wTT cI (a 5) (a 6) (a2 5) (a2 6) 16 8 2 ((N.1.2.2.1, N.2.2.2.1))) (wTT cI (a 5) (a 6) (a2 5) (a2 6) 16 8 2 ((N.1.2.2.1, N.2.2.2.1))) (wVV cI a a2 N) := ⟨[[(a 0, .inr (7, [.ref (a 1), .ref (a 3), .ref (a 5), .ref (a 7), .ref (a 9), .int N.1.2.2.2.2.2]))], (wTb cI (a 1) (a 2) 44 4 11 N.1.1), (wTb cI (a 3) (a 4) 160 16 10 N.1.2.1), (wTb cI (a 5) (a 6) 16 8 2 N.1.2.2.1), (wTb cI (a 7) (a 8) 64 16 4 N.1.2.2.2.1), (wTb cI (a 9) (a 10) 5 5 1 N.1.2.2.2.2.1), [(a2 0, .inr (7, [.ref (a2 1), .ref (a2 3), .ref (a2 5), .ref (a2 7), .ref (a2 9), .int N.2.2.2.2.2.2]))], (wTb cI (a2 1) (a2 2) 44 4 11 N.2.1), (wTb cI (a2 3) (a2 4) 160 16 10 N.2.2.1), (wTb cI (a2 5) (a2 6) 16 8 2 N.2.2.2.1), (wTb cI (a2 7) (a2 8) 64 16 4 N.2.2.2.2.1), (wTb cI (a2 9) (a2 10) 5 5 1 N.2.2.2.2.2.1)], [(wTb cI (a 5) (a 6) 16 8 2 ((N.1.2.2.1, N.2.2.2.1)).1), (wTb cI (a2 5) (a2 6) 16 8 2 ((N.1.2.2.1, N.2.2.2.1)).2)], [(wTb cI (a 5) (a 6) 16 8 2 ((N.1.2.2.1, N.2.2.2.1)).1), (wTb cI (a2 5) (a2 6) 16 8 2 ((N.1.2.2.1, N.2.2.2.1)).2)], [[(a 0, .inr (7, [.ref (a 1), .ref (a 3), .ref (a 5), .ref (a 7), .ref (a 9), .int N.1.2.2.2.2.2]))], (wTb cI (a 1) (a 2) 44 4 11 N.1.1), (wTb cI (a 3) (a 4) 160 16 10 N.1.2.1), (wTb cI (a 5) (a 6) 16 8 2 N.1.2.2.1), (wTb cI (a 7) (a 8) 64 16 4 N.1.2.2.2.1), (wTb cI (a 9) (a 10) 5 5 1 N.1.2.2.2.2.1), [(a2 0, .inr (7, [.ref (a2 1), .ref (a2 3), .ref (a2 5), .ref (a2 7), .ref (a2 9), .int N.2.2.2.2.2.2]))], (wTb cI (a2 1) (a2 2) 44 4 11 N.2.1), (wTb cI (a2 3) (a2 4) 160 16 10 N.2.2.1), (wTb cI (a2 5) (a2 6) 16 8 2 N.2.2.2.1), (wTb cI (a2 7) (a2 8) 64 16 4 N.2.2.2.2.1), (wTb cI (a2 9) (a2 10) 5 5 1 N.2.2.2.2.2.1)], [3, 9], [0, 1, 2, 4, 5, 6, 7, 8, 10, 11], by simp only [wVV, wVn, List.flatten_cons, List.flatten_nil, List.append_assoc, List.append_nil, List.nil_append, List.cons_append], by simp only [wTT, List.flatten_cons, List.flatten_nil, List.append_assoc, List.append_nil, List.nil_append, List.cons_append], by simp only [wTT, List.flatten_cons, List.flatten_nil, List.append_assoc, List.append_nil, List.nil_append, List.cons_append], by simp only [wVV, wVn, List.flatten_cons, List.flatten_nil, List.append_assoc, List.append_nil, List.nil_append, List.cons_append], rfl, rfl, rfl, rfl, rfl⟩
theorem sg_VV_payments (cI : ClassId) (a a2 : Nat → Nat) (N : Vn × Vn) (N' : Tb × Tb) : Sg (wVV cI a a2 N) (wTT cI (a 7) (a 8) (a2 7) (a2 8) 64 16 4 ((N.1.2.2.2.1, N.2.2.2.2.1))) (wTT cI (a 7) (a 8) (a2 7) (a2 8) 64 16 4 N') (wVV cI a a2 (((N.1.1, N.1.2.1, N.1.2.2.1, N'.1, N.1.2.2.2.2), (N.2.1, N.2.2.1, N.2.2.2.1, N'.2, N.2.2.2.2.2)))) := ⟨[[(a 0, .inr (7, [.ref (a 1), .ref (a 3), .ref (a 5), .ref (a 7), .ref (a 9), .int N.1.2.2.2.2.2]))], (wTb cI (a 1) (a 2) 44 4 11 N.1.1), (wTb cI (a 3) (a 4) 160 16 10 N.1.2.1), (wTb cI (a 5) (a 6) 16 8 2 N.1.2.2.1), (wTb cI (a 7) (a 8) 64 16 4 N.1.2.2.2.1), (wTb cI (a 9) (a 10) 5 5 1 N.1.2.2.2.2.1), [(a2 0, .inr (7, [.ref (a2 1), .ref (a2 3), .ref (a2 5), .ref (a2 7), .ref (a2 9), .int N.2.2.2.2.2.2]))], (wTb cI (a2 1) (a2 2) 44 4 11 N.2.1), (wTb cI (a2 3) (a2 4) 160 16 10 N.2.2.1), (wTb cI (a2 5) (a2 6) 16 8 2 N.2.2.2.1), (wTb cI (a2 7) (a2 8) 64 16 4 N.2.2.2.2.1), (wTb cI (a2 9) (a2 10) 5 5 1 N.2.2.2.2.2.1)], [(wTb cI (a 7) (a 8) 64 16 4 ((N.1.2.2.2.1, N.2.2.2.2.1)).1), (wTb cI (a2 7) (a2 8) 64 16 4 ((N.1.2.2.2.1, N.2.2.2.2.1)).2)], [(wTb cI (a 7) (a 8) 64 16 4 (N').1), (wTb cI (a2 7) (a2 8) 64 16 4 (N').2)], [[(a 0, .inr (7, [.ref (a 1), .ref (a 3), .ref (a 5), .ref (a 7), .ref (a 9), .int (((N.1.1, N.1.2.1, N.1.2.2.1, N'.1, N.1.2.2.2.2), (N.2.1, N.2.2.1, N.2.2.2.1, N'.2, N.2.2.2.2.2))).1.2.2.2.2.2]))], (wTb cI (a 1) (a 2) 44 4 11 (((N.1.1, N.1.2.1, N.1.2.2.1, N'.1, N.1.2.2.2.2), (N.2.1, N.2.2.1, N.2.2.2.1, N'.2, N.2.2.2.2.2))).1.1), (wTb cI (a 3) (a 4) 160 16 10 (((N.1.1, N.1.2.1, N.1.2.2.1, N'.1, N.1.2.2.2.2), (N.2.1, N.2.2.1, N.2.2.2.1, N'.2, N.2.2.2.2.2))).1.2.1), (wTb cI (a 5) (a 6) 16 8 2 (((N.1.1, N.1.2.1, N.1.2.2.1, N'.1, N.1.2.2.2.2), (N.2.1, N.2.2.1, N.2.2.2.1, N'.2, N.2.2.2.2.2))).1.2.2.1), (wTb cI (a 7) (a 8) 64 16 4 (((N.1.1, N.1.2.1, N.1.2.2.1, N'.1, N.1.2.2.2.2), (N.2.1, N.2.2.1, N.2.2.2.1, N'.2, N.2.2.2.2.2))).1.2.2.2.1), (wTb cI (a 9) (a 10) 5 5 1 (((N.1.1, N.1.2.1, N.1.2.2.1, N'.1, N.1.2.2.2.2), (N.2.1, N.2.2.1, N.2.2.2.1, N'.2, N.2.2.2.2.2))).1.2.2.2.2.1), [(a2 0, .inr (7, [.ref (a2 1), .ref (a2 3), .ref (a2 5), .ref (a2 7), .ref (a2 9), .int (((N.1.1, N.1.2.1, N.1.2.2.1, N'.1, N.1.2.2.2.2), (N.2.1, N.2.2.1, N.2.2.2.1, N'.2, N.2.2.2.2.2))).2.2.2.2.2.2]))], (wTb cI (a2 1) (a2 2) 44 4 11 (((N.1.1, N.1.2.1, N.1.2.2.1, N'.1, N.1.2.2.2.2), (N.2.1, N.2.2.1, N.2.2.2.1, N'.2, N.2.2.2.2.2))).2.1), (wTb cI (a2 3) (a2 4) 160 16 10 (((N.1.1, N.1.2.1, N.1.2.2.1, N'.1, N.1.2.2.2.2), (N.2.1, N.2.2.1, N.2.2.2.1, N'.2, N.2.2.2.2.2))).2.2.1), (wTb cI (a2 5) (a2 6) 16 8 2 (((N.1.1, N.1.2.1, N.1.2.2.1, N'.1, N.1.2.2.2.2), (N.2.1, N.2.2.1, N.2.2.2.1, N'.2, N.2.2.2.2.2))).2.2.2.1), (wTb cI (a2 7) (a2 8) 64 16 4 (((N.1.1, N.1.2.1, N.1.2.2.1, N'.1, N.1.2.2.2.2), (N.2.1, N.2.2.1, N.2.2.2.1, N'.2, N.2.2.2.2.2))).2.2.2.2.1), (wTb cI (a2 9) (a2 10) 5 5 1 (((N.1.1, N.1.2.1, N.1.2.2.1, N'.1, N.1.2.2.2.2), (N.2.1, N.2.2.1, N.2.2.2.1, N'.2, N.2.2.2.2.2))).2.2.2.2.2.1)], [4, 10], [0, 1, 2, 3, 5, 6, 7, 8, 9, 11], by simp only [wVV, wVn, List.flatten_cons, List.flatten_nil, List.append_assoc, List.append_nil, List.nil_append, List.cons_append], by simp only [wTT, List.flatten_cons, List.flatten_nil, List.append_assoc, List.append_nil, List.nil_append, List.cons_append], by simp only [wTT, List.flatten_cons, List.flatten_nil, List.append_assoc, List.append_nil, List.nil_append, List.cons_append], by simp only [wVV, wVn, List.flatten_cons, List.flatten_nil, List.append_assoc, List.append_nil, List.nil_append, List.cons_append], rfl, rfl, rfl, rfl, rfl⟩
theorem sr_VV_payments (cI : ClassId) (a a2 : Nat → Nat) (N : Vn × Vn) : Sg (wVV cI a a2 N) (wTT cI (a 7) (a 8) (a2 7) (a2 8) 64 16 4 ((N.1.2.2.2.1, N.2.2.2.2.1))) (wTT cI (a 7) (a 8) (a2 7) (a2 8) 64 16 4 ((N.1.2.2.2.1, N.2.2.2.2.1))) (wVV cI a a2 N) := ⟨[[(a 0, .inr (7, [.ref (a 1), .ref (a 3), .ref (a 5), .ref (a 7), .ref (a 9), .int N.1.2.2.2.2.2]))], (wTb cI (a 1) (a 2) 44 4 11 N.1.1), (wTb cI (a 3) (a 4) 160 16 10 N.1.2.1), (wTb cI (a 5) (a 6) 16 8 2 N.1.2.2.1), (wTb cI (a 7) (a 8) 64 16 4 N.1.2.2.2.1), (wTb cI (a 9) (a 10) 5 5 1 N.1.2.2.2.2.1), [(a2 0, .inr (7, [.ref (a2 1), .ref (a2 3), .ref (a2 5), .ref (a2 7), .ref (a2 9), .int N.2.2.2.2.2.2]))], (wTb cI (a2 1) (a2 2) 44 4 11 N.2.1), (wTb cI (a2 3) (a2 4) 160 16 10 N.2.2.1), (wTb cI (a2 5) (a2 6) 16 8 2 N.2.2.2.1), (wTb cI (a2 7) (a2 8) 64 16 4 N.2.2.2.2.1), (wTb cI (a2 9) (a2 10) 5 5 1 N.2.2.2.2.2.1)], [(wTb cI (a 7) (a 8) 64 16 4 ((N.1.2.2.2.1, N.2.2.2.2.1)).1), (wTb cI (a2 7) (a2 8) 64 16 4 ((N.1.2.2.2.1, N.2.2.2.2.1)).2)], [(wTb cI (a 7) (a 8) 64 16 4 ((N.1.2.2.2.1, N.2.2.2.2.1)).1), (wTb cI (a2 7) (a2 8) 64 16 4 ((N.1.2.2.2.1, N.2.2.2.2.1)).2)], [[(a 0, .inr (7, [.ref (a 1), .ref (a 3), .ref (a 5), .ref (a 7), .ref (a 9), .int N.1.2.2.2.2.2]))], (wTb cI (a 1) (a 2) 44 4 11 N.1.1), (wTb cI (a 3) (a 4) 160 16 10 N.1.2.1), (wTb cI (a 5) (a 6) 16 8 2 N.1.2.2.1), (wTb cI (a 7) (a 8) 64 16 4 N.1.2.2.2.1), (wTb cI (a 9) (a 10) 5 5 1 N.1.2.2.2.2.1), [(a2 0, .inr (7, [.ref (a2 1), .ref (a2 3), .ref (a2 5), .ref (a2 7), .ref (a2 9), .int N.2.2.2.2.2.2]))], (wTb cI (a2 1) (a2 2) 44 4 11 N.2.1), (wTb cI (a2 3) (a2 4) 160 16 10 N.2.2.1), (wTb cI (a2 5) (a2 6) 16 8 2 N.2.2.2.1), (wTb cI (a2 7) (a2 8) 64 16 4 N.2.2.2.2.1), (wTb cI (a2 9) (a2 10) 5 5 1 N.2.2.2.2.2.1)], [4, 10], [0, 1, 2, 3, 5, 6, 7, 8, 9, 11], by simp only [wVV, wVn, List.flatten_cons, List.flatten_nil, List.append_assoc, List.append_nil, List.nil_append, List.cons_append], by simp only [wTT, List.flatten_cons, List.flatten_nil, List.append_assoc, List.append_nil, List.nil_append, List.cons_append], by simp only [wTT, List.flatten_cons, List.flatten_nil, List.append_assoc, List.append_nil, List.nil_append, List.cons_append], by simp only [wVV, wVn, List.flatten_cons, List.flatten_nil, List.append_assoc, List.append_nil, List.nil_append, List.cons_append], rfl, rfl, rfl, rfl, rfl⟩
theorem sg_VV_settings (cI : ClassId) (a a2 : Nat → Nat) (N : Vn × Vn) (N' : Tb × Tb) : Sg (wVV cI a a2 N) (wTT cI (a 9) (a 10) (a2 9) (a2 10) 5 5 1 ((N.1.2.2.2.2.1, N.2.2.2.2.2.1))) (wTT cI (a 9) (a 10) (a2 9) (a2 10) 5 5 1 N') (wVV cI a a2 (((N.1.1, N.1.2.1, N.1.2.2.1, N.1.2.2.2.1, N'.1, N.1.2.2.2.2.2), (N.2.1, N.2.2.1, N.2.2.2.1, N.2.2.2.2.1, N'.2, N.2.2.2.2.2.2)))) := ⟨[[(a 0, .inr (7, [.ref (a 1), .ref (a 3), .ref (a 5), .ref (a 7), .ref (a 9), .int N.1.2.2.2.2.2]))], (wTb cI (a 1) (a 2) 44 4 11 N.1.1), (wTb cI (a 3) (a 4) 160 16 10 N.1.2.1), (wTb cI (a 5) (a 6) 16 8 2 N.1.2.2.1), (wTb cI (a 7) (a 8) 64 16 4 N.1.2.2.2.1), (wTb cI (a 9) (a 10) 5 5 1 N.1.2.2.2.2.1), [(a2 0, .inr (7, [.ref (a2 1), .ref (a2 3), .ref (a2 5), .ref (a2 7), .ref (a2 9), .int N.2.2.2.2.2.2]))], (wTb cI (a2 1) (a2 2) 44 4 11 N.2.1), (wTb cI (a2 3) (a2 4) 160 16 10 N.2.2.1), (wTb cI (a2 5) (a2 6) 16 8 2 N.2.2.2.1), (wTb cI (a2 7) (a2 8) 64 16 4 N.2.2.2.2.1), (wTb cI (a2 9) (a2 10) 5 5 1 N.2.2.2.2.2.1)], [(wTb cI (a 9) (a 10) 5 5 1 ((N.1.2.2.2.2.1, N.2.2.2.2.2.1)).1), (wTb cI (a2 9) (a2 10) 5 5 1 ((N.1.2.2.2.2.1, N.2.2.2.2.2.1)).2)], [(wTb cI (a 9) (a 10) 5 5 1 (N').1), (wTb cI (a2 9) (a2 10) 5 5 1 (N').2)], [[(a 0, .inr (7, [.ref (a 1), .ref (a 3), .ref (a 5), .ref (a 7), .ref (a 9), .int (((N.1.1, N.1.2.1, N.1.2.2.1, N.1.2.2.2.1, N'.1, N.1.2.2.2.2.2), (N.2.1, N.2.2.1, N.2.2.2.1, N.2.2.2.2.1, N'.2, N.2.2.2.2.2.2))).1.2.2.2.2.2]))], (wTb cI (a 1) (a 2) 44 4 11 (((N.1.1, N.1.2.1, N.1.2.2.1, N.1.2.2.2.1, N'.1, N.1.2.2.2.2.2), (N.2.1, N.2.2.1, N.2.2.2.1, N.2.2.2.2.1, N'.2, N.2.2.2.2.2.2))).1.1), (wTb cI (a 3) (a 4) 160 16 10 (((N.1.1, N.1.2.1, N.1.2.2.1, N.1.2.2.2.1, N'.1, N.1.2.2.2.2.2), (N.2.1, N.2.2.1, N.2.2.2.1, N.2.2.2.2.1, N'.2, N.2.2.2.2.2.2))).1.2.1), (wTb cI (a 5) (a 6) 16 8 2 (((N.1.1, N.1.2.1, N.1.2.2.1, N.1.2.2.2.1, N'.1, N.1.2.2.2.2.2), (N.2.1, N.2.2.1, N.2.2.2.1, N.2.2.2.2.1, N'.2, N.2.2.2.2.2.2))).1.2.2.1), (wTb cI (a 7) (a 8) 64 16 4 (((N.1.1, N.1.2.1, N.1.2.2.1, N.1.2.2.2.1, N'.1, N.1.2.2.2.2.2), (N.2.1, N.2.2.1, N.2.2.2.1, N.2.2.2.2.1, N'.2, N.2.2.2.2.2.2))).1.2.2.2.1), (wTb cI (a 9) (a 10) 5 5 1 (((N.1.1, N.1.2.1, N.1.2.2.1, N.1.2.2.2.1, N'.1, N.1.2.2.2.2.2), (N.2.1, N.2.2.1, N.2.2.2.1, N.2.2.2.2.1, N'.2, N.2.2.2.2.2.2))).1.2.2.2.2.1), [(a2 0, .inr (7, [.ref (a2 1), .ref (a2 3), .ref (a2 5), .ref (a2 7), .ref (a2 9), .int (((N.1.1, N.1.2.1, N.1.2.2.1, N.1.2.2.2.1, N'.1, N.1.2.2.2.2.2), (N.2.1, N.2.2.1, N.2.2.2.1, N.2.2.2.2.1, N'.2, N.2.2.2.2.2.2))).2.2.2.2.2.2]))], (wTb cI (a2 1) (a2 2) 44 4 11 (((N.1.1, N.1.2.1, N.1.2.2.1, N.1.2.2.2.1, N'.1, N.1.2.2.2.2.2), (N.2.1, N.2.2.1, N.2.2.2.1, N.2.2.2.2.1, N'.2, N.2.2.2.2.2.2))).2.1), (wTb cI (a2 3) (a2 4) 160 16 10 (((N.1.1, N.1.2.1, N.1.2.2.1, N.1.2.2.2.1, N'.1, N.1.2.2.2.2.2), (N.2.1, N.2.2.1, N.2.2.2.1, N.2.2.2.2.1, N'.2, N.2.2.2.2.2.2))).2.2.1), (wTb cI (a2 5) (a2 6) 16 8 2 (((N.1.1, N.1.2.1, N.1.2.2.1, N.1.2.2.2.1, N'.1, N.1.2.2.2.2.2), (N.2.1, N.2.2.1, N.2.2.2.1, N.2.2.2.2.1, N'.2, N.2.2.2.2.2.2))).2.2.2.1), (wTb cI (a2 7) (a2 8) 64 16 4 (((N.1.1, N.1.2.1, N.1.2.2.1, N.1.2.2.2.1, N'.1, N.1.2.2.2.2.2), (N.2.1, N.2.2.1, N.2.2.2.1, N.2.2.2.2.1, N'.2, N.2.2.2.2.2.2))).2.2.2.2.1), (wTb cI (a2 9) (a2 10) 5 5 1 (((N.1.1, N.1.2.1, N.1.2.2.1, N.1.2.2.2.1, N'.1, N.1.2.2.2.2.2), (N.2.1, N.2.2.1, N.2.2.2.1, N.2.2.2.2.1, N'.2, N.2.2.2.2.2.2))).2.2.2.2.2.1)], [5, 11], [0, 1, 2, 3, 4, 6, 7, 8, 9, 10], by simp only [wVV, wVn, List.flatten_cons, List.flatten_nil, List.append_assoc, List.append_nil, List.nil_append, List.cons_append], by simp only [wTT, List.flatten_cons, List.flatten_nil, List.append_assoc, List.append_nil, List.nil_append, List.cons_append], by simp only [wTT, List.flatten_cons, List.flatten_nil, List.append_assoc, List.append_nil, List.nil_append, List.cons_append], by simp only [wVV, wVn, List.flatten_cons, List.flatten_nil, List.append_assoc, List.append_nil, List.nil_append, List.cons_append], rfl, rfl, rfl, rfl, rfl⟩
theorem sr_VV_settings (cI : ClassId) (a a2 : Nat → Nat) (N : Vn × Vn) : Sg (wVV cI a a2 N) (wTT cI (a 9) (a 10) (a2 9) (a2 10) 5 5 1 ((N.1.2.2.2.2.1, N.2.2.2.2.2.1))) (wTT cI (a 9) (a 10) (a2 9) (a2 10) 5 5 1 ((N.1.2.2.2.2.1, N.2.2.2.2.2.1))) (wVV cI a a2 N) := ⟨[[(a 0, .inr (7, [.ref (a 1), .ref (a 3), .ref (a 5), .ref (a 7), .ref (a 9), .int N.1.2.2.2.2.2]))], (wTb cI (a 1) (a 2) 44 4 11 N.1.1), (wTb cI (a 3) (a 4) 160 16 10 N.1.2.1), (wTb cI (a 5) (a 6) 16 8 2 N.1.2.2.1), (wTb cI (a 7) (a 8) 64 16 4 N.1.2.2.2.1), (wTb cI (a 9) (a 10) 5 5 1 N.1.2.2.2.2.1), [(a2 0, .inr (7, [.ref (a2 1), .ref (a2 3), .ref (a2 5), .ref (a2 7), .ref (a2 9), .int N.2.2.2.2.2.2]))], (wTb cI (a2 1) (a2 2) 44 4 11 N.2.1), (wTb cI (a2 3) (a2 4) 160 16 10 N.2.2.1), (wTb cI (a2 5) (a2 6) 16 8 2 N.2.2.2.1), (wTb cI (a2 7) (a2 8) 64 16 4 N.2.2.2.2.1), (wTb cI (a2 9) (a2 10) 5 5 1 N.2.2.2.2.2.1)], [(wTb cI (a 9) (a 10) 5 5 1 ((N.1.2.2.2.2.1, N.2.2.2.2.2.1)).1), (wTb cI (a2 9) (a2 10) 5 5 1 ((N.1.2.2.2.2.1, N.2.2.2.2.2.1)).2)], [(wTb cI (a 9) (a 10) 5 5 1 ((N.1.2.2.2.2.1, N.2.2.2.2.2.1)).1), (wTb cI (a2 9) (a2 10) 5 5 1 ((N.1.2.2.2.2.1, N.2.2.2.2.2.1)).2)], [[(a 0, .inr (7, [.ref (a 1), .ref (a 3), .ref (a 5), .ref (a 7), .ref (a 9), .int N.1.2.2.2.2.2]))], (wTb cI (a 1) (a 2) 44 4 11 N.1.1), (wTb cI (a 3) (a 4) 160 16 10 N.1.2.1), (wTb cI (a 5) (a 6) 16 8 2 N.1.2.2.1), (wTb cI (a 7) (a 8) 64 16 4 N.1.2.2.2.1), (wTb cI (a 9) (a 10) 5 5 1 N.1.2.2.2.2.1), [(a2 0, .inr (7, [.ref (a2 1), .ref (a2 3), .ref (a2 5), .ref (a2 7), .ref (a2 9), .int N.2.2.2.2.2.2]))], (wTb cI (a2 1) (a2 2) 44 4 11 N.2.1), (wTb cI (a2 3) (a2 4) 160 16 10 N.2.2.1), (wTb cI (a2 5) (a2 6) 16 8 2 N.2.2.2.1), (wTb cI (a2 7) (a2 8) 64 16 4 N.2.2.2.2.1), (wTb cI (a2 9) (a2 10) 5 5 1 N.2.2.2.2.2.1)], [5, 11], [0, 1, 2, 3, 4, 6, 7, 8, 9, 10], by simp only [wVV, wVn, List.flatten_cons, List.flatten_nil, List.append_assoc, List.append_nil, List.nil_append, List.cons_append], by simp only [wTT, List.flatten_cons, List.flatten_nil, List.append_assoc, List.append_nil, List.nil_append, List.cons_append], by simp only [wTT, List.flatten_cons, List.flatten_nil, List.append_assoc, List.append_nil, List.nil_append, List.cons_append], by simp only [wVV, wVn, List.flatten_cons, List.flatten_nil, List.append_assoc, List.append_nil, List.nil_append, List.cons_append], rfl, rfl, rfl, rfl, rfl⟩
theorem sg_SV_VV (cI : ClassId) (h : Nat) (a a2 : Nat → Nat) (N : (Int32 × Vn) × Vn) (N' : Vn × Vn) : Sg (wSV cI h a a2 N) (wVV cI a a2 ((N.1.2, N.2))) (wVV cI a a2 N') (wSV cI h a a2 (((N.1.1, N'.1), N'.2))) := ⟨[[(h, .inr (4, [.ref (a 0), .int N.1.1]))], (wVn cI a (N.1.2)), (wVn cI a2 (N.2))], [(wVn cI a (((N.1.2, N.2)).1)), (wVn cI a2 (((N.1.2, N.2)).2))], [(wVn cI a ((N').1)), (wVn cI a2 ((N').2))], [[(h, .inr (4, [.ref (a 0), .int (((N.1.1, N'.1), N'.2)).1.1]))], (wVn cI a ((((N.1.1, N'.1), N'.2)).1.2)), (wVn cI a2 ((((N.1.1, N'.1), N'.2)).2))], [1, 2], [0], by simp only [wSV, List.flatten_cons, List.flatten_nil, List.append_assoc, List.append_nil, List.nil_append, List.cons_append], by simp only [wVV, List.flatten_cons, List.flatten_nil, List.append_assoc, List.append_nil, List.nil_append, List.cons_append], by simp only [wVV, List.flatten_cons, List.flatten_nil, List.append_assoc, List.append_nil, List.nil_append, List.cons_append], by simp only [wSV, List.flatten_cons, List.flatten_nil, List.append_assoc, List.append_nil, List.nil_append, List.cons_append], rfl, rfl, rfl, rfl, rfl⟩
theorem sr_SV_VV (cI : ClassId) (h : Nat) (a a2 : Nat → Nat) (N : (Int32 × Vn) × Vn) : Sg (wSV cI h a a2 N) (wVV cI a a2 ((N.1.2, N.2))) (wVV cI a a2 ((N.1.2, N.2))) (wSV cI h a a2 N) := ⟨[[(h, .inr (4, [.ref (a 0), .int N.1.1]))], (wVn cI a (N.1.2)), (wVn cI a2 (N.2))], [(wVn cI a (((N.1.2, N.2)).1)), (wVn cI a2 (((N.1.2, N.2)).2))], [(wVn cI a (((N.1.2, N.2)).1)), (wVn cI a2 (((N.1.2, N.2)).2))], [[(h, .inr (4, [.ref (a 0), .int N.1.1]))], (wVn cI a (N.1.2)), (wVn cI a2 (N.2))], [1, 2], [0], by simp only [wSV, List.flatten_cons, List.flatten_nil, List.append_assoc, List.append_nil, List.nil_append, List.cons_append], by simp only [wVV, List.flatten_cons, List.flatten_nil, List.append_assoc, List.append_nil, List.nil_append, List.cons_append], by simp only [wVV, List.flatten_cons, List.flatten_nil, List.append_assoc, List.append_nil, List.nil_append, List.cons_append], by simp only [wSV, List.flatten_cons, List.flatten_nil, List.append_assoc, List.append_nil, List.nil_append, List.cons_append], rfl, rfl, rfl, rfl, rfl⟩
theorem sg_SS_VV (cI : ClassId) (h : Nat) (a : Nat → Nat) (h2 : Nat) (a2 : Nat → Nat) (N : (Int32 × Vn) × (Int32 × Vn)) (N' : Vn × Vn) : Sg (wSS cI h a h2 a2 N) (wVV cI a a2 ((N.1.2, N.2.2))) (wVV cI a a2 N') (wSS cI h a h2 a2 (((N.1.1, N'.1), (N.2.1, N'.2)))) := ⟨[[(h, .inr (4, [.ref (a 0), .int N.1.1]))], (wVn cI a (N.1.2)), [(h2, .inr (4, [.ref (a2 0), .int N.2.1]))], (wVn cI a2 (N.2.2))], [(wVn cI a (((N.1.2, N.2.2)).1)), (wVn cI a2 (((N.1.2, N.2.2)).2))], [(wVn cI a ((N').1)), (wVn cI a2 ((N').2))], [[(h, .inr (4, [.ref (a 0), .int (((N.1.1, N'.1), (N.2.1, N'.2))).1.1]))], (wVn cI a ((((N.1.1, N'.1), (N.2.1, N'.2))).1.2)), [(h2, .inr (4, [.ref (a2 0), .int (((N.1.1, N'.1), (N.2.1, N'.2))).2.1]))], (wVn cI a2 ((((N.1.1, N'.1), (N.2.1, N'.2))).2.2))], [1, 3], [0, 2], by simp only [wSS, List.flatten_cons, List.flatten_nil, List.append_assoc, List.append_nil, List.nil_append, List.cons_append], by simp only [wVV, List.flatten_cons, List.flatten_nil, List.append_assoc, List.append_nil, List.nil_append, List.cons_append], by simp only [wVV, List.flatten_cons, List.flatten_nil, List.append_assoc, List.append_nil, List.nil_append, List.cons_append], by simp only [wSS, List.flatten_cons, List.flatten_nil, List.append_assoc, List.append_nil, List.nil_append, List.cons_append], rfl, rfl, rfl, rfl, rfl⟩
theorem sr_SS_VV (cI : ClassId) (h : Nat) (a : Nat → Nat) (h2 : Nat) (a2 : Nat → Nat) (N : (Int32 × Vn) × (Int32 × Vn)) : Sg (wSS cI h a h2 a2 N) (wVV cI a a2 ((N.1.2, N.2.2))) (wVV cI a a2 ((N.1.2, N.2.2))) (wSS cI h a h2 a2 N) := ⟨[[(h, .inr (4, [.ref (a 0), .int N.1.1]))], (wVn cI a (N.1.2)), [(h2, .inr (4, [.ref (a2 0), .int N.2.1]))], (wVn cI a2 (N.2.2))], [(wVn cI a (((N.1.2, N.2.2)).1)), (wVn cI a2 (((N.1.2, N.2.2)).2))], [(wVn cI a (((N.1.2, N.2.2)).1)), (wVn cI a2 (((N.1.2, N.2.2)).2))], [[(h, .inr (4, [.ref (a 0), .int N.1.1]))], (wVn cI a (N.1.2)), [(h2, .inr (4, [.ref (a2 0), .int N.2.1]))], (wVn cI a2 (N.2.2))], [1, 3], [0, 2], by simp only [wSS, List.flatten_cons, List.flatten_nil, List.append_assoc, List.append_nil, List.nil_append, List.cons_append], by simp only [wVV, List.flatten_cons, List.flatten_nil, List.append_assoc, List.append_nil, List.nil_append, List.cons_append], by simp only [wVV, List.flatten_cons, List.flatten_nil, List.append_assoc, List.append_nil, List.nil_append, List.cons_append], by simp only [wSS, List.flatten_cons, List.flatten_nil, List.append_assoc, List.append_nil, List.nil_append, List.cons_append], rfl, rfl, rfl, rfl, rfl⟩
theorem sg_QQ_VV (cI : ClassId) (z z2 : Nat → Nat) (N : Sn × Sn) (N' : Vn × Vn) : Sg (wQQ cI z z2 N) (wVV cI (fun k => z (1 + k)) (fun k => z2 (1 + k)) ((N.1.1, N.2.1))) (wVV cI (fun k => z (1 + k)) (fun k => z2 (1 + k)) N') (wQQ cI z z2 (((N'.1, N.1.2), (N'.2, N.2.2)))) := ⟨[[(z 0, .inr (5, [.ref (z 1), .ref (z 12), .ref (z 24)]))], (wVn cI (fun k => z (1 + k)) ((N.1).1)), [(z 12, .inr (4, [.ref (z 13), .int (N.1).2.1.1]))], (wVn cI (fun k => z (13 + k)) ((N.1).2.1.2)), [(z 24, .inr (4, [.ref (z 25), .int (N.1).2.2.1]))], (wVn cI (fun k => z (25 + k)) ((N.1).2.2.2)), [(z2 0, .inr (5, [.ref (z2 1), .ref (z2 12), .ref (z2 24)]))], (wVn cI (fun k => z2 (1 + k)) ((N.2).1)), [(z2 12, .inr (4, [.ref (z2 13), .int (N.2).2.1.1]))], (wVn cI (fun k => z2 (13 + k)) ((N.2).2.1.2)), [(z2 24, .inr (4, [.ref (z2 25), .int (N.2).2.2.1]))], (wVn cI (fun k => z2 (25 + k)) ((N.2).2.2.2))], [(wVn cI (fun k => z (1 + k)) (((N.1.1, N.2.1)).1)), (wVn cI (fun k => z2 (1 + k)) (((N.1.1, N.2.1)).2))], [(wVn cI (fun k => z (1 + k)) ((N').1)), (wVn cI (fun k => z2 (1 + k)) ((N').2))], [[(z 0, .inr (5, [.ref (z 1), .ref (z 12), .ref (z 24)]))], (wVn cI (fun k => z (1 + k)) (((((N'.1, N.1.2), (N'.2, N.2.2))).1).1)), [(z 12, .inr (4, [.ref (z 13), .int ((((N'.1, N.1.2), (N'.2, N.2.2))).1).2.1.1]))], (wVn cI (fun k => z (13 + k)) (((((N'.1, N.1.2), (N'.2, N.2.2))).1).2.1.2)), [(z 24, .inr (4, [.ref (z 25), .int ((((N'.1, N.1.2), (N'.2, N.2.2))).1).2.2.1]))], (wVn cI (fun k => z (25 + k)) (((((N'.1, N.1.2), (N'.2, N.2.2))).1).2.2.2)), [(z2 0, .inr (5, [.ref (z2 1), .ref (z2 12), .ref (z2 24)]))], (wVn cI (fun k => z2 (1 + k)) (((((N'.1, N.1.2), (N'.2, N.2.2))).2).1)), [(z2 12, .inr (4, [.ref (z2 13), .int ((((N'.1, N.1.2), (N'.2, N.2.2))).2).2.1.1]))], (wVn cI (fun k => z2 (13 + k)) (((((N'.1, N.1.2), (N'.2, N.2.2))).2).2.1.2)), [(z2 24, .inr (4, [.ref (z2 25), .int ((((N'.1, N.1.2), (N'.2, N.2.2))).2).2.2.1]))], (wVn cI (fun k => z2 (25 + k)) (((((N'.1, N.1.2), (N'.2, N.2.2))).2).2.2.2))], [1, 7], [0, 2, 3, 4, 5, 6, 8, 9, 10, 11], by simp only [wQQ, wSt, List.flatten_cons, List.flatten_nil, List.append_assoc, List.append_nil, List.nil_append, List.cons_append], by simp only [wVV, List.flatten_cons, List.flatten_nil, List.append_assoc, List.append_nil, List.nil_append, List.cons_append], by simp only [wVV, List.flatten_cons, List.flatten_nil, List.append_assoc, List.append_nil, List.nil_append, List.cons_append], by simp only [wQQ, wSt, List.flatten_cons, List.flatten_nil, List.append_assoc, List.append_nil, List.nil_append, List.cons_append], rfl, rfl, rfl, rfl, rfl⟩
theorem sr_QQ_VV (cI : ClassId) (z z2 : Nat → Nat) (N : Sn × Sn) : Sg (wQQ cI z z2 N) (wVV cI (fun k => z (1 + k)) (fun k => z2 (1 + k)) ((N.1.1, N.2.1))) (wVV cI (fun k => z (1 + k)) (fun k => z2 (1 + k)) ((N.1.1, N.2.1))) (wQQ cI z z2 N) := ⟨[[(z 0, .inr (5, [.ref (z 1), .ref (z 12), .ref (z 24)]))], (wVn cI (fun k => z (1 + k)) ((N.1).1)), [(z 12, .inr (4, [.ref (z 13), .int (N.1).2.1.1]))], (wVn cI (fun k => z (13 + k)) ((N.1).2.1.2)), [(z 24, .inr (4, [.ref (z 25), .int (N.1).2.2.1]))], (wVn cI (fun k => z (25 + k)) ((N.1).2.2.2)), [(z2 0, .inr (5, [.ref (z2 1), .ref (z2 12), .ref (z2 24)]))], (wVn cI (fun k => z2 (1 + k)) ((N.2).1)), [(z2 12, .inr (4, [.ref (z2 13), .int (N.2).2.1.1]))], (wVn cI (fun k => z2 (13 + k)) ((N.2).2.1.2)), [(z2 24, .inr (4, [.ref (z2 25), .int (N.2).2.2.1]))], (wVn cI (fun k => z2 (25 + k)) ((N.2).2.2.2))], [(wVn cI (fun k => z (1 + k)) (((N.1.1, N.2.1)).1)), (wVn cI (fun k => z2 (1 + k)) (((N.1.1, N.2.1)).2))], [(wVn cI (fun k => z (1 + k)) (((N.1.1, N.2.1)).1)), (wVn cI (fun k => z2 (1 + k)) (((N.1.1, N.2.1)).2))], [[(z 0, .inr (5, [.ref (z 1), .ref (z 12), .ref (z 24)]))], (wVn cI (fun k => z (1 + k)) ((N.1).1)), [(z 12, .inr (4, [.ref (z 13), .int (N.1).2.1.1]))], (wVn cI (fun k => z (13 + k)) ((N.1).2.1.2)), [(z 24, .inr (4, [.ref (z 25), .int (N.1).2.2.1]))], (wVn cI (fun k => z (25 + k)) ((N.1).2.2.2)), [(z2 0, .inr (5, [.ref (z2 1), .ref (z2 12), .ref (z2 24)]))], (wVn cI (fun k => z2 (1 + k)) ((N.2).1)), [(z2 12, .inr (4, [.ref (z2 13), .int (N.2).2.1.1]))], (wVn cI (fun k => z2 (13 + k)) ((N.2).2.1.2)), [(z2 24, .inr (4, [.ref (z2 25), .int (N.2).2.2.1]))], (wVn cI (fun k => z2 (25 + k)) ((N.2).2.2.2))], [1, 7], [0, 2, 3, 4, 5, 6, 8, 9, 10, 11], by simp only [wQQ, wSt, List.flatten_cons, List.flatten_nil, List.append_assoc, List.append_nil, List.nil_append, List.cons_append], by simp only [wVV, List.flatten_cons, List.flatten_nil, List.append_assoc, List.append_nil, List.nil_append, List.cons_append], by simp only [wVV, List.flatten_cons, List.flatten_nil, List.append_assoc, List.append_nil, List.nil_append, List.cons_append], by simp only [wQQ, wSt, List.flatten_cons, List.flatten_nil, List.append_assoc, List.append_nil, List.nil_append, List.cons_append], rfl, rfl, rfl, rfl, rfl⟩
theorem sg_QQ_SS1 (cI : ClassId) (z z2 : Nat → Nat) (N : Sn × Sn) (N' : (Int32 × Vn) × (Int32 × Vn)) : Sg (wQQ cI z z2 N) (wSS cI (z 12) (fun k => z (13 + k)) (z2 12) (fun k => z2 (13 + k)) ((N.1.2.1, N.2.2.1))) (wSS cI (z 12) (fun k => z (13 + k)) (z2 12) (fun k => z2 (13 + k)) N') (wQQ cI z z2 (((N.1.1, N'.1, N.1.2.2), (N.2.1, N'.2, N.2.2.2)))) := ⟨[[(z 0, .inr (5, [.ref (z 1), .ref (z 12), .ref (z 24)]))], (wVn cI (fun k => z (1 + k)) ((N.1).1)), [(z 12, .inr (4, [.ref (z 13), .int (N.1).2.1.1]))], (wVn cI (fun k => z (13 + k)) ((N.1).2.1.2)), [(z 24, .inr (4, [.ref (z 25), .int (N.1).2.2.1]))], (wVn cI (fun k => z (25 + k)) ((N.1).2.2.2)), [(z2 0, .inr (5, [.ref (z2 1), .ref (z2 12), .ref (z2 24)]))], (wVn cI (fun k => z2 (1 + k)) ((N.2).1)), [(z2 12, .inr (4, [.ref (z2 13), .int (N.2).2.1.1]))], (wVn cI (fun k => z2 (13 + k)) ((N.2).2.1.2)), [(z2 24, .inr (4, [.ref (z2 25), .int (N.2).2.2.1]))], (wVn cI (fun k => z2 (25 + k)) ((N.2).2.2.2))], [[((z 12), .inr (4, [.ref ((fun k => z (13 + k)) 0), .int ((N.1.2.1, N.2.2.1)).1.1]))], (wVn cI (fun k => z (13 + k)) (((N.1.2.1, N.2.2.1)).1.2)), [((z2 12), .inr (4, [.ref ((fun k => z2 (13 + k)) 0), .int ((N.1.2.1, N.2.2.1)).2.1]))], (wVn cI (fun k => z2 (13 + k)) (((N.1.2.1, N.2.2.1)).2.2))], [[((z 12), .inr (4, [.ref ((fun k => z (13 + k)) 0), .int (N').1.1]))], (wVn cI (fun k => z (13 + k)) ((N').1.2)), [((z2 12), .inr (4, [.ref ((fun k => z2 (13 + k)) 0), .int (N').2.1]))], (wVn cI (fun k => z2 (13 + k)) ((N').2.2))], [[(z 0, .inr (5, [.ref (z 1), .ref (z 12), .ref (z 24)]))], (wVn cI (fun k => z (1 + k)) (((((N.1.1, N'.1, N.1.2.2), (N.2.1, N'.2, N.2.2.2))).1).1)), [(z 12, .inr (4, [.ref (z 13), .int ((((N.1.1, N'.1, N.1.2.2), (N.2.1, N'.2, N.2.2.2))).1).2.1.1]))], (wVn cI (fun k => z (13 + k)) (((((N.1.1, N'.1, N.1.2.2), (N.2.1, N'.2, N.2.2.2))).1).2.1.2)), [(z 24, .inr (4, [.ref (z 25), .int ((((N.1.1, N'.1, N.1.2.2), (N.2.1, N'.2, N.2.2.2))).1).2.2.1]))], (wVn cI (fun k => z (25 + k)) (((((N.1.1, N'.1, N.1.2.2), (N.2.1, N'.2, N.2.2.2))).1).2.2.2)), [(z2 0, .inr (5, [.ref (z2 1), .ref (z2 12), .ref (z2 24)]))], (wVn cI (fun k => z2 (1 + k)) (((((N.1.1, N'.1, N.1.2.2), (N.2.1, N'.2, N.2.2.2))).2).1)), [(z2 12, .inr (4, [.ref (z2 13), .int ((((N.1.1, N'.1, N.1.2.2), (N.2.1, N'.2, N.2.2.2))).2).2.1.1]))], (wVn cI (fun k => z2 (13 + k)) (((((N.1.1, N'.1, N.1.2.2), (N.2.1, N'.2, N.2.2.2))).2).2.1.2)), [(z2 24, .inr (4, [.ref (z2 25), .int ((((N.1.1, N'.1, N.1.2.2), (N.2.1, N'.2, N.2.2.2))).2).2.2.1]))], (wVn cI (fun k => z2 (25 + k)) (((((N.1.1, N'.1, N.1.2.2), (N.2.1, N'.2, N.2.2.2))).2).2.2.2))], [2, 3, 8, 9], [0, 1, 4, 5, 6, 7, 10, 11], by simp only [wQQ, wSt, List.flatten_cons, List.flatten_nil, List.append_assoc, List.append_nil, List.nil_append, List.cons_append], by simp only [wSS, List.flatten_cons, List.flatten_nil, List.append_assoc, List.append_nil, List.nil_append, List.cons_append], by simp only [wSS, List.flatten_cons, List.flatten_nil, List.append_assoc, List.append_nil, List.nil_append, List.cons_append], by simp only [wQQ, wSt, List.flatten_cons, List.flatten_nil, List.append_assoc, List.append_nil, List.nil_append, List.cons_append], rfl, rfl, rfl, rfl, rfl⟩
theorem sr_QQ_SS1 (cI : ClassId) (z z2 : Nat → Nat) (N : Sn × Sn) : Sg (wQQ cI z z2 N) (wSS cI (z 12) (fun k => z (13 + k)) (z2 12) (fun k => z2 (13 + k)) ((N.1.2.1, N.2.2.1))) (wSS cI (z 12) (fun k => z (13 + k)) (z2 12) (fun k => z2 (13 + k)) ((N.1.2.1, N.2.2.1))) (wQQ cI z z2 N) := ⟨[[(z 0, .inr (5, [.ref (z 1), .ref (z 12), .ref (z 24)]))], (wVn cI (fun k => z (1 + k)) ((N.1).1)), [(z 12, .inr (4, [.ref (z 13), .int (N.1).2.1.1]))], (wVn cI (fun k => z (13 + k)) ((N.1).2.1.2)), [(z 24, .inr (4, [.ref (z 25), .int (N.1).2.2.1]))], (wVn cI (fun k => z (25 + k)) ((N.1).2.2.2)), [(z2 0, .inr (5, [.ref (z2 1), .ref (z2 12), .ref (z2 24)]))], (wVn cI (fun k => z2 (1 + k)) ((N.2).1)), [(z2 12, .inr (4, [.ref (z2 13), .int (N.2).2.1.1]))], (wVn cI (fun k => z2 (13 + k)) ((N.2).2.1.2)), [(z2 24, .inr (4, [.ref (z2 25), .int (N.2).2.2.1]))], (wVn cI (fun k => z2 (25 + k)) ((N.2).2.2.2))], [[((z 12), .inr (4, [.ref ((fun k => z (13 + k)) 0), .int ((N.1.2.1, N.2.2.1)).1.1]))], (wVn cI (fun k => z (13 + k)) (((N.1.2.1, N.2.2.1)).1.2)), [((z2 12), .inr (4, [.ref ((fun k => z2 (13 + k)) 0), .int ((N.1.2.1, N.2.2.1)).2.1]))], (wVn cI (fun k => z2 (13 + k)) (((N.1.2.1, N.2.2.1)).2.2))], [[((z 12), .inr (4, [.ref ((fun k => z (13 + k)) 0), .int ((N.1.2.1, N.2.2.1)).1.1]))], (wVn cI (fun k => z (13 + k)) (((N.1.2.1, N.2.2.1)).1.2)), [((z2 12), .inr (4, [.ref ((fun k => z2 (13 + k)) 0), .int ((N.1.2.1, N.2.2.1)).2.1]))], (wVn cI (fun k => z2 (13 + k)) (((N.1.2.1, N.2.2.1)).2.2))], [[(z 0, .inr (5, [.ref (z 1), .ref (z 12), .ref (z 24)]))], (wVn cI (fun k => z (1 + k)) ((N.1).1)), [(z 12, .inr (4, [.ref (z 13), .int (N.1).2.1.1]))], (wVn cI (fun k => z (13 + k)) ((N.1).2.1.2)), [(z 24, .inr (4, [.ref (z 25), .int (N.1).2.2.1]))], (wVn cI (fun k => z (25 + k)) ((N.1).2.2.2)), [(z2 0, .inr (5, [.ref (z2 1), .ref (z2 12), .ref (z2 24)]))], (wVn cI (fun k => z2 (1 + k)) ((N.2).1)), [(z2 12, .inr (4, [.ref (z2 13), .int (N.2).2.1.1]))], (wVn cI (fun k => z2 (13 + k)) ((N.2).2.1.2)), [(z2 24, .inr (4, [.ref (z2 25), .int (N.2).2.2.1]))], (wVn cI (fun k => z2 (25 + k)) ((N.2).2.2.2))], [2, 3, 8, 9], [0, 1, 4, 5, 6, 7, 10, 11], by simp only [wQQ, wSt, List.flatten_cons, List.flatten_nil, List.append_assoc, List.append_nil, List.nil_append, List.cons_append], by simp only [wSS, List.flatten_cons, List.flatten_nil, List.append_assoc, List.append_nil, List.nil_append, List.cons_append], by simp only [wSS, List.flatten_cons, List.flatten_nil, List.append_assoc, List.append_nil, List.nil_append, List.cons_append], by simp only [wQQ, wSt, List.flatten_cons, List.flatten_nil, List.append_assoc, List.append_nil, List.nil_append, List.cons_append], rfl, rfl, rfl, rfl, rfl⟩
theorem sg_QQ_SS2 (cI : ClassId) (z z2 : Nat → Nat) (N : Sn × Sn) (N' : (Int32 × Vn) × (Int32 × Vn)) : Sg (wQQ cI z z2 N) (wSS cI (z 24) (fun k => z (25 + k)) (z2 24) (fun k => z2 (25 + k)) ((N.1.2.2, N.2.2.2))) (wSS cI (z 24) (fun k => z (25 + k)) (z2 24) (fun k => z2 (25 + k)) N') (wQQ cI z z2 (((N.1.1, N.1.2.1, N'.1), (N.2.1, N.2.2.1, N'.2)))) := ⟨[[(z 0, .inr (5, [.ref (z 1), .ref (z 12), .ref (z 24)]))], (wVn cI (fun k => z (1 + k)) ((N.1).1)), [(z 12, .inr (4, [.ref (z 13), .int (N.1).2.1.1]))], (wVn cI (fun k => z (13 + k)) ((N.1).2.1.2)), [(z 24, .inr (4, [.ref (z 25), .int (N.1).2.2.1]))], (wVn cI (fun k => z (25 + k)) ((N.1).2.2.2)), [(z2 0, .inr (5, [.ref (z2 1), .ref (z2 12), .ref (z2 24)]))], (wVn cI (fun k => z2 (1 + k)) ((N.2).1)), [(z2 12, .inr (4, [.ref (z2 13), .int (N.2).2.1.1]))], (wVn cI (fun k => z2 (13 + k)) ((N.2).2.1.2)), [(z2 24, .inr (4, [.ref (z2 25), .int (N.2).2.2.1]))], (wVn cI (fun k => z2 (25 + k)) ((N.2).2.2.2))], [[((z 24), .inr (4, [.ref ((fun k => z (25 + k)) 0), .int ((N.1.2.2, N.2.2.2)).1.1]))], (wVn cI (fun k => z (25 + k)) (((N.1.2.2, N.2.2.2)).1.2)), [((z2 24), .inr (4, [.ref ((fun k => z2 (25 + k)) 0), .int ((N.1.2.2, N.2.2.2)).2.1]))], (wVn cI (fun k => z2 (25 + k)) (((N.1.2.2, N.2.2.2)).2.2))], [[((z 24), .inr (4, [.ref ((fun k => z (25 + k)) 0), .int (N').1.1]))], (wVn cI (fun k => z (25 + k)) ((N').1.2)), [((z2 24), .inr (4, [.ref ((fun k => z2 (25 + k)) 0), .int (N').2.1]))], (wVn cI (fun k => z2 (25 + k)) ((N').2.2))], [[(z 0, .inr (5, [.ref (z 1), .ref (z 12), .ref (z 24)]))], (wVn cI (fun k => z (1 + k)) (((((N.1.1, N.1.2.1, N'.1), (N.2.1, N.2.2.1, N'.2))).1).1)), [(z 12, .inr (4, [.ref (z 13), .int ((((N.1.1, N.1.2.1, N'.1), (N.2.1, N.2.2.1, N'.2))).1).2.1.1]))], (wVn cI (fun k => z (13 + k)) (((((N.1.1, N.1.2.1, N'.1), (N.2.1, N.2.2.1, N'.2))).1).2.1.2)), [(z 24, .inr (4, [.ref (z 25), .int ((((N.1.1, N.1.2.1, N'.1), (N.2.1, N.2.2.1, N'.2))).1).2.2.1]))], (wVn cI (fun k => z (25 + k)) (((((N.1.1, N.1.2.1, N'.1), (N.2.1, N.2.2.1, N'.2))).1).2.2.2)), [(z2 0, .inr (5, [.ref (z2 1), .ref (z2 12), .ref (z2 24)]))], (wVn cI (fun k => z2 (1 + k)) (((((N.1.1, N.1.2.1, N'.1), (N.2.1, N.2.2.1, N'.2))).2).1)), [(z2 12, .inr (4, [.ref (z2 13), .int ((((N.1.1, N.1.2.1, N'.1), (N.2.1, N.2.2.1, N'.2))).2).2.1.1]))], (wVn cI (fun k => z2 (13 + k)) (((((N.1.1, N.1.2.1, N'.1), (N.2.1, N.2.2.1, N'.2))).2).2.1.2)), [(z2 24, .inr (4, [.ref (z2 25), .int ((((N.1.1, N.1.2.1, N'.1), (N.2.1, N.2.2.1, N'.2))).2).2.2.1]))], (wVn cI (fun k => z2 (25 + k)) (((((N.1.1, N.1.2.1, N'.1), (N.2.1, N.2.2.1, N'.2))).2).2.2.2))], [4, 5, 10, 11], [0, 1, 2, 3, 6, 7, 8, 9], by simp only [wQQ, wSt, List.flatten_cons, List.flatten_nil, List.append_assoc, List.append_nil, List.nil_append, List.cons_append], by simp only [wSS, List.flatten_cons, List.flatten_nil, List.append_assoc, List.append_nil, List.nil_append, List.cons_append], by simp only [wSS, List.flatten_cons, List.flatten_nil, List.append_assoc, List.append_nil, List.nil_append, List.cons_append], by simp only [wQQ, wSt, List.flatten_cons, List.flatten_nil, List.append_assoc, List.append_nil, List.nil_append, List.cons_append], rfl, rfl, rfl, rfl, rfl⟩
theorem sr_QQ_SS2 (cI : ClassId) (z z2 : Nat → Nat) (N : Sn × Sn) : Sg (wQQ cI z z2 N) (wSS cI (z 24) (fun k => z (25 + k)) (z2 24) (fun k => z2 (25 + k)) ((N.1.2.2, N.2.2.2))) (wSS cI (z 24) (fun k => z (25 + k)) (z2 24) (fun k => z2 (25 + k)) ((N.1.2.2, N.2.2.2))) (wQQ cI z z2 N) := ⟨[[(z 0, .inr (5, [.ref (z 1), .ref (z 12), .ref (z 24)]))], (wVn cI (fun k => z (1 + k)) ((N.1).1)), [(z 12, .inr (4, [.ref (z 13), .int (N.1).2.1.1]))], (wVn cI (fun k => z (13 + k)) ((N.1).2.1.2)), [(z 24, .inr (4, [.ref (z 25), .int (N.1).2.2.1]))], (wVn cI (fun k => z (25 + k)) ((N.1).2.2.2)), [(z2 0, .inr (5, [.ref (z2 1), .ref (z2 12), .ref (z2 24)]))], (wVn cI (fun k => z2 (1 + k)) ((N.2).1)), [(z2 12, .inr (4, [.ref (z2 13), .int (N.2).2.1.1]))], (wVn cI (fun k => z2 (13 + k)) ((N.2).2.1.2)), [(z2 24, .inr (4, [.ref (z2 25), .int (N.2).2.2.1]))], (wVn cI (fun k => z2 (25 + k)) ((N.2).2.2.2))], [[((z 24), .inr (4, [.ref ((fun k => z (25 + k)) 0), .int ((N.1.2.2, N.2.2.2)).1.1]))], (wVn cI (fun k => z (25 + k)) (((N.1.2.2, N.2.2.2)).1.2)), [((z2 24), .inr (4, [.ref ((fun k => z2 (25 + k)) 0), .int ((N.1.2.2, N.2.2.2)).2.1]))], (wVn cI (fun k => z2 (25 + k)) (((N.1.2.2, N.2.2.2)).2.2))], [[((z 24), .inr (4, [.ref ((fun k => z (25 + k)) 0), .int ((N.1.2.2, N.2.2.2)).1.1]))], (wVn cI (fun k => z (25 + k)) (((N.1.2.2, N.2.2.2)).1.2)), [((z2 24), .inr (4, [.ref ((fun k => z2 (25 + k)) 0), .int ((N.1.2.2, N.2.2.2)).2.1]))], (wVn cI (fun k => z2 (25 + k)) (((N.1.2.2, N.2.2.2)).2.2))], [[(z 0, .inr (5, [.ref (z 1), .ref (z 12), .ref (z 24)]))], (wVn cI (fun k => z (1 + k)) ((N.1).1)), [(z 12, .inr (4, [.ref (z 13), .int (N.1).2.1.1]))], (wVn cI (fun k => z (13 + k)) ((N.1).2.1.2)), [(z 24, .inr (4, [.ref (z 25), .int (N.1).2.2.1]))], (wVn cI (fun k => z (25 + k)) ((N.1).2.2.2)), [(z2 0, .inr (5, [.ref (z2 1), .ref (z2 12), .ref (z2 24)]))], (wVn cI (fun k => z2 (1 + k)) ((N.2).1)), [(z2 12, .inr (4, [.ref (z2 13), .int (N.2).2.1.1]))], (wVn cI (fun k => z2 (13 + k)) ((N.2).2.1.2)), [(z2 24, .inr (4, [.ref (z2 25), .int (N.2).2.2.1]))], (wVn cI (fun k => z2 (25 + k)) ((N.2).2.2.2))], [4, 5, 10, 11], [0, 1, 2, 3, 6, 7, 8, 9], by simp only [wQQ, wSt, List.flatten_cons, List.flatten_nil, List.append_assoc, List.append_nil, List.nil_append, List.cons_append], by simp only [wSS, List.flatten_cons, List.flatten_nil, List.append_assoc, List.append_nil, List.nil_append, List.cons_append], by simp only [wSS, List.flatten_cons, List.flatten_nil, List.append_assoc, List.append_nil, List.nil_append, List.cons_append], by simp only [wQQ, wSt, List.flatten_cons, List.flatten_nil, List.append_assoc, List.append_nil, List.nil_append, List.cons_append], rfl, rfl, rfl, rfl, rfl⟩
end
section
noncomputable def fX6_size (tn : Nat) (cap tw : Int32) (T : Tb) : Option (Int32) := some (T.1)
abbrev vX6_size : List Cond := Cond.code yX6_size cX6_size 1 (some .int) :: BIG
theorem gX6_size {own : String} {idx : Nat} (h : (Cond.methodLink own idx yX6_size) ∈ BIG) : GoodIn BIG (wsV own idx RX6 yX6_size vX6_size) := gdV h bw2_103 bw2_104 bw1_4 bw2_105
def rmX6_size : Room := { frames := 0, cells := 0, slots := 0, locals := 0 }
theorem hdX6_size : yX6_size.cls = RX6 ∧ yX6_size.cls ≠ "java/lang/invoke/MethodHandle" ∧ yX6_size.cls ≠ "java/lang/invoke/VarHandle" ∧ (parseMethodDescriptor yX6_size.desc).map (fun d => d.parameters.length) = some 0 := by decide +kernel
set_option maxHeartbeats 4000000 in
set_option maxRecDepth 100000 in
theorem kX6_size (l : Launch) (D : va_G) (cS : ClassId) (g : Nat → Nat) (cI : ClassId) (th tc tn : Nat) (cap tw : Int32) (T : Tb) (r : Int32) (hF : fX6_size tn cap tw T = some r) : mI l yX6_size vX6_size rmX6_size D cI cS g [.ref th] (wTb cI th tc tn cap tw T) r (wTb cI th tc tn cap tw T) := by
  refine st_I rfl (by decide) (Nat.le_of_ble_eq_true rfl) ?_
  intro p e s m args below meth c A ls hx hb hr hml hlocks hown hts hA hK hD0 hG hP hS hl
  have hown : s.vm.findClass RX6 = some m.cls := hown
  have hDa : ∀ T, va_D A (wTb cI th tc tn cap tw T) := fun T => hD0.adr rfl
  have htb : ∀ w ∈ BIG, w.before args s = true := fun w h => hts w (List.mem_cons_of_mem _ h)
  have hl : lv_has ls 1 [(0, .ref th)] := hl
  refine lv_aload_n hx hb dX6_size_0 rfl (lv_at hl 0 rfl) ?_
  refine va_get (ci := 6) (v := .int (T.1)) (C := RX6) (T := TX6) (N := 4) hx hb htb kin6 hown hK hP 0 (pTb_0 cI th tc tn cap tw T) rfl 3 (by decide) (htb _ bw1_49) (fun _ h9 => h9) rfl dX6_size_1 ?_
  exact rt_I hx hb hr hlocks hS hP (so_use hF) dX6_size_4
noncomputable def fX6_has_j17 (tn : Nat) (cap tw : Int32) (T : Tb) (s0 : Int32) : Option (Int32) := Zb s0 (some s0)
noncomputable def fX6_has_j16 (tn : Nat) (cap tw : Int32) (T : Tb) : Option (Int32) := fX6_has_j17 tn cap tw T 0
noncomputable def fX6_has (tn : Nat) (cap tw : Int32) (T : Tb) (x1 : Int32) : Option (Int32) := if x1 < 0 then (fX6_has_j16 tn cap tw T) else (if (T.1) ≤ x1 then (fX6_has_j16 tn cap tw T) else (fX6_has_j17 tn cap tw T 1))
abbrev vX6_has : List Cond := Cond.code yX6_has cX6_has 2 (some .boolean) :: BIG
theorem gX6_has {own : String} {idx : Nat} (h : (Cond.methodLink own idx yX6_has) ∈ BIG) : GoodIn BIG (wsV own idx RX6 yX6_has vX6_has) := gdV h bw2_56 bw2_57 bw1_4 bw2_58
def rmX6_has : Room := { frames := 0, cells := 0, slots := 0, locals := 0 }
theorem hdX6_has : yX6_has.cls = RX6 ∧ yX6_has.cls ≠ "java/lang/invoke/MethodHandle" ∧ yX6_has.cls ≠ "java/lang/invoke/VarHandle" ∧ (parseMethodDescriptor yX6_has.desc).map (fun d => d.parameters.length) = some 1 := by decide +kernel
set_option maxHeartbeats 4000000 in
set_option maxRecDepth 100000 in
theorem kX6_has (l : Launch) (D : va_G) (cS : ClassId) (g : Nat → Nat) (cI : ClassId) (th tc tn : Nat) (cap tw : Int32) (T : Tb) (x1 : Int32) (r : Int32) (hF : fX6_has tn cap tw T x1 = some r) : mI l yX6_has vX6_has rmX6_has D cI cS g [.ref th, .int x1] (wTb cI th tc tn cap tw T) r (wTb cI th tc tn cap tw T) := by
  refine st_I rfl (by decide) (Nat.le_of_ble_eq_true rfl) ?_
  intro p e s m args below meth c A ls hx hb hr hml hlocks hown hts hA hK hD0 hG hP hS hl
  have hown : s.vm.findClass RX6 = some m.cls := hown
  have hDa : ∀ T, va_D A (wTb cI th tc tn cap tw T) := fun T => hD0.adr rfl
  have htb : ∀ w ∈ BIG, w.before args s = true := fun w h => hts w (List.mem_cons_of_mem _ h)
  have hl : lv_has ls 2 [(0, .ref th), (1, .int x1)] := hl
  have j17 : ∀ (s0 : Int32) (H : Heap) (locs : List Loc) (ls : Array Slot), fX6_has_j17 tn cap tw T s0 = some r → va_P D vwCl (wTb cI th tc tn cap tw T) H → va_S A s.heap H locs → lv_has ls 2 [] → W p l e rmX6_has s m args below meth c H locs 0 0 (MQ below (qI D r (wTb cI th tc tn cap tw T) A) args s 0 0 A) (F0 m 17 ls [.int s0]) := by
    intro s0 H locs ls hF hP hS hl
    obtain ⟨hz, hF⟩ := zb_use hF
    exact rt_Z hx hb hr hlocks hS hP hz (so_use hF) dX6_has_17
  have j16 : ∀ (H : Heap) (locs : List Loc) (ls : Array Slot), fX6_has_j16 tn cap tw T = some r → va_P D vwCl (wTb cI th tc tn cap tw T) H → va_S A s.heap H locs → lv_has ls 2 [] → W p l e rmX6_has s m args below meth c H locs 0 0 (MQ below (qI D r (wTb cI th tc tn cap tw T) A) args s 0 0 A) (F0 m 16 ls []) := by
    intro H locs ls hF hP hS hl
    refine lv_iconst (v := 0) hx hb dX6_has_16 (by decide) ?_
    exact j17 0 _ _ _ hF hP hS (lv_sub hl [] rfl)
  refine lv_iload_n hx hb dX6_has_0 rfl (lv_at hl 1 rfl) ?_
  refine lv_if_lt (tgt := 16) hx hb dX6_has_1 (by decide) (fun c1 => ?_) (fun c1 => ?_)
  · have hF := it_t hF c1
    exact j16  _ _ _ hF hP hS (lv_sub hl [] rfl)
  · have hF := it_f hF c1
    refine lv_iload_n hx hb dX6_has_4 rfl (lv_at hl 1 rfl) ?_
    refine lv_aload_n hx hb dX6_has_5 rfl (lv_at hl 0 rfl) ?_
    refine va_get (ci := 6) (v := .int (T.1)) (C := RX6) (T := TX6) (N := 4) hx hb htb kin6 hown hK hP 0 (pTb_0 cI th tc tn cap tw T) rfl 3 (by decide) (htb _ bw1_49) (fun _ h9 => h9) rfl dX6_has_6 ?_
    refine lv_icmp_ge (tgt := 16) hx hb dX6_has_9 (by decide) (fun c2 => ?_) (fun c2 => ?_)
    · have hF := it_t hF c2
      exact j16  _ _ _ hF hP hS (lv_sub hl [] rfl)
    · have hF := it_f hF c2
      refine lv_iconst (v := 1) hx hb dX6_has_12 (by decide) ?_
      refine lv_goto (tgt := 17) hx hb dX6_has_13 (by decide) ?_
      exact j17 1 _ _ _ hF hP hS (lv_sub hl [] rfl)
noncomputable def fX6_isFull_j16 (tn : Nat) (cap tw : Int32) (T : Tb) (s0 : Int32) : Option (Int32) := Zb s0 (some s0)
noncomputable def fX6_isFull (tn : Nat) (cap tw : Int32) (T : Tb) : Option (Int32) := if (T.1) < cap then (fX6_isFull_j16 tn cap tw T 0) else (fX6_isFull_j16 tn cap tw T 1)
abbrev vX6_isFull : List Cond := Cond.code yX6_isFull cX6_isFull 1 (some .boolean) :: BIG
theorem gX6_isFull {own : String} {idx : Nat} (h : (Cond.methodLink own idx yX6_isFull) ∈ BIG) : GoodIn BIG (wsV own idx RX6 yX6_isFull vX6_isFull) := gdV h bw1_67 bw1_68 bw1_4 bw1_69
def rmX6_isFull : Room := { frames := 0, cells := 0, slots := 0, locals := 0 }
theorem hdX6_isFull : yX6_isFull.cls = RX6 ∧ yX6_isFull.cls ≠ "java/lang/invoke/MethodHandle" ∧ yX6_isFull.cls ≠ "java/lang/invoke/VarHandle" ∧ (parseMethodDescriptor yX6_isFull.desc).map (fun d => d.parameters.length) = some 0 := by decide +kernel
set_option maxHeartbeats 4000000 in
set_option maxRecDepth 100000 in
theorem kX6_isFull (l : Launch) (D : va_G) (cS : ClassId) (g : Nat → Nat) (cI : ClassId) (th tc tn : Nat) (cap tw : Int32) (T : Tb) (r : Int32) (hF : fX6_isFull tn cap tw T = some r) : mI l yX6_isFull vX6_isFull rmX6_isFull D cI cS g [.ref th] (wTb cI th tc tn cap tw T) r (wTb cI th tc tn cap tw T) := by
  refine st_I rfl (by decide) (Nat.le_of_ble_eq_true rfl) ?_
  intro p e s m args below meth c A ls hx hb hr hml hlocks hown hts hA hK hD0 hG hP hS hl
  have hown : s.vm.findClass RX6 = some m.cls := hown
  have hDa : ∀ T, va_D A (wTb cI th tc tn cap tw T) := fun T => hD0.adr rfl
  have htb : ∀ w ∈ BIG, w.before args s = true := fun w h => hts w (List.mem_cons_of_mem _ h)
  have hl : lv_has ls 1 [(0, .ref th)] := hl
  have j16 : ∀ (s0 : Int32) (H : Heap) (locs : List Loc) (ls : Array Slot), fX6_isFull_j16 tn cap tw T s0 = some r → va_P D vwCl (wTb cI th tc tn cap tw T) H → va_S A s.heap H locs → lv_has ls 1 [] → W p l e rmX6_isFull s m args below meth c H locs 0 0 (MQ below (qI D r (wTb cI th tc tn cap tw T) A) args s 0 0 A) (F0 m 16 ls [.int s0]) := by
    intro s0 H locs ls hF hP hS hl
    obtain ⟨hz, hF⟩ := zb_use hF
    exact rt_Z hx hb hr hlocks hS hP hz (so_use hF) dX6_isFull_16
  refine lv_aload_n hx hb dX6_isFull_0 rfl (lv_at hl 0 rfl) ?_
  refine va_get (ci := 6) (v := .int (T.1)) (C := RX6) (T := TX6) (N := 4) hx hb htb kin6 hown hK hP 0 (pTb_0 cI th tc tn cap tw T) rfl 3 (by decide) (htb _ bw1_49) (fun _ h9 => h9) rfl dX6_isFull_1 ?_
  refine lv_aload_n hx hb dX6_isFull_4 rfl (lv_at hl 0 rfl) ?_
  refine va_get (ci := 6) (v := .int cap) (C := RX6) (T := TX6) (N := 4) hx hb htb kin6 hown hK hP 0 (pTb_0 cI th tc tn cap tw T) rfl 1 (by decide) (htb _ bw1_47) (fun _ h9 => h9) rfl dX6_isFull_5 ?_
  refine lv_icmp_lt (tgt := 15) hx hb dX6_isFull_8 (by decide) (fun c1 => ?_) (fun c1 => ?_)
  · have hF := it_t hF c1
    refine lv_iconst (v := 0) hx hb dX6_isFull_15 (by decide) ?_
    exact j16 0 _ _ _ hF hP hS (lv_sub hl [] rfl)
  · have hF := it_f hF c1
    refine lv_iconst (v := 1) hx hb dX6_isFull_11 (by decide) ?_
    refine lv_goto (tgt := 16) hx hb dX6_isFull_12 (by decide) ?_
    exact j16 1 _ _ _ hF hP hS (lv_sub hl [] rfl)
noncomputable def fX6_cell_j68 (tn : Nat) (cap tw : Int32) (T : Tb) (s0 : Int32) : Option (Int32) := some s0
noncomputable def fX6_cell_j67 (tn : Nat) (cap tw : Int32) (T : Tb) : Option (Int32) := fX6_cell_j68 tn cap tw T 0
noncomputable def fX6_cell_j38 (tn : Nat) (cap tw : Int32) (T : Tb) (x3 : Int32) (s0 : Int32) : Option (Int32) := if s0 = 0 then (fX6_cell_j67 tn cap tw T) else (if x3 < 0 then (fX6_cell_j67 tn cap tw T) else (if (nI tn) ≤ x3 then (fX6_cell_j67 tn cap tw T) else (Rd (T.2) tn x3 fun v6 => fX6_cell_j68 tn cap tw T v6)))
noncomputable def fX6_cell_j37 (tn : Nat) (cap tw : Int32) (T : Tb) (x3 : Int32) : Option (Int32) := fX6_cell_j38 tn cap tw T x3 0
noncomputable def fX6_cell (tn : Nat) (cap tw : Int32) (T : Tb) (x1 : Int32) (x2 : Int32) : Option (Int32) := nm ((x1 * tw) + x2) fun v1 => if x1 < 0 then (fX6_cell_j37 tn cap tw T v1) else (if (T.1) ≤ x1 then (fX6_cell_j37 tn cap tw T v1) else (if x2 < 0 then (fX6_cell_j37 tn cap tw T v1) else (if tw ≤ x2 then (fX6_cell_j37 tn cap tw T v1) else (fX6_cell_j38 tn cap tw T v1 1))))
abbrev vX6_cell : List Cond := Cond.code yX6_cell cX6_cell 5 (some .int) :: BIG
theorem gX6_cell {own : String} {idx : Nat} (h : (Cond.methodLink own idx yX6_cell) ∈ BIG) : GoodIn BIG (wsV own idx RX6 yX6_cell vX6_cell) := gdV h bw2_60 bw2_61 bw1_4 bw2_62
def rmX6_cell : Room := { frames := 0, cells := 0, slots := 0, locals := 0 }
theorem hdX6_cell : yX6_cell.cls = RX6 ∧ yX6_cell.cls ≠ "java/lang/invoke/MethodHandle" ∧ yX6_cell.cls ≠ "java/lang/invoke/VarHandle" ∧ (parseMethodDescriptor yX6_cell.desc).map (fun d => d.parameters.length) = some 2 := by decide +kernel
set_option maxHeartbeats 4000000 in
set_option maxRecDepth 100000 in
theorem kX6_cell (l : Launch) (D : va_G) (cS : ClassId) (g : Nat → Nat) (cI : ClassId) (th tc tn : Nat) (cap tw : Int32) (T : Tb) (x1 : Int32) (x2 : Int32) (r : Int32) (hF : fX6_cell tn cap tw T x1 x2 = some r) : mI l yX6_cell vX6_cell rmX6_cell D cI cS g [.ref th, .int x1, .int x2] (wTb cI th tc tn cap tw T) r (wTb cI th tc tn cap tw T) := by
  refine st_I rfl (by decide) (Nat.le_of_ble_eq_true rfl) ?_
  intro p e s m args below meth c A ls hx hb hr hml hlocks hown hts hA hK hD0 hG hP hS hl
  have hown : s.vm.findClass RX6 = some m.cls := hown
  have hDa : ∀ T, va_D A (wTb cI th tc tn cap tw T) := fun T => hD0.adr rfl
  have htb : ∀ w ∈ BIG, w.before args s = true := fun w h => hts w (List.mem_cons_of_mem _ h)
  have hl : lv_has ls 5 [(0, .ref th), (1, .int x1), (2, .int x2)] := hl
  have j68 : ∀ (s0 : Int32) (H : Heap) (locs : List Loc) (ls : Array Slot), fX6_cell_j68 tn cap tw T s0 = some r → va_P D vwCl (wTb cI th tc tn cap tw T) H → va_S A s.heap H locs → lv_has ls 5 [] → W p l e rmX6_cell s m args below meth c H locs 0 0 (MQ below (qI D r (wTb cI th tc tn cap tw T) A) args s 0 0 A) (F0 m 68 ls [.int s0]) := by
    intro s0 H locs ls hF hP hS hl
    exact rt_I hx hb hr hlocks hS hP (so_use hF) dX6_cell_68
  have j67 : ∀ (H : Heap) (locs : List Loc) (ls : Array Slot), fX6_cell_j67 tn cap tw T = some r → va_P D vwCl (wTb cI th tc tn cap tw T) H → va_S A s.heap H locs → lv_has ls 5 [] → W p l e rmX6_cell s m args below meth c H locs 0 0 (MQ below (qI D r (wTb cI th tc tn cap tw T) A) args s 0 0 A) (F0 m 67 ls []) := by
    intro H locs ls hF hP hS hl
    refine lv_iconst (v := 0) hx hb dX6_cell_67 (by decide) ?_
    exact j68 0 _ _ _ hF hP hS (lv_sub hl [] rfl)
  have j38 : ∀ (x3 : Int32) (s0 : Int32) (H : Heap) (locs : List Loc) (ls : Array Slot), fX6_cell_j38 tn cap tw T x3 s0 = some r → va_P D vwCl (wTb cI th tc tn cap tw T) H → va_S A s.heap H locs → lv_has ls 5 [(0, .ref th), (3, .int x3)] → W p l e rmX6_cell s m args below meth c H locs 0 0 (MQ below (qI D r (wTb cI th tc tn cap tw T) A) args s 0 0 A) (F0 m 38 ls [.int s0]) := by
    intro x3 s0 H locs ls hF hP hS hl
    refine lv_istore (lv' := [(4, .int s0), (0, .ref th), (3, .int x3)]) hx hb dX6_cell_38 hl (by decide) rfl (fun ls hl => ?_)
    refine lv_iload hx hb dX6_cell_40 (lv_at hl 0 rfl) ?_
    refine lv_if_eq (tgt := 67) hx hb dX6_cell_42 (by decide) (fun c3 => ?_) (fun c3 => ?_)
    · have hF := it_t hF c3
      exact j67  _ _ _ hF hP hS (lv_sub hl [] rfl)
    · have hF := it_f hF c3
      refine lv_iload_n hx hb dX6_cell_45 rfl (lv_at hl 2 rfl) ?_
      refine lv_if_lt (tgt := 67) hx hb dX6_cell_46 (by decide) (fun c4 => ?_) (fun c4 => ?_)
      · have hF := it_t hF c4
        exact j67  _ _ _ hF hP hS (lv_sub hl [] rfl)
      · have hF := it_f hF c4
        refine lv_iload_n hx hb dX6_cell_49 rfl (lv_at hl 2 rfl) ?_
        refine lv_aload_n hx hb dX6_cell_50 rfl (lv_at hl 1 rfl) ?_
        refine va_get (ci := 6) (v := .ref tc) (C := RX6) (T := TX6) (N := 4) hx hb htb kin6 hown hK hP 0 (pTb_0 cI th tc tn cap tw T) rfl 0 (by decide) (htb _ bw1_46) (fun _ h9 => h9) rfl dX6_cell_51 ?_
        refine va_alen (v := nI tn) hx hb hK hP 1 0 (pTb_1 cI th tc tn cap tw T) rfl rfl dX6_cell_54 ?_
        refine lv_icmp_ge (tgt := 67) hx hb dX6_cell_55 (by decide) (fun c5 => ?_) (fun c5 => ?_)
        · have hF := it_t hF c5
          exact j67  _ _ _ hF hP hS (lv_sub hl [] rfl)
        · have hF := it_f hF c5
          refine lv_aload_n hx hb dX6_cell_58 rfl (lv_at hl 1 rfl) ?_
          refine va_get (ci := 6) (v := .ref tc) (C := RX6) (T := TX6) (N := 4) hx hb htb kin6 hown hK hP 0 (pTb_0 cI th tc tn cap tw T) rfl 0 (by decide) (htb _ bw1_46) (fun _ h9 => h9) rfl dX6_cell_59 ?_
          refine lv_iload_n hx hb dX6_cell_62 rfl (lv_at hl 2 rfl) ?_
          obtain ⟨hi, hF⟩ := rd_use hF
          refine va_iald hx hb hK hP 1 0 (pTb_1 cI th tc tn cap tw T) rfl hi dX6_cell_63 ?_
          refine lv_topi (fun v6 ev6 => ?_)
          have hF := hF v6 ev6
          refine lv_goto (tgt := 68) hx hb dX6_cell_64 (by decide) ?_
          exact j68 v6 _ _ _ hF hP hS (lv_sub hl [] rfl)
  have j37 : ∀ (x3 : Int32) (H : Heap) (locs : List Loc) (ls : Array Slot), fX6_cell_j37 tn cap tw T x3 = some r → va_P D vwCl (wTb cI th tc tn cap tw T) H → va_S A s.heap H locs → lv_has ls 5 [(0, .ref th), (3, .int x3)] → W p l e rmX6_cell s m args below meth c H locs 0 0 (MQ below (qI D r (wTb cI th tc tn cap tw T) A) args s 0 0 A) (F0 m 37 ls []) := by
    intro x3 H locs ls hF hP hS hl
    refine lv_iconst (v := 0) hx hb dX6_cell_37 (by decide) ?_
    exact j38 x3 0 _ _ _ hF hP hS (lv_sub hl [0, 1] rfl)
  refine lv_iload_n hx hb dX6_cell_0 rfl (lv_at hl 1 rfl) ?_
  refine lv_aload_n hx hb dX6_cell_1 rfl (lv_at hl 0 rfl) ?_
  refine va_get (ci := 6) (v := .int tw) (C := RX6) (T := TX6) (N := 4) hx hb htb kin6 hown hK hP 0 (pTb_0 cI th tc tn cap tw T) rfl 2 (by decide) (htb _ bw1_48) (fun _ h9 => h9) rfl dX6_cell_2 ?_
  refine lv_imul hx hb dX6_cell_5 ?_
  refine lv_iload_n hx hb dX6_cell_6 rfl (lv_at hl 2 rfl) ?_
  refine lv_iadd hx hb dX6_cell_7 ?_
  refine lv_topi (fun v1 ev1 => ?_)
  have hF := nm_use hF ev1
  refine lv_istore_n (lv' := [(3, .int v1), (0, .ref th), (1, .int x1), (2, .int x2)]) hx hb dX6_cell_8 rfl hl (by decide) rfl (fun ls hl => ?_)
  refine lv_iload_n hx hb dX6_cell_9 rfl (lv_at hl 2 rfl) ?_
  refine lv_if_lt (tgt := 37) hx hb dX6_cell_10 (by decide) (fun c2 => ?_) (fun c2 => ?_)
  · have hF := it_t hF c2
    exact j37 v1 _ _ _ hF hP hS (lv_sub hl [1, 0] rfl)
  · have hF := it_f hF c2
    refine lv_iload_n hx hb dX6_cell_13 rfl (lv_at hl 2 rfl) ?_
    refine lv_aload_n hx hb dX6_cell_14 rfl (lv_at hl 1 rfl) ?_
    refine va_get (ci := 6) (v := .int (T.1)) (C := RX6) (T := TX6) (N := 4) hx hb htb kin6 hown hK hP 0 (pTb_0 cI th tc tn cap tw T) rfl 3 (by decide) (htb _ bw1_49) (fun _ h9 => h9) rfl dX6_cell_15 ?_
    refine lv_icmp_ge (tgt := 37) hx hb dX6_cell_18 (by decide) (fun c7 => ?_) (fun c7 => ?_)
    · have hF := it_t hF c7
      exact j37 v1 _ _ _ hF hP hS (lv_sub hl [1, 0] rfl)
    · have hF := it_f hF c7
      refine lv_iload_n hx hb dX6_cell_21 rfl (lv_at hl 3 rfl) ?_
      refine lv_if_lt (tgt := 37) hx hb dX6_cell_22 (by decide) (fun c8 => ?_) (fun c8 => ?_)
      · have hF := it_t hF c8
        exact j37 v1 _ _ _ hF hP hS (lv_sub hl [1, 0] rfl)
      · have hF := it_f hF c8
        refine lv_iload_n hx hb dX6_cell_25 rfl (lv_at hl 3 rfl) ?_
        refine lv_aload_n hx hb dX6_cell_26 rfl (lv_at hl 1 rfl) ?_
        refine va_get (ci := 6) (v := .int tw) (C := RX6) (T := TX6) (N := 4) hx hb htb kin6 hown hK hP 0 (pTb_0 cI th tc tn cap tw T) rfl 2 (by decide) (htb _ bw1_48) (fun _ h9 => h9) rfl dX6_cell_27 ?_
        refine lv_icmp_ge (tgt := 37) hx hb dX6_cell_30 (by decide) (fun c9 => ?_) (fun c9 => ?_)
        · have hF := it_t hF c9
          exact j37 v1 _ _ _ hF hP hS (lv_sub hl [1, 0] rfl)
        · have hF := it_f hF c9
          refine lv_iconst (v := 1) hx hb dX6_cell_33 (by decide) ?_
          refine lv_goto (tgt := 38) hx hb dX6_cell_34 (by decide) ?_
          exact j38 v1 1 _ _ _ hF hP hS (lv_sub hl [1, 0] rfl)
noncomputable def fX6_put_j39 (tn : Nat) (cap tw : Int32) (T : Tb) (x3 : Int32) (x4 : Int32) (s0 : Int32) : Option (Tb) := if s0 = 0 then (some T) else (if x4 < 0 then (some T) else (if (nI tn) ≤ x4 then (some T) else (Wr (T.2) tn x4 x3 fun f6 => nm ((T.1, f6)) fun M7 => some M7)))
noncomputable def fX6_put_j38 (tn : Nat) (cap tw : Int32) (T : Tb) (x3 : Int32) (x4 : Int32) : Option (Tb) := fX6_put_j39 tn cap tw T x3 x4 0
noncomputable def fX6_put (tn : Nat) (cap tw : Int32) (T : Tb) (x1 : Int32) (x2 : Int32) (x3 : Int32) : Option (Tb) := nm ((x1 * tw) + x2) fun v1 => if x1 < 0 then (fX6_put_j38 tn cap tw T x3 v1) else (if (T.1) ≤ x1 then (fX6_put_j38 tn cap tw T x3 v1) else (if x2 < 0 then (fX6_put_j38 tn cap tw T x3 v1) else (if tw ≤ x2 then (fX6_put_j38 tn cap tw T x3 v1) else (fX6_put_j39 tn cap tw T x3 v1 1))))
abbrev vX6_put : List Cond := Cond.code yX6_put cX6_put 6 none :: BIG
theorem gX6_put {own : String} {idx : Nat} (h : (Cond.methodLink own idx yX6_put) ∈ BIG) : GoodIn BIG (wsV own idx RX6 yX6_put vX6_put) := gdV h bw1_71 bw1_72 bw1_4 bw1_73
def rmX6_put : Room := { frames := 0, cells := 0, slots := 0, locals := 0 }
theorem hdX6_put : yX6_put.cls = RX6 ∧ yX6_put.cls ≠ "java/lang/invoke/MethodHandle" ∧ yX6_put.cls ≠ "java/lang/invoke/VarHandle" ∧ (parseMethodDescriptor yX6_put.desc).map (fun d => d.parameters.length) = some 3 := by decide +kernel
set_option maxHeartbeats 4000000 in
set_option maxRecDepth 100000 in
theorem kX6_put (l : Launch) (D : va_G) (cS : ClassId) (g : Nat → Nat) (cI : ClassId) (th tc tn : Nat) (cap tw : Int32) (T : Tb) (x1 : Int32) (x2 : Int32) (x3 : Int32) (M' : Tb) (hF : fX6_put tn cap tw T x1 x2 x3 = some M') : mV l yX6_put vX6_put rmX6_put D cI cS g [.ref th, .int x1, .int x2, .int x3] (wTb cI th tc tn cap tw T) (wTb cI th tc tn cap tw (M')) := by
  refine st_V rfl (by decide) (Nat.le_of_ble_eq_true rfl) ?_
  intro p e s m args below meth c A ls hx hb hr hml hlocks hown hts hA hK hD0 hG hP hS hl
  have hown : s.vm.findClass RX6 = some m.cls := hown
  have hDa : ∀ T, va_D A (wTb cI th tc tn cap tw T) := fun T => hD0.adr rfl
  have htb : ∀ w ∈ BIG, w.before args s = true := fun w h => hts w (List.mem_cons_of_mem _ h)
  have hl : lv_has ls 6 [(0, .ref th), (1, .int x1), (2, .int x2), (3, .int x3)] := hl
  have j39 : ∀ (T : Tb) (x3 : Int32) (x4 : Int32) (s0 : Int32) (H : Heap) (locs : List Loc) (ls : Array Slot), fX6_put_j39 tn cap tw T x3 x4 s0 = some M' → va_P D vwCl (wTb cI th tc tn cap tw T) H → va_S A s.heap H locs → lv_has ls 6 [(0, .ref th), (3, .int x3), (4, .int x4)] → W p l e rmX6_put s m args below meth c H locs 0 0 (MQ below (qV D (wTb cI th tc tn cap tw (M')) A) args s 0 0 A) (F0 m 39 ls [.int s0]) := by
    intro T x3 x4 s0 H locs ls hF hP hS hl
    refine lv_istore (lv' := [(5, .int s0), (0, .ref th), (3, .int x3), (4, .int x4)]) hx hb dX6_put_39 hl (by decide) rfl (fun ls hl => ?_)
    refine lv_iload hx hb dX6_put_41 (lv_at hl 0 rfl) ?_
    refine lv_if_eq (tgt := 69) hx hb dX6_put_43 (by decide) (fun c3 => ?_) (fun c3 => ?_)
    · have hF := it_t hF c3
      exact rt_V hx hb hr hlocks hS (by rw [← so_use hF]; exact hP) dX6_put_69
    · have hF := it_f hF c3
      refine lv_iload hx hb dX6_put_46 (lv_at hl 3 rfl) ?_
      refine lv_if_lt (tgt := 69) hx hb dX6_put_48 (by decide) (fun c4 => ?_) (fun c4 => ?_)
      · have hF := it_t hF c4
        exact rt_V hx hb hr hlocks hS (by rw [← so_use hF]; exact hP) dX6_put_69
      · have hF := it_f hF c4
        refine lv_iload hx hb dX6_put_51 (lv_at hl 3 rfl) ?_
        refine lv_aload_n hx hb dX6_put_53 rfl (lv_at hl 1 rfl) ?_
        refine va_get (ci := 6) (v := .ref tc) (C := RX6) (T := TX6) (N := 4) hx hb htb kin6 hown hK hP 0 (pTb_0 cI th tc tn cap tw T) rfl 0 (by decide) (htb _ bw1_46) (fun _ h9 => h9) rfl dX6_put_54 ?_
        refine va_alen (v := nI tn) hx hb hK hP 1 0 (pTb_1 cI th tc tn cap tw T) rfl rfl dX6_put_57 ?_
        refine lv_icmp_ge (tgt := 69) hx hb dX6_put_58 (by decide) (fun c5 => ?_) (fun c5 => ?_)
        · have hF := it_t hF c5
          exact rt_V hx hb hr hlocks hS (by rw [← so_use hF]; exact hP) dX6_put_69
        · have hF := it_f hF c5
          refine lv_aload_n hx hb dX6_put_61 rfl (lv_at hl 1 rfl) ?_
          refine va_get (ci := 6) (v := .ref tc) (C := RX6) (T := TX6) (N := 4) hx hb htb kin6 hown hK hP 0 (pTb_0 cI th tc tn cap tw T) rfl 0 (by decide) (htb _ bw1_46) (fun _ h9 => h9) rfl dX6_put_62 ?_
          refine lv_iload hx hb dX6_put_65 (lv_at hl 3 rfl) ?_
          refine lv_iload_n hx hb dX6_put_67 rfl (lv_at hl 2 rfl) ?_
          obtain ⟨hi, hF⟩ := wr_use hF
          refine va_iast hx hb hK hP (hDa _) hS 1 0 (pTb_1 cI th tc tn cap tw T) rfl hi dX6_put_68 (fun H locs hP _ hS => ?_)
          obtain ⟨M7, eM7⟩ : ∃ z : Tb, z = (T.1, (upd (T.2) (x4).toNatClampNeg x3)) := ⟨_, rfl⟩
          have hF := nm_use hF eM7
          have hP : va_P D vwCl (wTb cI th tc tn cap tw M7) H := by rw [eM7]; exact hP
          exact rt_V hx hb hr hlocks hS (by rw [← so_use hF]; exact hP) dX6_put_69
  have j38 : ∀ (T : Tb) (x3 : Int32) (x4 : Int32) (H : Heap) (locs : List Loc) (ls : Array Slot), fX6_put_j38 tn cap tw T x3 x4 = some M' → va_P D vwCl (wTb cI th tc tn cap tw T) H → va_S A s.heap H locs → lv_has ls 6 [(0, .ref th), (3, .int x3), (4, .int x4)] → W p l e rmX6_put s m args below meth c H locs 0 0 (MQ below (qV D (wTb cI th tc tn cap tw (M')) A) args s 0 0 A) (F0 m 38 ls []) := by
    intro T x3 x4 H locs ls hF hP hS hl
    refine lv_iconst (v := 0) hx hb dX6_put_38 (by decide) ?_
    exact j39 T x3 x4 0 _ _ _ hF hP hS (lv_sub hl [0, 1, 2] rfl)
  refine lv_iload_n hx hb dX6_put_0 rfl (lv_at hl 1 rfl) ?_
  refine lv_aload_n hx hb dX6_put_1 rfl (lv_at hl 0 rfl) ?_
  refine va_get (ci := 6) (v := .int tw) (C := RX6) (T := TX6) (N := 4) hx hb htb kin6 hown hK hP 0 (pTb_0 cI th tc tn cap tw T) rfl 2 (by decide) (htb _ bw1_48) (fun _ h9 => h9) rfl dX6_put_2 ?_
  refine lv_imul hx hb dX6_put_5 ?_
  refine lv_iload_n hx hb dX6_put_6 rfl (lv_at hl 2 rfl) ?_
  refine lv_iadd hx hb dX6_put_7 ?_
  refine lv_topi (fun v1 ev1 => ?_)
  have hF := nm_use hF ev1
  refine lv_istore (lv' := [(4, .int v1), (0, .ref th), (1, .int x1), (2, .int x2), (3, .int x3)]) hx hb dX6_put_8 hl (by decide) rfl (fun ls hl => ?_)
  refine lv_iload_n hx hb dX6_put_10 rfl (lv_at hl 2 rfl) ?_
  refine lv_if_lt (tgt := 38) hx hb dX6_put_11 (by decide) (fun c2 => ?_) (fun c2 => ?_)
  · have hF := it_t hF c2
    exact j38 T x3 v1 _ _ _ hF hP hS (lv_sub hl [1, 4, 0] rfl)
  · have hF := it_f hF c2
    refine lv_iload_n hx hb dX6_put_14 rfl (lv_at hl 2 rfl) ?_
    refine lv_aload_n hx hb dX6_put_15 rfl (lv_at hl 1 rfl) ?_
    refine va_get (ci := 6) (v := .int (T.1)) (C := RX6) (T := TX6) (N := 4) hx hb htb kin6 hown hK hP 0 (pTb_0 cI th tc tn cap tw T) rfl 3 (by decide) (htb _ bw1_49) (fun _ h9 => h9) rfl dX6_put_16 ?_
    refine lv_icmp_ge (tgt := 38) hx hb dX6_put_19 (by decide) (fun c8 => ?_) (fun c8 => ?_)
    · have hF := it_t hF c8
      exact j38 T x3 v1 _ _ _ hF hP hS (lv_sub hl [1, 4, 0] rfl)
    · have hF := it_f hF c8
      refine lv_iload_n hx hb dX6_put_22 rfl (lv_at hl 3 rfl) ?_
      refine lv_if_lt (tgt := 38) hx hb dX6_put_23 (by decide) (fun c9 => ?_) (fun c9 => ?_)
      · have hF := it_t hF c9
        exact j38 T x3 v1 _ _ _ hF hP hS (lv_sub hl [1, 4, 0] rfl)
      · have hF := it_f hF c9
        refine lv_iload_n hx hb dX6_put_26 rfl (lv_at hl 3 rfl) ?_
        refine lv_aload_n hx hb dX6_put_27 rfl (lv_at hl 1 rfl) ?_
        refine va_get (ci := 6) (v := .int tw) (C := RX6) (T := TX6) (N := 4) hx hb htb kin6 hown hK hP 0 (pTb_0 cI th tc tn cap tw T) rfl 2 (by decide) (htb _ bw1_48) (fun _ h9 => h9) rfl dX6_put_28 ?_
        refine lv_icmp_ge (tgt := 38) hx hb dX6_put_31 (by decide) (fun c10 => ?_) (fun c10 => ?_)
        · have hF := it_t hF c10
          exact j38 T x3 v1 _ _ _ hF hP hS (lv_sub hl [1, 4, 0] rfl)
        · have hF := it_f hF c10
          refine lv_iconst (v := 1) hx hb dX6_put_34 (by decide) ?_
          refine lv_goto (tgt := 39) hx hb dX6_put_35 (by decide) ?_
          exact j39 T x3 v1 1 _ _ _ hF hP hS (lv_sub hl [1, 4, 0] rfl)
noncomputable def fX6_raise (tn : Nat) (cap tw : Int32) (T : Tb) (x1 : Int32) (x2 : Int32) (x3 : Int32) : Option (Tb) := (fX6_cell tn cap tw T x1 x2).bind fun r1 => (fX6_put tn cap tw T x1 x2 (r1 + x3)).bind fun M2 => some M2
abbrev vX6_raise : List Cond := Cond.code yX6_raise cX6_raise 4 none :: BIG
theorem gX6_raise {own : String} {idx : Nat} (h : (Cond.methodLink own idx yX6_raise) ∈ BIG) : GoodIn BIG (wsV own idx RX6 yX6_raise vX6_raise) := gdV h bw2_124 bw2_125 bw1_4 bw2_126
def rmX6_raise : Room := { frames := 1, cells := 0, slots := 0, locals := 25 }
theorem hdX6_raise : yX6_raise.cls = RX6 ∧ yX6_raise.cls ≠ "java/lang/invoke/MethodHandle" ∧ yX6_raise.cls ≠ "java/lang/invoke/VarHandle" ∧ (parseMethodDescriptor yX6_raise.desc).map (fun d => d.parameters.length) = some 3 := by decide +kernel
set_option maxHeartbeats 4000000 in
set_option maxRecDepth 100000 in
theorem kX6_raise (l : Launch) (D : va_G) (cS : ClassId) (g : Nat → Nat) (cI : ClassId) (th tc tn : Nat) (cap tw : Int32) (T : Tb) (x1 : Int32) (x2 : Int32) (x3 : Int32) (M' : Tb) (hF : fX6_raise tn cap tw T x1 x2 x3 = some M') : mV l yX6_raise vX6_raise rmX6_raise D cI cS g [.ref th, .int x1, .int x2, .int x3] (wTb cI th tc tn cap tw T) (wTb cI th tc tn cap tw (M')) := by
  refine st_V rfl (by decide) (Nat.le_of_ble_eq_true rfl) ?_
  intro p e s m args below meth c A ls hx hb hr hml hlocks hown hts hA hK hD0 hG hP hS hl
  have hown : s.vm.findClass RX6 = some m.cls := hown
  have hDa : ∀ T, va_D A (wTb cI th tc tn cap tw T) := fun T => hD0.adr rfl
  have htb : ∀ w ∈ BIG, w.before args s = true := fun w h => hts w (List.mem_cons_of_mem _ h)
  have hl : lv_has ls 4 [(0, .ref th), (1, .int x1), (2, .int x2), (3, .int x3)] := hl
  refine lv_aload_n hx hb dX6_raise_0 rfl (lv_at hl 0 rfl) ?_
  refine lv_iload_n hx hb dX6_raise_1 rfl (lv_at hl 1 rfl) ?_
  refine lv_iload_n hx hb dX6_raise_2 rfl (lv_at hl 2 rfl) ?_
  refine lv_aload_n hx hb dX6_raise_3 rfl (lv_at hl 0 rfl) ?_
  refine lv_iload_n hx hb dX6_raise_4 rfl (lv_at hl 1 rfl) ?_
  refine lv_iload_n hx hb dX6_raise_5 rfl (lv_at hl 2 rfl) ?_
  obtain ⟨r1, hr1, hF⟩ := bd_use hF
  refine cl_VI ⟨hx, hb, hml, hown, htb⟩ (kX6_cell l D cS g cI th tc tn cap tw T x1 x2 _ hr1) (cwV 2 htb (gX6_cell bw2_127) rfl rfl rfl hdX6_cell ⟨Nat.le_of_ble_eq_true rfl, Nat.le_of_ble_eq_true rfl⟩) hK (hDa _) hG hA hP hS (sr_Tb_Tb cI th tc tn cap tw T) hl.1 rfl 0 (pTb_0 _ _ _ _ _ _ _) rfl rfl (Nat.le_of_ble_eq_true rfl) dX6_raise_6 (fun H locs hP hS => ?_)
  refine lv_iload_n hx hb dX6_raise_9 rfl (lv_at hl 3 rfl) ?_
  refine lv_iadd hx hb dX6_raise_10 ?_
  obtain ⟨M2, hM2, hF⟩ := bd_use hF
  refine cl_VV ⟨hx, hb, hml, hown, htb⟩ (kX6_put l D cS g cI th tc tn cap tw T x1 x2 (r1 + x3) _ hM2) (cwV 3 htb (gX6_put bw1_70) rfl rfl rfl hdX6_put ⟨Nat.le_of_ble_eq_true rfl, Nat.le_of_ble_eq_true rfl⟩) hK (hDa _) hG hA hP hS (sg_Tb_Tb cI th tc tn cap tw T M2) hl.1 rfl 0 (pTb_0 _ _ _ _ _ _ _) rfl rfl (Nat.le_of_ble_eq_true rfl) dX6_raise_11 (fun H locs hP hS => ?_)
  exact rt_V hx hb hr hlocks hS (by rw [← so_use hF]; exact hP) dX6_raise_14
noncomputable def fX6_addRow_l24 (tn : Nat) (cap tw : Int32) (x1 : Int32) : Nat → Tb → Int32 → Option (Int32 × Tb) := fun fu => Nat.rec (motive := fun _ => Tb → Int32 → Option (Int32 × Tb)) (fun _ _ => none) (fun _ ih => fun T x2 => if tw ≤ x2 then (some (x1, T)) else ((fX6_put tn cap tw T x1 x2 0).bind fun M7 => nm (x2 + 1) fun v8 => ih M7 v8)) fu
noncomputable def fX6_addRow (tn : Nat) (cap tw : Int32) (T : Tb) : Option (Int32 × Tb) := (fX6_isFull tn cap tw T).bind fun r1 => if r1 = 0 then (nm (T.1) fun v3 => nm (v3 + 1) fun v4 => nm ((v4, T.2)) fun M5 => fX6_addRow_l24 tn cap tw v3 FU M5 0) else (some ((-9), T))
abbrev vX6_addRow : List Cond := Cond.code yX6_addRow cX6_addRow 3 (some .int) :: BIG
theorem gX6_addRow {own : String} {idx : Nat} (h : (Cond.methodLink own idx yX6_addRow) ∈ BIG) : GoodIn BIG (wsV own idx RX6 yX6_addRow vX6_addRow) := gdV h bw1_63 bw1_64 bw1_4 bw1_65
def rmX6_addRow : Room := { frames := 1, cells := 0, slots := 0, locals := 25 }
theorem hdX6_addRow : yX6_addRow.cls = RX6 ∧ yX6_addRow.cls ≠ "java/lang/invoke/MethodHandle" ∧ yX6_addRow.cls ≠ "java/lang/invoke/VarHandle" ∧ (parseMethodDescriptor yX6_addRow.desc).map (fun d => d.parameters.length) = some 0 := by decide +kernel
set_option maxHeartbeats 4000000 in
set_option maxRecDepth 100000 in
theorem kX6_addRow (l : Launch) (D : va_G) (cS : ClassId) (g : Nat → Nat) (cI : ClassId) (th tc tn : Nat) (cap tw : Int32) (T : Tb) (r : Int32) (M' : Tb) (hF : fX6_addRow tn cap tw T = some (r, M')) : mI l yX6_addRow vX6_addRow rmX6_addRow D cI cS g [.ref th] (wTb cI th tc tn cap tw T) r (wTb cI th tc tn cap tw (M')) := by
  refine st_I rfl (by decide) (Nat.le_of_ble_eq_true rfl) ?_
  intro p e s m args below meth c A ls hx hb hr hml hlocks hown hts hA hK hD0 hG hP hS hl
  have hown : s.vm.findClass RX6 = some m.cls := hown
  have hDa : ∀ T, va_D A (wTb cI th tc tn cap tw T) := fun T => hD0.adr rfl
  have htb : ∀ w ∈ BIG, w.before args s = true := fun w h => hts w (List.mem_cons_of_mem _ h)
  have hl : lv_has ls 3 [(0, .ref th)] := hl
  have l24 : ∀ (x1 : Int32) (fu : Nat) (T : Tb) (x2 : Int32) (H : Heap) (locs : List Loc) (ls : Array Slot), fX6_addRow_l24 tn cap tw x1 fu T x2 = some (r, M') → va_P D vwCl (wTb cI th tc tn cap tw T) H → va_S A s.heap H locs → lv_has ls 3 [(0, .ref th), (1, .int x1), (2, .int x2)] → W p l e rmX6_addRow s m args below meth c H locs 0 0 (MQ below (qI D r (wTb cI th tc tn cap tw (M')) A) args s 0 0 A) (F0 m 24 ls []) := by
    intro x1  fu
    induction fu with
    | zero => intro T x2 H locs ls hF; exact nn_use hF
    | succ fu ihn =>
      intro T x2 H locs ls hF hP hS hl 
      refine lv_iload_n hx hb dX6_addRow_24 rfl (lv_at hl 2 rfl) ?_
      refine lv_aload_n hx hb dX6_addRow_25 rfl (lv_at hl 0 rfl) ?_
      refine va_get (ci := 6) (v := .int tw) (C := RX6) (T := TX6) (N := 4) hx hb htb kin6 hown hK hP 0 (pTb_0 cI th tc tn cap tw T) rfl 2 (by decide) (htb _ bw1_48) (fun _ h9 => h9) rfl dX6_addRow_26 ?_
      refine lv_icmp_ge (tgt := 45) hx hb dX6_addRow_29 (by decide) (fun c6 => ?_) (fun c6 => ?_)
      · have hF := it_t hF c6
        refine lv_iload_n hx hb dX6_addRow_45 rfl (lv_at hl 1 rfl) ?_
        obtain ⟨er, eM⟩ := pr_use hF
        exact rt_I hx hb hr hlocks hS (by rw [← eM]; exact hP) er dX6_addRow_46
      · have hF := it_f hF c6
        refine lv_aload_n hx hb dX6_addRow_32 rfl (lv_at hl 0 rfl) ?_
        refine lv_iload_n hx hb dX6_addRow_33 rfl (lv_at hl 1 rfl) ?_
        refine lv_iload_n hx hb dX6_addRow_34 rfl (lv_at hl 2 rfl) ?_
        refine lv_iconst (v := 0) hx hb dX6_addRow_35 (by decide) ?_
        obtain ⟨M7, hM7, hF⟩ := bd_use hF
        refine cl_VV ⟨hx, hb, hml, hown, htb⟩ (kX6_put l D cS g cI th tc tn cap tw T x1 x2 0 _ hM7) (cwV 3 htb (gX6_put bw1_70) rfl rfl rfl hdX6_put ⟨Nat.le_of_ble_eq_true rfl, Nat.le_of_ble_eq_true rfl⟩) hK (hDa _) hG hA hP hS (sg_Tb_Tb cI th tc tn cap tw T M7) hl.1 rfl 0 (pTb_0 _ _ _ _ _ _ _) rfl rfl (Nat.le_of_ble_eq_true rfl) dX6_addRow_36 (fun H locs hP hS => ?_)
        obtain ⟨v8, ev8⟩ : ∃ z : Int32, z = x2 + 1 := ⟨_, rfl⟩
        refine lv_iinc (v := v8) (lv' := [(2, .int v8), (0, .ref th), (1, .int x1)]) hx hb dX6_addRow_39 hl (k := 2) rfl (by rw [ev8]; rfl) (by decide) rfl (fun ls hl => ?_)
        have hF := nm_use hF ev8
        refine lv_goto (tgt := 24) hx hb dX6_addRow_42 (by decide) ?_
        exact ihn M7 v8 _ _ _ hF hP hS (lv_sub hl [1, 2, 0] rfl)
  refine lv_aload_n hx hb dX6_addRow_0 rfl (lv_at hl 0 rfl) ?_
  obtain ⟨r1, hr1, hF⟩ := bd_use hF
  refine cl_VI ⟨hx, hb, hml, hown, htb⟩ (kX6_isFull l D cS g cI th tc tn cap tw T  _ hr1) (cwV 0 htb (gX6_isFull bw1_66) rfl rfl rfl hdX6_isFull ⟨Nat.le_of_ble_eq_true rfl, Nat.le_of_ble_eq_true rfl⟩) hK (hDa _) hG hA hP hS (sr_Tb_Tb cI th tc tn cap tw T) hl.1 rfl 0 (pTb_0 _ _ _ _ _ _ _) rfl rfl (Nat.le_of_ble_eq_true rfl) dX6_addRow_1 (fun H locs hP hS => ?_)
  refine lv_if_eq (tgt := 10) hx hb dX6_addRow_4 (by decide) (fun c2 => ?_) (fun c2 => ?_)
  · have hF := it_t hF c2
    refine lv_aload_n hx hb dX6_addRow_10 rfl (lv_at hl 0 rfl) ?_
    refine va_get (ci := 6) (v := .int (T.1)) (C := RX6) (T := TX6) (N := 4) hx hb htb kin6 hown hK hP 0 (pTb_0 cI th tc tn cap tw T) rfl 3 (by decide) (htb _ bw1_49) (fun _ h9 => h9) rfl dX6_addRow_11 ?_
    refine lv_topi (fun v3 ev3 => ?_)
    have hF := nm_use hF ev3
    refine lv_istore_n (lv' := [(1, .int v3), (0, .ref th)]) hx hb dX6_addRow_14 rfl hl (by decide) rfl (fun ls hl => ?_)
    refine lv_aload_n hx hb dX6_addRow_15 rfl (lv_at hl 1 rfl) ?_
    refine lv_iload_n hx hb dX6_addRow_16 rfl (lv_at hl 0 rfl) ?_
    refine lv_iconst (v := 1) hx hb dX6_addRow_17 (by decide) ?_
    refine lv_iadd hx hb dX6_addRow_18 ?_
    refine lv_topi (fun v4 ev4 => ?_)
    have hF := nm_use hF ev4
    refine va_put (ci := 6) (v := .int v4) (ty := .int) (C := RX6) (T := TX6) (N := 4) hx hb htb kin6 tyX6 tyX6_ok nmX6 hown hK hP (hDa _) hS 0 (pTb_0 cI th tc tn cap tw T) rfl 3 (by decide) (htb _ bw1_49) (fun _ h9 => h9) rfl (by decide +kernel) rfl rfl (Nat.le_of_ble_eq_true rfl) dX6_addRow_19 (fun H locs hP _ hS => ?_)
    obtain ⟨M5, eM5⟩ : ∃ z : Tb, z = (v4, T.2) := ⟨_, rfl⟩
    have hF := nm_use hF eM5
    have hP : va_P D vwCl (wTb cI th tc tn cap tw M5) H := by rw [eM5]; exact hP
    refine lv_iconst (v := 0) hx hb dX6_addRow_22 (by decide) ?_
    refine lv_istore_n (lv' := [(2, .int 0), (1, .int v3), (0, .ref th)]) hx hb dX6_addRow_23 rfl hl (by decide) rfl (fun ls hl => ?_)
    refine l24 v3  _ M5 0 _ _ _ hF hP hS (lv_sub hl [2, 1, 0] rfl)
  · have hF := it_f hF c2
    refine lv_bipush (v := (-9)) hx hb dX6_addRow_7 (by decide) ?_
    obtain ⟨er, eM⟩ := pr_use hF
    exact rt_I hx hb hr hlocks hS (by rw [← eM]; exact hP) er dX6_addRow_9
noncomputable def fX6_total_l4 (tn : Nat) (cap tw : Int32) (T : Tb) (x1 : Int32) : Nat → Int32 → Int32 → Option (Int32) := fun fu => Nat.rec (motive := fun _ => Int32 → Int32 → Option (Int32)) (fun _ _ => none) (fun _ ih => fun x2 x3 => if (T.1) ≤ x3 then (some x2) else ((fX6_cell tn cap tw T x3 x1).bind fun r2 => nm (x2 + r2) fun v3 => nm (x3 + 1) fun v4 => ih v3 v4)) fu
noncomputable def fX6_total (tn : Nat) (cap tw : Int32) (T : Tb) (x1 : Int32) : Option (Int32) := fX6_total_l4 tn cap tw T x1 FU 0 0
abbrev vX6_total : List Cond := Cond.code yX6_total cX6_total 4 (some .int) :: BIG
theorem gX6_total {own : String} {idx : Nat} (h : (Cond.methodLink own idx yX6_total) ∈ BIG) : GoodIn BIG (wsV own idx RX6 yX6_total vX6_total) := gdV h bw3_186 bw3_187 bw1_4 bw3_188
def rmX6_total : Room := { frames := 1, cells := 0, slots := 0, locals := 24 }
theorem hdX6_total : yX6_total.cls = RX6 ∧ yX6_total.cls ≠ "java/lang/invoke/MethodHandle" ∧ yX6_total.cls ≠ "java/lang/invoke/VarHandle" ∧ (parseMethodDescriptor yX6_total.desc).map (fun d => d.parameters.length) = some 1 := by decide +kernel
set_option maxHeartbeats 4000000 in
set_option maxRecDepth 100000 in
theorem kX6_total (l : Launch) (D : va_G) (cS : ClassId) (g : Nat → Nat) (cI : ClassId) (th tc tn : Nat) (cap tw : Int32) (T : Tb) (x1 : Int32) (r : Int32) (hF : fX6_total tn cap tw T x1 = some r) : mI l yX6_total vX6_total rmX6_total D cI cS g [.ref th, .int x1] (wTb cI th tc tn cap tw T) r (wTb cI th tc tn cap tw T) := by
  refine st_I rfl (by decide) (Nat.le_of_ble_eq_true rfl) ?_
  intro p e s m args below meth c A ls hx hb hr hml hlocks hown hts hA hK hD0 hG hP hS hl
  have hown : s.vm.findClass RX6 = some m.cls := hown
  have hDa : ∀ T, va_D A (wTb cI th tc tn cap tw T) := fun T => hD0.adr rfl
  have htb : ∀ w ∈ BIG, w.before args s = true := fun w h => hts w (List.mem_cons_of_mem _ h)
  have hl : lv_has ls 4 [(0, .ref th), (1, .int x1)] := hl
  have l4 : ∀ (x1 : Int32) (fu : Nat) (x2 : Int32) (x3 : Int32) (H : Heap) (locs : List Loc) (ls : Array Slot), fX6_total_l4 tn cap tw T x1 fu x2 x3 = some r → va_P D vwCl (wTb cI th tc tn cap tw T) H → va_S A s.heap H locs → lv_has ls 4 [(0, .ref th), (1, .int x1), (2, .int x2), (3, .int x3)] → W p l e rmX6_total s m args below meth c H locs 0 0 (MQ below (qI D r (wTb cI th tc tn cap tw T) A) args s 0 0 A) (F0 m 4 ls []) := by
    intro x1  fu
    induction fu with
    | zero => intro x2 x3 H locs ls hF; exact nn_use hF
    | succ fu ihn =>
      intro x2 x3 H locs ls hF hP hS hl 
      refine lv_iload_n hx hb dX6_total_4 rfl (lv_at hl 3 rfl) ?_
      refine lv_aload_n hx hb dX6_total_5 rfl (lv_at hl 0 rfl) ?_
      refine va_get (ci := 6) (v := .int (T.1)) (C := RX6) (T := TX6) (N := 4) hx hb htb kin6 hown hK hP 0 (pTb_0 cI th tc tn cap tw T) rfl 3 (by decide) (htb _ bw1_49) (fun _ h9 => h9) rfl dX6_total_6 ?_
      refine lv_icmp_ge (tgt := 27) hx hb dX6_total_9 (by decide) (fun c1 => ?_) (fun c1 => ?_)
      · have hF := it_t hF c1
        refine lv_iload_n hx hb dX6_total_27 rfl (lv_at hl 2 rfl) ?_
        exact rt_I hx hb hr hlocks hS hP (so_use hF) dX6_total_28
      · have hF := it_f hF c1
        refine lv_iload_n hx hb dX6_total_12 rfl (lv_at hl 2 rfl) ?_
        refine lv_aload_n hx hb dX6_total_13 rfl (lv_at hl 0 rfl) ?_
        refine lv_iload_n hx hb dX6_total_14 rfl (lv_at hl 3 rfl) ?_
        refine lv_iload_n hx hb dX6_total_15 rfl (lv_at hl 1 rfl) ?_
        obtain ⟨r2, hr2, hF⟩ := bd_use hF
        refine cl_VI ⟨hx, hb, hml, hown, htb⟩ (kX6_cell l D cS g cI th tc tn cap tw T x3 x1 _ hr2) (cwV 2 htb (gX6_cell bw2_127) rfl rfl rfl hdX6_cell ⟨Nat.le_of_ble_eq_true rfl, Nat.le_of_ble_eq_true rfl⟩) hK (hDa _) hG hA hP hS (sr_Tb_Tb cI th tc tn cap tw T) hl.1 rfl 0 (pTb_0 _ _ _ _ _ _ _) rfl rfl (Nat.le_of_ble_eq_true rfl) dX6_total_16 (fun H locs hP hS => ?_)
        refine lv_iadd hx hb dX6_total_19 ?_
        refine lv_topi (fun v3 ev3 => ?_)
        have hF := nm_use hF ev3
        refine lv_istore_n (lv' := [(2, .int v3), (0, .ref th), (1, .int x1), (3, .int x3)]) hx hb dX6_total_20 rfl hl (by decide) rfl (fun ls hl => ?_)
        obtain ⟨v4, ev4⟩ : ∃ z : Int32, z = x3 + 1 := ⟨_, rfl⟩
        refine lv_iinc (v := v4) (lv' := [(3, .int v4), (2, .int v3), (0, .ref th), (1, .int x1)]) hx hb dX6_total_21 hl (k := 3) rfl (by rw [ev4]; rfl) (by decide) rfl (fun ls hl => ?_)
        have hF := nm_use hF ev4
        refine lv_goto (tgt := 4) hx hb dX6_total_24 (by decide) ?_
        exact ihn v3 v4 _ _ _ hF hP hS (lv_sub hl [2, 3, 1, 0] rfl)
  refine lv_iconst (v := 0) hx hb dX6_total_0 (by decide) ?_
  refine lv_istore_n (lv' := [(2, .int 0), (0, .ref th), (1, .int x1)]) hx hb dX6_total_1 rfl hl (by decide) rfl (fun ls hl => ?_)
  refine lv_iconst (v := 0) hx hb dX6_total_2 (by decide) ?_
  refine lv_istore_n (lv' := [(3, .int 0), (2, .int 0), (0, .ref th), (1, .int x1)]) hx hb dX6_total_3 rfl hl (by decide) rfl (fun ls hl => ?_)
  refine l4 x1  _ 0 0 _ _ _ hF hP hS (lv_sub hl [2, 3, 1, 0] rfl)
noncomputable def fX8_inRange_j15  (s0 : Int32) : Option (Int32) := Zb s0 (some s0)
noncomputable def fX8_inRange_j14  : Option (Int32) := fX8_inRange_j15 0
noncomputable def fX8_inRange  (x0 : Int32) (x1 : Int32) (x2 : Int32) : Option (Int32) := if x0 < x1 then (fX8_inRange_j14) else (if x2 < x0 then (fX8_inRange_j14) else (fX8_inRange_j15 1))
abbrev vX8_inRange : List Cond := Cond.code yX8_inRange cX8_inRange 3 (some .boolean) :: BIG
theorem gX8_inRange {own : String} {idx : Nat} (h : (Cond.methodLink own idx yX8_inRange) ∈ BIG) : GoodIn BIG (va_wsS own idx yX8_inRange vX8_inRange) := gdS h bw2_34 bw1_1 bw2_35
theorem gX8_inRange_n : GoodIn BIG vX8_inRange := gdN bw2_35
def rmX8_inRange : Room := { frames := 0, cells := 0, slots := 0, locals := 0 }
theorem hdX8_inRange : yX8_inRange.cls ≠ "java/lang/invoke/MethodHandle" ∧ yX8_inRange.cls ≠ "java/lang/invoke/VarHandle" ∧ (parseMethodDescriptor yX8_inRange.desc).map (fun d => d.parameters.length) = some 3 := by decide +kernel
set_option maxHeartbeats 4000000 in
set_option maxRecDepth 100000 in
theorem kX8_inRange (l : Launch) (D : va_G) (cS : ClassId) (g : Nat → Nat) (cI : ClassId) (x0 : Int32) (x1 : Int32) (x2 : Int32) (r : Int32) (hF : fX8_inRange x0 x1 x2 = some r) : mI l yX8_inRange vX8_inRange rmX8_inRange D cI cS g [.int x0, .int x1, .int x2] [] r [] := by
  refine st_I rfl (by decide) (Nat.le_of_ble_eq_true rfl) ?_
  intro p e s m args below meth c A ls hx hb hr hml hlocks hown hts hA hK hD0 hG hP hS hl
  have hown : s.vm.findClass RX8 = some m.cls := hown
  have hDa : ∀ u : Unit, va_D A [] := fun _ => hD0
  have htb : ∀ w ∈ BIG, w.before args s = true := fun w h => hts w (List.mem_cons_of_mem _ h)
  have hl : lv_has ls 3 [(0, .int x0), (1, .int x1), (2, .int x2)] := hl
  have j15 : ∀ (s0 : Int32) (H : Heap) (locs : List Loc) (ls : Array Slot), fX8_inRange_j15 s0 = some r → va_P D vwCl [] H → va_S A s.heap H locs → lv_has ls 3 [] → W p l e rmX8_inRange s m args below meth c H locs 0 0 (MQ below (qI D r [] A) args s 0 0 A) (F0 m 15 ls [.int s0]) := by
    intro s0 H locs ls hF hP hS hl
    obtain ⟨hz, hF⟩ := zb_use hF
    exact rt_Z hx hb hr hlocks hS hP hz (so_use hF) dX8_inRange_15
  have j14 : ∀ (H : Heap) (locs : List Loc) (ls : Array Slot), fX8_inRange_j14 = some r → va_P D vwCl [] H → va_S A s.heap H locs → lv_has ls 3 [] → W p l e rmX8_inRange s m args below meth c H locs 0 0 (MQ below (qI D r [] A) args s 0 0 A) (F0 m 14 ls []) := by
    intro H locs ls hF hP hS hl
    refine lv_iconst (v := 0) hx hb dX8_inRange_14 (by decide) ?_
    exact j15 0 _ _ _ hF hP hS (lv_sub hl [] rfl)
  refine lv_iload_n hx hb dX8_inRange_0 rfl (lv_at hl 0 rfl) ?_
  refine lv_iload_n hx hb dX8_inRange_1 rfl (lv_at hl 1 rfl) ?_
  refine lv_icmp_lt (tgt := 14) hx hb dX8_inRange_2 (by decide) (fun c1 => ?_) (fun c1 => ?_)
  · have hF := it_t hF c1
    exact j14  _ _ _ hF hP hS (lv_sub hl [] rfl)
  · have hF := it_f hF c1
    refine lv_iload_n hx hb dX8_inRange_5 rfl (lv_at hl 0 rfl) ?_
    refine lv_iload_n hx hb dX8_inRange_6 rfl (lv_at hl 2 rfl) ?_
    refine lv_icmp_gt (tgt := 14) hx hb dX8_inRange_7 (by decide) (fun c2 => ?_) (fun c2 => ?_)
    · have hF := it_t hF c2
      exact j14  _ _ _ hF hP hS (lv_sub hl [] rfl)
    · have hF := it_f hF c2
      refine lv_iconst (v := 1) hx hb dX8_inRange_10 (by decide) ?_
      refine lv_goto (tgt := 15) hx hb dX8_inRange_11 (by decide) ?_
      exact j15 1 _ _ _ hF hP hS (lv_sub hl [] rfl)
end
section
theorem zz_last : True := trivial
end
