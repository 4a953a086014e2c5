section
-- ===== PART A: goes FIRST, ahead of the names: the tables' words, and 'selects' of the private methods out of them =====
/-- a private method of a class that the tables say can be made, by its rows of tables_1 -/
def lw_okq (q : MethodName × Nat) : Prop := (q.1.cls ≠ "java/lang/invoke/MethodHandle" ∧ q.1.cls ≠ "java/lang/invoke/VarHandle") ∧ Cond.instantiable q.1.cls q.2 ∈ tables_1 ∧ Cond.privateMethod q.1 ∈ tables_1 ∧ Cond.instanceMethod q.1 ∈ tables_1
theorem lw_p0 : lw_okq (⟨"ClockAuctions", "addLot", "(IJJ)I"⟩, 11) := ⟨⟨by decide +kernel, by decide +kernel⟩, List.mem_of_getElem? (i := 15) (by decide +kernel), List.mem_of_getElem? (i := 147) (by decide +kernel), List.mem_of_getElem? (i := 148) (by decide +kernel)⟩
theorem lw_p1 : lw_okq (⟨"ClockAuctions", "lotAt", "(I)LClockAuctions$Lot;"⟩, 11) := ⟨⟨by decide +kernel, by decide +kernel⟩, List.mem_of_getElem? (i := 15) (by decide +kernel), List.mem_of_getElem? (i := 234) (by decide +kernel), List.mem_of_getElem? (i := 235) (by decide +kernel)⟩
theorem lw_p2 : lw_okq (⟨"ClockAuctions", "buyerAt", "(I)LClockAuctions$Buyer;"⟩, 11) := ⟨⟨by decide +kernel, by decide +kernel⟩, List.mem_of_getElem? (i := 15) (by decide +kernel), List.mem_of_getElem? (i := 259) (by decide +kernel), List.mem_of_getElem? (i := 260) (by decide +kernel)⟩
theorem lw_p3 : lw_okq (⟨"ClockAuctions", "freeOf", "(LClockAuctions$Buyer;)J"⟩, 11) := ⟨⟨by decide +kernel, by decide +kernel⟩, List.mem_of_getElem? (i := 15) (by decide +kernel), List.mem_of_getElem? (i := 263) (by decide +kernel), List.mem_of_getElem? (i := 264) (by decide +kernel)⟩
theorem lw_p4 : lw_okq (⟨"ClockAuctions", "lotsAhead", "(LClockAuctions$Lot;)I"⟩, 11) := ⟨⟨by decide +kernel, by decide +kernel⟩, List.mem_of_getElem? (i := 15) (by decide +kernel), List.mem_of_getElem? (i := 283) (by decide +kernel), List.mem_of_getElem? (i := 284) (by decide +kernel)⟩
theorem lw_p5 : lw_okq (⟨"ClockAuctions", "runClock", "(J)I"⟩, 11) := ⟨⟨by decide +kernel, by decide +kernel⟩, List.mem_of_getElem? (i := 15) (by decide +kernel), List.mem_of_getElem? (i := 393) (by decide +kernel), List.mem_of_getElem? (i := 394) (by decide +kernel)⟩
theorem lw_p6 : lw_okq (⟨"ClockAuctions", "dropPressesThatCannotPay", "()V"⟩, 11) := ⟨⟨by decide +kernel, by decide +kernel⟩, List.mem_of_getElem? (i := 15) (by decide +kernel), List.mem_of_getElem? (i := 404) (by decide +kernel), List.mem_of_getElem? (i := 405) (by decide +kernel)⟩
theorem lw_p7 : lw_okq (⟨"ClockAuctions", "firstDuePress", "()LClockAuctions$Buyer;"⟩, 11) := ⟨⟨by decide +kernel, by decide +kernel⟩, List.mem_of_getElem? (i := 15) (by decide +kernel), List.mem_of_getElem? (i := 416) (by decide +kernel), List.mem_of_getElem? (i := 417) (by decide +kernel)⟩
theorem lw_p8 : lw_okq (⟨"ClockAuctions", "sellByClock", "(LClockAuctions$Lot;LClockAuctions$Buyer;)V"⟩, 11) := ⟨⟨by decide +kernel, by decide +kernel⟩, List.mem_of_getElem? (i := 15) (by decide +kernel), List.mem_of_getElem? (i := 420) (by decide +kernel), List.mem_of_getElem? (i := 421) (by decide +kernel)⟩
theorem lw_p9 : lw_okq (⟨"ClockAuctions", "pressesTiedWith", "(LClockAuctions$Buyer;)I"⟩, 11) := ⟨⟨by decide +kernel, by decide +kernel⟩, List.mem_of_getElem? (i := 15) (by decide +kernel), List.mem_of_getElem? (i := 424) (by decide +kernel), List.mem_of_getElem? (i := 425) (by decide +kernel)⟩
theorem lw_p10 : lw_okq (⟨"ClockAuctions", "stopClock", "()V"⟩, 11) := ⟨⟨by decide +kernel, by decide +kernel⟩, List.mem_of_getElem? (i := 15) (by decide +kernel), List.mem_of_getElem? (i := 432) (by decide +kernel), List.mem_of_getElem? (i := 433) (by decide +kernel)⟩
theorem lw_p11 : lw_okq (⟨"ClockAuctions", "dropPressesFrom", "(J)V"⟩, 11) := ⟨⟨by decide +kernel, by decide +kernel⟩, List.mem_of_getElem? (i := 15) (by decide +kernel), List.mem_of_getElem? (i := 436) (by decide +kernel), List.mem_of_getElem? (i := 437) (by decide +kernel)⟩
theorem lw_p12 : lw_okq (⟨"ClockAuctions", "sellRipeOffers", "()V"⟩, 11) := ⟨⟨by decide +kernel, by decide +kernel⟩, List.mem_of_getElem? (i := 15) (by decide +kernel), List.mem_of_getElem? (i := 440) (by decide +kernel), List.mem_of_getElem? (i := 441) (by decide +kernel)⟩
theorem lw_p13 : lw_okq (⟨"ClockAuctions", "bidAt", "(I)LClockAuctions$Bid;"⟩, 11) := ⟨⟨by decide +kernel, by decide +kernel⟩, List.mem_of_getElem? (i := 15) (by decide +kernel), List.mem_of_getElem? (i := 513) (by decide +kernel), List.mem_of_getElem? (i := 514) (by decide +kernel)⟩
theorem lw_p14 : lw_okq (⟨"ClockAuctions", "findWinners", "()V"⟩, 11) := ⟨⟨by decide +kernel, by decide +kernel⟩, List.mem_of_getElem? (i := 15) (by decide +kernel), List.mem_of_getElem? (i := 529) (by decide +kernel), List.mem_of_getElem? (i := 530) (by decide +kernel)⟩
theorem lw_p15 : lw_okq (⟨"ClockAuctions", "isGood", "(LClockAuctions$Bid;)Z"⟩, 11) := ⟨⟨by decide +kernel, by decide +kernel⟩, List.mem_of_getElem? (i := 15) (by decide +kernel), List.mem_of_getElem? (i := 541) (by decide +kernel), List.mem_of_getElem? (i := 542) (by decide +kernel)⟩
def lw_privs_1 : List (MethodName × Nat) := [(⟨"ClockAuctions", "addLot", "(IJJ)I"⟩, 11), (⟨"ClockAuctions", "lotAt", "(I)LClockAuctions$Lot;"⟩, 11), (⟨"ClockAuctions", "buyerAt", "(I)LClockAuctions$Buyer;"⟩, 11), (⟨"ClockAuctions", "freeOf", "(LClockAuctions$Buyer;)J"⟩, 11), (⟨"ClockAuctions", "lotsAhead", "(LClockAuctions$Lot;)I"⟩, 11), (⟨"ClockAuctions", "runClock", "(J)I"⟩, 11), (⟨"ClockAuctions", "dropPressesThatCannotPay", "()V"⟩, 11), (⟨"ClockAuctions", "firstDuePress", "()LClockAuctions$Buyer;"⟩, 11), (⟨"ClockAuctions", "sellByClock", "(LClockAuctions$Lot;LClockAuctions$Buyer;)V"⟩, 11), (⟨"ClockAuctions", "pressesTiedWith", "(LClockAuctions$Buyer;)I"⟩, 11), (⟨"ClockAuctions", "stopClock", "()V"⟩, 11), (⟨"ClockAuctions", "dropPressesFrom", "(J)V"⟩, 11), (⟨"ClockAuctions", "sellRipeOffers", "()V"⟩, 11), (⟨"ClockAuctions", "bidAt", "(I)LClockAuctions$Bid;"⟩, 11), (⟨"ClockAuctions", "findWinners", "()V"⟩, 11), (⟨"ClockAuctions", "isGood", "(LClockAuctions$Bid;)Z"⟩, 11)]
theorem lw_r1 : ∀ q ∈ lw_privs_1, lw_okq q := List.forall_mem_cons.mpr ⟨lw_p0, List.forall_mem_cons.mpr ⟨lw_p1, List.forall_mem_cons.mpr ⟨lw_p2, List.forall_mem_cons.mpr ⟨lw_p3, List.forall_mem_cons.mpr ⟨lw_p4, List.forall_mem_cons.mpr ⟨lw_p5, List.forall_mem_cons.mpr ⟨lw_p6, List.forall_mem_cons.mpr ⟨lw_p7, List.forall_mem_cons.mpr ⟨lw_p8, List.forall_mem_cons.mpr ⟨lw_p9, List.forall_mem_cons.mpr ⟨lw_p10, List.forall_mem_cons.mpr ⟨lw_p11, List.forall_mem_cons.mpr ⟨lw_p12, List.forall_mem_cons.mpr ⟨lw_p13, List.forall_mem_cons.mpr ⟨lw_p14, List.forall_mem_cons.mpr ⟨lw_p15, fun _ h => absurd h List.not_mem_nil⟩⟩⟩⟩⟩⟩⟩⟩⟩⟩⟩⟩⟩⟩⟩⟩
theorem lw_p16 : lw_okq (⟨"ClockAuctions$SetSearch", "addUpRests", "()V"⟩, 6) := ⟨⟨by decide +kernel, by decide +kernel⟩, List.mem_of_getElem? (i := 76) (by decide +kernel), List.mem_of_getElem? (i := 553) (by decide +kernel), List.mem_of_getElem? (i := 554) (by decide +kernel)⟩
theorem lw_p17 : lw_okq (⟨"ClockAuctions$SetSearch", "isBetter", "(JI)Z"⟩, 6) := ⟨⟨by decide +kernel, by decide +kernel⟩, List.mem_of_getElem? (i := 76) (by decide +kernel), List.mem_of_getElem? (i := 560) (by decide +kernel), List.mem_of_getElem? (i := 561) (by decide +kernel)⟩
theorem lw_p18 : lw_okq (⟨"ClockAuctions$SetSearch", "goodAt", "(I)LClockAuctions$Bid;"⟩, 6) := ⟨⟨by decide +kernel, by decide +kernel⟩, List.mem_of_getElem? (i := 76) (by decide +kernel), List.mem_of_getElem? (i := 574) (by decide +kernel), List.mem_of_getElem? (i := 575) (by decide +kernel)⟩
theorem lw_p19 : lw_okq (⟨"ClockAuctions$SetSearch", "restFrom", "(I)J"⟩, 6) := ⟨⟨by decide +kernel, by decide +kernel⟩, List.mem_of_getElem? (i := 76) (by decide +kernel), List.mem_of_getElem? (i := 578) (by decide +kernel), List.mem_of_getElem? (i := 579) (by decide +kernel)⟩
theorem lw_p20 : lw_okq (⟨"ClockAuctions$SetSearch", "spend", "(IJ)Z"⟩, 6) := ⟨⟨by decide +kernel, by decide +kernel⟩, List.mem_of_getElem? (i := 76) (by decide +kernel), List.mem_of_getElem? (i := 582) (by decide +kernel), List.mem_of_getElem? (i := 583) (by decide +kernel)⟩
theorem lw_p21 : lw_okq (⟨"ClockAuctions", "sellSet", "(LClockAuctions$Bid;)V"⟩, 11) := ⟨⟨by decide +kernel, by decide +kernel⟩, List.mem_of_getElem? (i := 15) (by decide +kernel), List.mem_of_getElem? (i := 590) (by decide +kernel), List.mem_of_getElem? (i := 591) (by decide +kernel)⟩
theorem lw_p22 : lw_okq (⟨"ClockAuctions", "playTurn", "(J)V"⟩, 11) := ⟨⟨by decide +kernel, by decide +kernel⟩, List.mem_of_getElem? (i := 15) (by decide +kernel), List.mem_of_getElem? (i := 635) (by decide +kernel), List.mem_of_getElem? (i := 636) (by decide +kernel)⟩
theorem lw_p23 : lw_okq (⟨"ClockAuctions", "soldCount", "()I"⟩, 11) := ⟨⟨by decide +kernel, by decide +kernel⟩, List.mem_of_getElem? (i := 15) (by decide +kernel), List.mem_of_getElem? (i := 654) (by decide +kernel), List.mem_of_getElem? (i := 655) (by decide +kernel)⟩
theorem lw_p24 : lw_okq (⟨"ClockAuctionsModel", "add", "(IJJ)I"⟩, 36) := ⟨⟨by decide +kernel, by decide +kernel⟩, List.mem_of_getElem? (i := 658) (by decide +kernel), List.mem_of_getElem? (i := 780) (by decide +kernel), List.mem_of_getElem? (i := 781) (by decide +kernel)⟩
theorem lw_p25 : lw_okq (⟨"ClockAuctionsModel", "isLot", "(I)Z"⟩, 36) := ⟨⟨by decide +kernel, by decide +kernel⟩, List.mem_of_getElem? (i := 658) (by decide +kernel), List.mem_of_getElem? (i := 794) (by decide +kernel), List.mem_of_getElem? (i := 795) (by decide +kernel)⟩
theorem lw_p26 : lw_okq (⟨"ClockAuctionsModel", "priceAt", "(J)J"⟩, 36) := ⟨⟨by decide +kernel, by decide +kernel⟩, List.mem_of_getElem? (i := 658) (by decide +kernel), List.mem_of_getElem? (i := 805) (by decide +kernel), List.mem_of_getElem? (i := 806) (by decide +kernel)⟩
theorem lw_p27 : lw_okq (⟨"ClockAuctionsModel", "isBuyer", "(I)Z"⟩, 36) := ⟨⟨by decide +kernel, by decide +kernel⟩, List.mem_of_getElem? (i := 658) (by decide +kernel), List.mem_of_getElem? (i := 813) (by decide +kernel), List.mem_of_getElem? (i := 814) (by decide +kernel)⟩
theorem lw_p28 : lw_okq (⟨"ClockAuctionsModel", "goOn", "(J)I"⟩, 36) := ⟨⟨by decide +kernel, by decide +kernel⟩, List.mem_of_getElem? (i := 658) (by decide +kernel), List.mem_of_getElem? (i := 831) (by decide +kernel), List.mem_of_getElem? (i := 832) (by decide +kernel)⟩
theorem lw_p29 : lw_okq (⟨"ClockAuctionsModel", "earliest", "()I"⟩, 36) := ⟨⟨by decide +kernel, by decide +kernel⟩, List.mem_of_getElem? (i := 658) (by decide +kernel), List.mem_of_getElem? (i := 835) (by decide +kernel), List.mem_of_getElem? (i := 836) (by decide +kernel)⟩
theorem lw_p30 : lw_okq (⟨"ClockAuctionsModel", "free", "(I)J"⟩, 36) := ⟨⟨by decide +kernel, by decide +kernel⟩, List.mem_of_getElem? (i := 658) (by decide +kernel), List.mem_of_getElem? (i := 839) (by decide +kernel), List.mem_of_getElem? (i := 840) (by decide +kernel)⟩
theorem lw_p31 : lw_okq (⟨"ClockAuctionsModel", "heldBy", "(I)J"⟩, 36) := ⟨⟨by decide +kernel, by decide +kernel⟩, List.mem_of_getElem? (i := 658) (by decide +kernel), List.mem_of_getElem? (i := 843) (by decide +kernel), List.mem_of_getElem? (i := 844) (by decide +kernel)⟩
def lw_privs_2 : List (MethodName × Nat) := [(⟨"ClockAuctions$SetSearch", "addUpRests", "()V"⟩, 6), (⟨"ClockAuctions$SetSearch", "isBetter", "(JI)Z"⟩, 6), (⟨"ClockAuctions$SetSearch", "goodAt", "(I)LClockAuctions$Bid;"⟩, 6), (⟨"ClockAuctions$SetSearch", "restFrom", "(I)J"⟩, 6), (⟨"ClockAuctions$SetSearch", "spend", "(IJ)Z"⟩, 6), (⟨"ClockAuctions", "sellSet", "(LClockAuctions$Bid;)V"⟩, 11), (⟨"ClockAuctions", "playTurn", "(J)V"⟩, 11), (⟨"ClockAuctions", "soldCount", "()I"⟩, 11), (⟨"ClockAuctionsModel", "add", "(IJJ)I"⟩, 36), (⟨"ClockAuctionsModel", "isLot", "(I)Z"⟩, 36), (⟨"ClockAuctionsModel", "priceAt", "(J)J"⟩, 36), (⟨"ClockAuctionsModel", "isBuyer", "(I)Z"⟩, 36), (⟨"ClockAuctionsModel", "goOn", "(J)I"⟩, 36), (⟨"ClockAuctionsModel", "earliest", "()I"⟩, 36), (⟨"ClockAuctionsModel", "free", "(I)J"⟩, 36), (⟨"ClockAuctionsModel", "heldBy", "(I)J"⟩, 36)]
theorem lw_r2 : ∀ q ∈ lw_privs_2, lw_okq q := List.forall_mem_cons.mpr ⟨lw_p16, List.forall_mem_cons.mpr ⟨lw_p17, List.forall_mem_cons.mpr ⟨lw_p18, List.forall_mem_cons.mpr ⟨lw_p19, List.forall_mem_cons.mpr ⟨lw_p20, List.forall_mem_cons.mpr ⟨lw_p21, List.forall_mem_cons.mpr ⟨lw_p22, List.forall_mem_cons.mpr ⟨lw_p23, List.forall_mem_cons.mpr ⟨lw_p24, List.forall_mem_cons.mpr ⟨lw_p25, List.forall_mem_cons.mpr ⟨lw_p26, List.forall_mem_cons.mpr ⟨lw_p27, List.forall_mem_cons.mpr ⟨lw_p28, List.forall_mem_cons.mpr ⟨lw_p29, List.forall_mem_cons.mpr ⟨lw_p30, List.forall_mem_cons.mpr ⟨lw_p31, fun _ h => absurd h List.not_mem_nil⟩⟩⟩⟩⟩⟩⟩⟩⟩⟩⟩⟩⟩⟩⟩⟩
theorem lw_p32 : lw_okq (⟨"ClockAuctionsModel", "sell", "(I)V"⟩, 36) := ⟨⟨by decide +kernel, by decide +kernel⟩, List.mem_of_getElem? (i := 658) (by decide +kernel), List.mem_of_getElem? (i := 847) (by decide +kernel), List.mem_of_getElem? (i := 848) (by decide +kernel)⟩
theorem lw_p33 : lw_okq (⟨"ClockAuctionsModel", "note", "(IIIJ)V"⟩, 36) := ⟨⟨by decide +kernel, by decide +kernel⟩, List.mem_of_getElem? (i := 658) (by decide +kernel), List.mem_of_getElem? (i := 851) (by decide +kernel), List.mem_of_getElem? (i := 852) (by decide +kernel)⟩
theorem lw_p34 : lw_okq (⟨"ClockAuctionsModel", "next", "(IIIIJ)I"⟩, 36) := ⟨⟨by decide +kernel, by decide +kernel⟩, List.mem_of_getElem? (i := 658) (by decide +kernel), List.mem_of_getElem? (i := 855) (by decide +kernel), List.mem_of_getElem? (i := 856) (by decide +kernel)⟩
theorem lw_p35 : lw_okq (⟨"ClockAuctionsModel", "isBought", "(I)Z"⟩, 36) := ⟨⟨by decide +kernel, by decide +kernel⟩, List.mem_of_getElem? (i := 658) (by decide +kernel), List.mem_of_getElem? (i := 873) (by decide +kernel), List.mem_of_getElem? (i := 874) (by decide +kernel)⟩
theorem lw_p36 : lw_okq (⟨"ClockAuctionsModel", "isGood", "(I)Z"⟩, 36) := ⟨⟨by decide +kernel, by decide +kernel⟩, List.mem_of_getElem? (i := 658) (by decide +kernel), List.mem_of_getElem? (i := 932) (by decide +kernel), List.mem_of_getElem? (i := 933) (by decide +kernel)⟩
theorem lw_p37 : lw_okq (⟨"ClockAuctionsModel", "sumOf", "(I)J"⟩, 36) := ⟨⟨by decide +kernel, by decide +kernel⟩, List.mem_of_getElem? (i := 658) (by decide +kernel), List.mem_of_getElem? (i := 936) (by decide +kernel), List.mem_of_getElem? (i := 937) (by decide +kernel)⟩
theorem lw_p38 : lw_okq (⟨"ClockAuctionsModel", "turn", "(J)V"⟩, 36) := ⟨⟨by decide +kernel, by decide +kernel⟩, List.mem_of_getElem? (i := 658) (by decide +kernel), List.mem_of_getElem? (i := 971) (by decide +kernel), List.mem_of_getElem? (i := 972) (by decide +kernel)⟩
def lw_privs_3 : List (MethodName × Nat) := [(⟨"ClockAuctionsModel", "sell", "(I)V"⟩, 36), (⟨"ClockAuctionsModel", "note", "(IIIJ)V"⟩, 36), (⟨"ClockAuctionsModel", "next", "(IIIIJ)I"⟩, 36), (⟨"ClockAuctionsModel", "isBought", "(I)Z"⟩, 36), (⟨"ClockAuctionsModel", "isGood", "(I)Z"⟩, 36), (⟨"ClockAuctionsModel", "sumOf", "(I)J"⟩, 36), (⟨"ClockAuctionsModel", "turn", "(J)V"⟩, 36)]
theorem lw_r3 : ∀ q ∈ lw_privs_3, lw_okq q := List.forall_mem_cons.mpr ⟨lw_p32, List.forall_mem_cons.mpr ⟨lw_p33, List.forall_mem_cons.mpr ⟨lw_p34, List.forall_mem_cons.mpr ⟨lw_p35, List.forall_mem_cons.mpr ⟨lw_p36, List.forall_mem_cons.mpr ⟨lw_p37, List.forall_mem_cons.mpr ⟨lw_p38, fun _ h => absurd h List.not_mem_nil⟩⟩⟩⟩⟩⟩⟩
def lw_privs : List (MethodName × Nat) := lw_privs_1 ++ (lw_privs_2 ++ (lw_privs_3))
def lw_tbl : List Cond := k2_sels lw_privs ++ tables_1
theorem lw_privs_ok : ∀ q ∈ lw_privs, lw_okq q := by
  show ∀ q ∈ lw_privs_1 ++ (lw_privs_2 ++ (lw_privs_3)), lw_okq q
  exact List.forall_mem_append.mpr ⟨lw_r1, List.forall_mem_append.mpr ⟨lw_r2, lw_r3⟩⟩
-- ===== end of PART A; then your names; then what follows =====
end
section
/-! ===== BEGIN printed: names, fields, word lists, decode rows ===== -/
def RX0 : String := "ClockAuctions$Bid"
def TX0 : u_T := fun k => match k with
  | 0 => ("ClockAuctions$Bid", "number", "I", true)
  | 1 => ("ClockAuctions$Bid", "buyer", "I", true)
  | 2 => ("ClockAuctions$Bid", "cents", "J", true)
  | _ => ("ClockAuctions$Bid", "lotSet", "J", false)
def tyX0 : Nat → FieldType := fun k => match k with
  | 0 => .int
  | 1 => .int
  | 2 => .long
  | _ => .long
abbrev wsX00 : List Cond := u_ws RX0 TX0 4
theorem nmX0 : ∀ a, a < 4 → ∀ b, b < 4 → a ≠ b → (TX0 a).2.1 ≠ (TX0 b).2.1 := by decide +kernel
theorem tyX0_ok : ∀ k, k < 4 → parseFieldDescriptor (TX0 k).2.2.1 = some (tyX0 k) := by decide +kernel
abbrev cX0_init : ByteArray := prog_2_method_1_code
def yX0_init : MethodName := ⟨RX0, "<init>", "(IIJ)V"⟩
abbrev cX0_isFor : ByteArray := prog_2_method_2_code
def yX0_isFor : MethodName := ⟨RX0, "isFor", "(I)Z"⟩
abbrev cX0_addLot : ByteArray := prog_2_method_3_code
def yX0_addLot : MethodName := ⟨RX0, "addLot", "(I)V"⟩
def RX1 : String := "ClockAuctions$Buyer"
def TX1 : u_T := fun k => match k with
  | 0 => ("ClockAuctions$Buyer", "number", "I", true)
  | 1 => ("ClockAuctions$Buyer", "credit", "J", true)
  | 2 => ("ClockAuctions$Buyer", "lateBy", "J", false)
  | _ => ("ClockAuctions$Buyer", "pressTime", "J", false)
def tyX1 : Nat → FieldType := fun k => match k with
  | 0 => .int
  | 1 => .long
  | 2 => .long
  | _ => .long
abbrev wsX10 : List Cond := u_ws RX1 TX1 4
theorem nmX1 : ∀ a, a < 4 → ∀ b, b < 4 → a ≠ b → (TX1 a).2.1 ≠ (TX1 b).2.1 := by decide +kernel
theorem tyX1_ok : ∀ k, k < 4 → parseFieldDescriptor (TX1 k).2.2.1 = some (tyX1 k) := by decide +kernel
abbrev cX1_init : ByteArray := prog_3_method_1_code
def yX1_init : MethodName := ⟨RX1, "<init>", "(IJ)V"⟩
abbrev cX1_hasPressUpTo : ByteArray := prog_3_method_2_code
def yX1_hasPressUpTo : MethodName := ⟨RX1, "hasPressUpTo", "(J)Z"⟩
abbrev cX1_dropPress : ByteArray := prog_3_method_3_code
def yX1_dropPress : MethodName := ⟨RX1, "dropPress", "()V"⟩
def RX2 : String := "ClockAuctions$Chain"
def TX2 : u_T := fun k => match k with
  | 0 => ("ClockAuctions$Chain", "entries", "[LClockAuctions$Entry;", true)
  | 1 => ("ClockAuctions$Chain", "count", "I", false)
  | _ => ("ClockAuctions$Chain", "last", "I", false)
def tyX2 : Nat → FieldType := fun k => match k with
  | 0 => .array (.object "ClockAuctions$Entry")
  | 1 => .int
  | _ => .int
abbrev wsX20 : List Cond := u_ws RX2 TX2 3
theorem nmX2 : ∀ a, a < 3 → ∀ b, b < 3 → a ≠ b → (TX2 a).2.1 ≠ (TX2 b).2.1 := by decide +kernel
theorem tyX2_ok : ∀ k, k < 3 → parseFieldDescriptor (TX2 k).2.2.1 = some (tyX2 k) := by decide +kernel
abbrev cX2_init : ByteArray := prog_4_method_1_code
def yX2_init : MethodName := ⟨RX2, "<init>", "()V"⟩
abbrev cX2_add : ByteArray := prog_4_method_2_code
def yX2_add : MethodName := ⟨RX2, "add", "(IIIJ)V"⟩
abbrev cX2_at : ByteArray := prog_4_method_3_code
def yX2_at : MethodName := ⟨RX2, "at", "(I)LClockAuctions$Entry;"⟩
abbrev cX2_isWhole : ByteArray := prog_4_method_4_code
def yX2_isWhole : MethodName := ⟨RX2, "isWhole", "()Z"⟩
def RX3 : String := "ClockAuctions$Entry"
def TX3 : u_T := fun k => match k with
  | 0 => ("ClockAuctions$Entry", "sort", "I", true)
  | 1 => ("ClockAuctions$Entry", "lot", "I", true)
  | 2 => ("ClockAuctions$Entry", "buyer", "I", true)
  | 3 => ("ClockAuctions$Entry", "cents", "J", true)
  | _ => ("ClockAuctions$Entry", "link", "I", true)
def tyX3 : Nat → FieldType := fun k => match k with
  | 0 => .int
  | 1 => .int
  | 2 => .int
  | 3 => .long
  | _ => .int
abbrev wsX30 : List Cond := u_ws RX3 TX3 5
theorem nmX3 : ∀ a, a < 5 → ∀ b, b < 5 → a ≠ b → (TX3 a).2.1 ≠ (TX3 b).2.1 := by decide +kernel
theorem tyX3_ok : ∀ k, k < 5 → parseFieldDescriptor (TX3 k).2.2.1 = some (tyX3 k) := by decide +kernel
abbrev cX3_init : ByteArray := prog_5_method_1_code
def yX3_init : MethodName := ⟨RX3, "<init>", "(IIIJI)V"⟩
abbrev cX3_linkBehind : ByteArray := prog_5_method_2_code
def yX3_linkBehind : MethodName := ⟨RX3, "linkBehind", "(I)I"⟩
abbrev cX3_linkOf : ByteArray := prog_5_method_3_code
def yX3_linkOf : MethodName := ⟨RX3, "linkOf", "(IIIIJ)I"⟩
def RX4 : String := "ClockAuctions$FallingClock"
def TX4 : u_T := fun k => match k with
  | 0 => ("ClockAuctions$FallingClock", "lot", "LClockAuctions$Lot;", false)
  | 1 => ("ClockAuctions$FallingClock", "from", "J", false)
  | 2 => ("ClockAuctions$FallingClock", "step", "J", false)
  | 3 => ("ClockAuctions$FallingClock", "end", "J", false)
  | 4 => ("ClockAuctions$FallingClock", "time", "J", false)
  | _ => ("ClockAuctions$FallingClock", "stands", "Z", false)
def tyX4 : Nat → FieldType := fun k => match k with
  | 0 => .object "ClockAuctions$Lot"
  | 1 => .long
  | 2 => .long
  | 3 => .long
  | 4 => .long
  | _ => .boolean
abbrev wsX40 : List Cond := u_ws RX4 TX4 6
theorem nmX4 : ∀ a, a < 6 → ∀ b, b < 6 → a ≠ b → (TX4 a).2.1 ≠ (TX4 b).2.1 := by decide +kernel
theorem tyX4_ok : ∀ k, k < 6 → parseFieldDescriptor (TX4 k).2.2.1 = some (tyX4 k) := by decide +kernel
abbrev cX4_init : ByteArray := prog_6_method_1_code
def yX4_init : MethodName := ⟨RX4, "<init>", "()V"⟩
abbrev cX4_endOf : ByteArray := prog_6_method_2_code
def yX4_endOf : MethodName := ⟨RX4, "endOf", "(JJ)J"⟩
abbrev cX4_begin : ByteArray := prog_6_method_3_code
def yX4_begin : MethodName := ⟨RX4, "begin", "(LClockAuctions$Lot;JJJ)V"⟩
abbrev cX4_priceAt : ByteArray := prog_6_method_4_code
def yX4_priceAt : MethodName := ⟨RX4, "priceAt", "(J)J"⟩
abbrev cX4_goOn : ByteArray := prog_6_method_5_code
def yX4_goOn : MethodName := ⟨RX4, "goOn", "(J)V"⟩
abbrev cX4_goBackTo : ByteArray := prog_6_method_6_code
def yX4_goBackTo : MethodName := ⟨RX4, "goBackTo", "(J)V"⟩
def RX5 : String := "ClockAuctions$Lot"
def TX5 : u_T := fun k => match k with
  | 0 => ("ClockAuctions$Lot", "number", "I", true)
  | 1 => ("ClockAuctions$Lot", "kind", "I", true)
  | 2 => ("ClockAuctions$Lot", "grams", "J", false)
  | 3 => ("ClockAuctions$Lot", "reserve", "J", false)
  | 4 => ("ClockAuctions$Lot", "state", "LClockAuctions$State;", false)
  | 5 => ("ClockAuctions$Lot", "taker", "I", false)
  | 6 => ("ClockAuctions$Lot", "cents", "J", false)
  | 7 => ("ClockAuctions$Lot", "offeredOn", "J", false)
  | 8 => ("ClockAuctions$Lot", "soldByClock", "Z", false)
  | 9 => ("ClockAuctions$Lot", "parted", "Z", false)
  | 10 => ("ClockAuctions$Lot", "reopened", "Z", false)
  | _ => ("ClockAuctions$Lot", "tied", "I", false)
def tyX5 : Nat → FieldType := fun k => match k with
  | 0 => .int
  | 1 => .int
  | 2 => .long
  | 3 => .long
  | 4 => .object "ClockAuctions$State"
  | 5 => .int
  | 6 => .long
  | 7 => .long
  | 8 => .boolean
  | 9 => .boolean
  | 10 => .boolean
  | _ => .int
abbrev wsX50 : List Cond := u_ws RX5 TX5 12
theorem nmX5 : ∀ a, a < 12 → ∀ b, b < 12 → a ≠ b → (TX5 a).2.1 ≠ (TX5 b).2.1 := by decide +kernel
theorem tyX5_ok : ∀ k, k < 12 → parseFieldDescriptor (TX5 k).2.2.1 = some (tyX5 k) := by decide +kernel
abbrev cX5_init : ByteArray := prog_7_method_1_code
def yX5_init : MethodName := ⟨RX5, "<init>", "(IIJJ)V"⟩
abbrev cX5_hasTaker : ByteArray := prog_7_method_2_code
def yX5_hasTaker : MethodName := ⟨RX5, "hasTaker", "()Z"⟩
abbrev cX5_canGoBack : ByteArray := prog_7_method_3_code
def yX5_canGoBack : MethodName := ⟨RX5, "canGoBack", "()Z"⟩
abbrev cX5_isOpenOf : ByteArray := prog_7_method_4_code
def yX5_isOpenOf : MethodName := ⟨RX5, "isOpenOf", "(I)Z"⟩
abbrev cX5_goesBefore : ByteArray := prog_7_method_5_code
def yX5_goesBefore : MethodName := ⟨RX5, "goesBefore", "(LClockAuctions$Lot;)Z"⟩
abbrev cX5_isTiedWith : ByteArray := prog_7_method_6_code
def yX5_isTiedWith : MethodName := ⟨RX5, "isTiedWith", "(I)Z"⟩
abbrev cX5_leastOffer : ByteArray := prog_7_method_7_code
def yX5_leastOffer : MethodName := ⟨RX5, "leastOffer", "()J"⟩
abbrev cX5_offerOf : ByteArray := prog_7_method_8_code
def yX5_offerOf : MethodName := ⟨RX5, "offerOf", "(I)J"⟩
abbrev cX5_sellTo : ByteArray := prog_7_method_9_code
def yX5_sellTo : MethodName := ⟨RX5, "sellTo", "(IJ)V"⟩
def RX6 : String := "ClockAuctions$SetSearch"
def TX6 : u_T := fun k => match k with
  | 0 => ("ClockAuctions$SetSearch", "good", "[LClockAuctions$Bid;", true)
  | 1 => ("ClockAuctions$SetSearch", "restSums", "[J", true)
  | 2 => ("ClockAuctions$SetSearch", "purses", "[J", true)
  | 3 => ("ClockAuctions$SetSearch", "count", "I", false)
  | 4 => ("ClockAuctions$SetSearch", "bestChosen", "I", false)
  | _ => ("ClockAuctions$SetSearch", "bestSum", "J", false)
def tyX6 : Nat → FieldType := fun k => match k with
  | 0 => .array (.object "ClockAuctions$Bid")
  | 1 => .array .long
  | 2 => .array .long
  | 3 => .int
  | 4 => .int
  | _ => .long
abbrev wsX60 : List Cond := u_ws RX6 TX6 6
theorem nmX6 : ∀ a, a < 6 → ∀ b, b < 6 → a ≠ b → (TX6 a).2.1 ≠ (TX6 b).2.1 := by decide +kernel
theorem tyX6_ok : ∀ k, k < 6 → parseFieldDescriptor (TX6 k).2.2.1 = some (tyX6 k) := by decide +kernel
abbrev cX6_init : ByteArray := prog_8_method_1_code
def yX6_init : MethodName := ⟨RX6, "<init>", "()V"⟩
abbrev cX6_clear : ByteArray := prog_8_method_2_code
def yX6_clear : MethodName := ⟨RX6, "clear", "()V"⟩
abbrev cX6_setPurse : ByteArray := prog_8_method_3_code
def yX6_setPurse : MethodName := ⟨RX6, "setPurse", "(IJ)V"⟩
abbrev cX6_add : ByteArray := prog_8_method_4_code
def yX6_add : MethodName := ⟨RX6, "add", "(LClockAuctions$Bid;)V"⟩
abbrev cX6_hasChosen : ByteArray := prog_8_method_5_code
def yX6_hasChosen : MethodName := ⟨RX6, "hasChosen", "(I)Z"⟩
abbrev cX6_chosenCount : ByteArray := prog_8_method_6_code
def yX6_chosenCount : MethodName := ⟨RX6, "chosenCount", "()I"⟩
abbrev cX6_find : ByteArray := prog_8_method_7_code
def yX6_find : MethodName := ⟨RX6, "find", "()V"⟩
abbrev cX6_addUpRests : ByteArray := prog_8_method_8_code
def yX6_addUpRests : MethodName := ⟨RX6, "addUpRests", "()V"⟩
abbrev cX6_tryFrom : ByteArray := prog_8_method_9_code
def yX6_tryFrom : MethodName := ⟨RX6, "tryFrom", "(LClockAuctions$SetSearch;IIJJ)V"⟩
abbrev cX6_goodAt : ByteArray := prog_8_method_10_code
def yX6_goodAt : MethodName := ⟨RX6, "goodAt", "(I)LClockAuctions$Bid;"⟩
abbrev cX6_restFrom : ByteArray := prog_8_method_11_code
def yX6_restFrom : MethodName := ⟨RX6, "restFrom", "(I)J"⟩
abbrev cX6_isBetter : ByteArray := prog_8_method_12_code
def yX6_isBetter : MethodName := ⟨RX6, "isBetter", "(JI)Z"⟩
abbrev cX6_spend : ByteArray := prog_8_method_13_code
def yX6_spend : MethodName := ⟨RX6, "spend", "(IJ)Z"⟩
def RX7 : String := "ClockAuctions$State"
def TX7 : u_T := fun k => match k with
  | _ => ("", "", "", false)
def tyX7 : Nat → FieldType := fun k => match k with
  | _ => .int
abbrev wsX70 : List Cond := u_ws RX7 TX7 0
theorem nmX7 : ∀ a, a < 0 → ∀ b, b < 0 → a ≠ b → (TX7 a).2.1 ≠ (TX7 b).2.1 := by decide +kernel
theorem tyX7_ok : ∀ k, k < 0 → parseFieldDescriptor (TX7 k).2.2.1 = some (tyX7 k) := by decide +kernel
def RX8 : String := "ClockAuctions"
def TX8 : u_T := fun k => match k with
  | 0 => ("ClockAuctions", "lots", "[LClockAuctions$Lot;", true)
  | 1 => ("ClockAuctions", "buyers", "[LClockAuctions$Buyer;", true)
  | 2 => ("ClockAuctions", "bids", "[LClockAuctions$Bid;", true)
  | 3 => ("ClockAuctions", "running", "LClockAuctions$FallingClock;", true)
  | 4 => ("ClockAuctions", "chain", "LClockAuctions$Chain;", true)
  | 5 => ("ClockAuctions", "search", "LClockAuctions$SetSearch;", true)
  | 6 => ("ClockAuctions", "lotCount", "I", false)
  | 7 => ("ClockAuctions", "buyerCount", "I", false)
  | 8 => ("ClockAuctions", "bidCount", "I", false)
  | 9 => ("ClockAuctions", "day", "J", false)
  | _ => ("ClockAuctions", "latestSetsStood", "Z", false)
def tyX8 : Nat → FieldType := fun k => match k with
  | 0 => .array (.object "ClockAuctions$Lot")
  | 1 => .array (.object "ClockAuctions$Buyer")
  | 2 => .array (.object "ClockAuctions$Bid")
  | 3 => .object "ClockAuctions$FallingClock"
  | 4 => .object "ClockAuctions$Chain"
  | 5 => .object "ClockAuctions$SetSearch"
  | 6 => .int
  | 7 => .int
  | 8 => .int
  | 9 => .long
  | _ => .boolean
abbrev wsX80 : List Cond := u_ws RX8 TX8 11
theorem nmX8 : ∀ a, a < 11 → ∀ b, b < 11 → a ≠ b → (TX8 a).2.1 ≠ (TX8 b).2.1 := by decide +kernel
theorem tyX8_ok : ∀ k, k < 11 → parseFieldDescriptor (TX8 k).2.2.1 = some (tyX8 k) := by decide +kernel
abbrev cX8_init : ByteArray := prog_1_method_1_code
def yX8_init : MethodName := ⟨RX8, "<init>", "()V"⟩
abbrev cX8_lot : ByteArray := prog_1_method_2_code
def yX8_lot : MethodName := ⟨RX8, "lot", "(IJJ)I"⟩
abbrev cX8_buyer : ByteArray := prog_1_method_3_code
def yX8_buyer : MethodName := ⟨RX8, "buyer", "(J)I"⟩
abbrev cX8_winner : ByteArray := prog_1_method_4_code
def yX8_winner : MethodName := ⟨RX8, "winner", "(I)I"⟩
abbrev cX8_price : ByteArray := prog_1_method_5_code
def yX8_price : MethodName := ⟨RX8, "price", "(I)J"⟩
abbrev cX8_left : ByteArray := prog_1_method_6_code
def yX8_left : MethodName := ⟨RX8, "left", "(I)J"⟩
abbrev cX8_held : ByteArray := prog_1_method_7_code
def yX8_held : MethodName := ⟨RX8, "held", "(I)J"⟩
abbrev cX8_fee : ByteArray := prog_1_method_8_code
def yX8_fee : MethodName := ⟨RX8, "fee", "(I)J"⟩
abbrev cX8_order : ByteArray := prog_1_method_9_code
def yX8_order : MethodName := ⟨RX8, "order", "(II)I"⟩
abbrev cX8_part : ByteArray := prog_1_method_10_code
def yX8_part : MethodName := ⟨RX8, "part", "(IJ)I"⟩
abbrev cX8_again : ByteArray := prog_1_method_11_code
def yX8_again : MethodName := ⟨RX8, "again", "(I)I"⟩
abbrev cX8_back : ByteArray := prog_1_method_12_code
def yX8_back : MethodName := ⟨RX8, "back", "(I)I"⟩
abbrev cX8_start : ByteArray := prog_1_method_13_code
def yX8_start : MethodName := ⟨RX8, "start", "(IJJ)I"⟩
abbrev cX8_delay : ByteArray := prog_1_method_14_code
def yX8_delay : MethodName := ⟨RX8, "delay", "(IJ)Z"⟩
abbrev cX8_press : ByteArray := prog_1_method_15_code
def yX8_press : MethodName := ⟨RX8, "press", "(IJ)Z"⟩
abbrev cX8_tick : ByteArray := prog_1_method_16_code
def yX8_tick : MethodName := ⟨RX8, "tick", "(J)I"⟩
abbrev cX8_outage : ByteArray := prog_1_method_17_code
def yX8_outage : MethodName := ⟨RX8, "outage", "(JZ)Z"⟩
abbrev cX8_clock : ByteArray := prog_1_method_18_code
def yX8_clock : MethodName := ⟨RX8, "clock", "()J"⟩
abbrev cX8_tie : ByteArray := prog_1_method_19_code
def yX8_tie : MethodName := ⟨RX8, "tie", "(II)I"⟩
abbrev cX8_rise : ByteArray := prog_1_method_20_code
def yX8_rise : MethodName := ⟨RX8, "rise", "(IIJ)I"⟩
abbrev cX8_bid : ByteArray := prog_1_method_21_code
def yX8_bid : MethodName := ⟨RX8, "bid", "(IJ)I"⟩
abbrev cX8_on : ByteArray := prog_1_method_22_code
def yX8_on : MethodName := ⟨RX8, "on", "(II)Z"⟩
abbrev cX8_sets : ByteArray := prog_1_method_23_code
def yX8_sets : MethodName := ⟨RX8, "sets", "(J)I"⟩
abbrev cX8_wins : ByteArray := prog_1_method_24_code
def yX8_wins : MethodName := ⟨RX8, "wins", "(I)Z"⟩
abbrev cX8_sum : ByteArray := prog_1_method_25_code
def yX8_sum : MethodName := ⟨RX8, "sum", "()J"⟩
abbrev cX8_proved : ByteArray := prog_1_method_26_code
def yX8_proved : MethodName := ⟨RX8, "proved", "()Z"⟩
abbrev cX8_record : ByteArray := prog_1_method_27_code
def yX8_record : MethodName := ⟨RX8, "record", "(II)I"⟩
abbrev cX8_chained : ByteArray := prog_1_method_28_code
def yX8_chained : MethodName := ⟨RX8, "chained", "()Z"⟩
abbrev cX8_play : ByteArray := prog_1_method_29_code
def yX8_play : MethodName := ⟨RX8, "play", "(JI)I"⟩
abbrev cX8_playTurn : ByteArray := prog_1_method_30_code
def yX8_playTurn : MethodName := ⟨RX8, "playTurn", "(J)V"⟩
abbrev cX8_soldCount : ByteArray := prog_1_method_31_code
def yX8_soldCount : MethodName := ⟨RX8, "soldCount", "()I"⟩
abbrev cX8_isWithin : ByteArray := prog_1_method_32_code
def yX8_isWithin : MethodName := ⟨RX8, "isWithin", "(JJJ)Z"⟩
abbrev cX8_shareOf : ByteArray := prog_1_method_33_code
def yX8_shareOf : MethodName := ⟨RX8, "shareOf", "(JJJ)J"⟩
abbrev cX8_lotAt : ByteArray := prog_1_method_34_code
def yX8_lotAt : MethodName := ⟨RX8, "lotAt", "(I)LClockAuctions$Lot;"⟩
abbrev cX8_buyerAt : ByteArray := prog_1_method_35_code
def yX8_buyerAt : MethodName := ⟨RX8, "buyerAt", "(I)LClockAuctions$Buyer;"⟩
abbrev cX8_bidAt : ByteArray := prog_1_method_36_code
def yX8_bidAt : MethodName := ⟨RX8, "bidAt", "(I)LClockAuctions$Bid;"⟩
abbrev cX8_addLot : ByteArray := prog_1_method_37_code
def yX8_addLot : MethodName := ⟨RX8, "addLot", "(IJJ)I"⟩
abbrev cX8_freeOf : ByteArray := prog_1_method_38_code
def yX8_freeOf : MethodName := ⟨RX8, "freeOf", "(LClockAuctions$Buyer;)J"⟩
abbrev cX8_lotsAhead : ByteArray := prog_1_method_39_code
def yX8_lotsAhead : MethodName := ⟨RX8, "lotsAhead", "(LClockAuctions$Lot;)I"⟩
abbrev cX8_runClock : ByteArray := prog_1_method_40_code
def yX8_runClock : MethodName := ⟨RX8, "runClock", "(J)I"⟩
abbrev cX8_dropPressesThatCannotPay : ByteArray := prog_1_method_41_code
def yX8_dropPressesThatCannotPay : MethodName := ⟨RX8, "dropPressesThatCannotPay", "()V"⟩
abbrev cX8_firstDuePress : ByteArray := prog_1_method_42_code
def yX8_firstDuePress : MethodName := ⟨RX8, "firstDuePress", "()LClockAuctions$Buyer;"⟩
abbrev cX8_sellByClock : ByteArray := prog_1_method_43_code
def yX8_sellByClock : MethodName := ⟨RX8, "sellByClock", "(LClockAuctions$Lot;LClockAuctions$Buyer;)V"⟩
abbrev cX8_pressesTiedWith : ByteArray := prog_1_method_44_code
def yX8_pressesTiedWith : MethodName := ⟨RX8, "pressesTiedWith", "(LClockAuctions$Buyer;)I"⟩
abbrev cX8_stopClock : ByteArray := prog_1_method_45_code
def yX8_stopClock : MethodName := ⟨RX8, "stopClock", "()V"⟩
abbrev cX8_dropPressesFrom : ByteArray := prog_1_method_46_code
def yX8_dropPressesFrom : MethodName := ⟨RX8, "dropPressesFrom", "(J)V"⟩
abbrev cX8_sellRipeOffers : ByteArray := prog_1_method_47_code
def yX8_sellRipeOffers : MethodName := ⟨RX8, "sellRipeOffers", "()V"⟩
abbrev cX8_findWinners : ByteArray := prog_1_method_48_code
def yX8_findWinners : MethodName := ⟨RX8, "findWinners", "()V"⟩
abbrev cX8_isGood : ByteArray := prog_1_method_49_code
def yX8_isGood : MethodName := ⟨RX8, "isGood", "(LClockAuctions$Bid;)Z"⟩
abbrev cX8_sellSet : ByteArray := prog_1_method_50_code
def yX8_sellSet : MethodName := ⟨RX8, "sellSet", "(LClockAuctions$Bid;)V"⟩
def RX9 : String := "ClockAuctionsModel"
def TX9 : u_T := fun k => match k with
  | 0 => ("ClockAuctionsModel", "lots", "I", false)
  | 1 => ("ClockAuctionsModel", "kind", "[I", true)
  | 2 => ("ClockAuctionsModel", "grams", "[J", true)
  | 3 => ("ClockAuctionsModel", "reserve", "[J", true)
  | 4 => ("ClockAuctionsModel", "state", "[I", true)
  | 5 => ("ClockAuctionsModel", "buyer", "[I", true)
  | 6 => ("ClockAuctionsModel", "price", "[J", true)
  | 7 => ("ClockAuctionsModel", "byClock", "[Z", true)
  | 8 => ("ClockAuctionsModel", "parted", "[Z", true)
  | 9 => ("ClockAuctionsModel", "reopened", "[Z", true)
  | 10 => ("ClockAuctionsModel", "offeredAt", "[J", true)
  | 11 => ("ClockAuctionsModel", "ties", "[I", true)
  | 12 => ("ClockAuctionsModel", "buyers", "I", false)
  | 13 => ("ClockAuctionsModel", "credit", "[J", true)
  | 14 => ("ClockAuctionsModel", "delay", "[J", true)
  | 15 => ("ClockAuctionsModel", "presses", "[J", true)
  | 16 => ("ClockAuctionsModel", "day", "J", false)
  | 17 => ("ClockAuctionsModel", "now", "I", false)
  | 18 => ("ClockAuctionsModel", "time", "J", false)
  | 19 => ("ClockAuctionsModel", "end", "J", false)
  | 20 => ("ClockAuctionsModel", "from", "J", false)
  | 21 => ("ClockAuctionsModel", "step", "J", false)
  | 22 => ("ClockAuctionsModel", "stands", "Z", false)
  | 23 => ("ClockAuctionsModel", "bids", "I", false)
  | 24 => ("ClockAuctionsModel", "bidBuyer", "[I", true)
  | 25 => ("ClockAuctionsModel", "bidCents", "[J", true)
  | 26 => ("ClockAuctionsModel", "bidLots", "[J", true)
  | 27 => ("ClockAuctionsModel", "winners", "I", false)
  | 28 => ("ClockAuctionsModel", "sum", "J", false)
  | 29 => ("ClockAuctionsModel", "proved", "Z", false)
  | 30 => ("ClockAuctionsModel", "records", "I", false)
  | 31 => ("ClockAuctionsModel", "sorts", "[I", true)
  | 32 => ("ClockAuctionsModel", "recordLots", "[I", true)
  | 33 => ("ClockAuctionsModel", "recordBuyers", "[I", true)
  | 34 => ("ClockAuctionsModel", "recordPrices", "[J", true)
  | _ => ("ClockAuctionsModel", "chain", "[I", true)
def tyX9 : Nat → FieldType := fun k => match k with
  | 0 => .int
  | 1 => .array .int
  | 2 => .array .long
  | 3 => .array .long
  | 4 => .array .int
  | 5 => .array .int
  | 6 => .array .long
  | 7 => .array .boolean
  | 8 => .array .boolean
  | 9 => .array .boolean
  | 10 => .array .long
  | 11 => .array .int
  | 12 => .int
  | 13 => .array .long
  | 14 => .array .long
  | 15 => .array .long
  | 16 => .long
  | 17 => .int
  | 18 => .long
  | 19 => .long
  | 20 => .long
  | 21 => .long
  | 22 => .boolean
  | 23 => .int
  | 24 => .array .int
  | 25 => .array .long
  | 26 => .array .long
  | 27 => .int
  | 28 => .long
  | 29 => .boolean
  | 30 => .int
  | 31 => .array .int
  | 32 => .array .int
  | 33 => .array .int
  | 34 => .array .long
  | _ => .array .int
abbrev wsX90 : List Cond := u_ws RX9 TX9 36
theorem nmX9 : ∀ a, a < 36 → ∀ b, b < 36 → a ≠ b → (TX9 a).2.1 ≠ (TX9 b).2.1 := by decide +kernel
theorem tyX9_ok : ∀ k, k < 36 → parseFieldDescriptor (TX9 k).2.2.1 = some (tyX9 k) := by decide +kernel
abbrev cX9_init : ByteArray := prog_11_method_1_code
def yX9_init : MethodName := ⟨RX9, "<init>", "()V"⟩
abbrev cX9_isLot : ByteArray := prog_11_method_2_code
def yX9_isLot : MethodName := ⟨RX9, "isLot", "(I)Z"⟩
abbrev cX9_isBuyer : ByteArray := prog_11_method_3_code
def yX9_isBuyer : MethodName := ⟨RX9, "isBuyer", "(I)Z"⟩
abbrev cX9_next : ByteArray := prog_11_method_4_code
def yX9_next : MethodName := ⟨RX9, "next", "(IIIIJ)I"⟩
abbrev cX9_note : ByteArray := prog_11_method_5_code
def yX9_note : MethodName := ⟨RX9, "note", "(IIIJ)V"⟩
abbrev cX9_heldBy : ByteArray := prog_11_method_6_code
def yX9_heldBy : MethodName := ⟨RX9, "heldBy", "(I)J"⟩
abbrev cX9_free : ByteArray := prog_11_method_7_code
def yX9_free : MethodName := ⟨RX9, "free", "(I)J"⟩
abbrev cX9_up : ByteArray := prog_11_method_8_code
def yX9_up : MethodName := ⟨RX9, "up", "(JJ)J"⟩
abbrev cX9_add : ByteArray := prog_11_method_9_code
def yX9_add : MethodName := ⟨RX9, "add", "(IJJ)I"⟩
abbrev cX9_lot : ByteArray := prog_11_method_10_code
def yX9_lot : MethodName := ⟨RX9, "lot", "(IJJ)I"⟩
abbrev cX9_buyer : ByteArray := prog_11_method_11_code
def yX9_buyer : MethodName := ⟨RX9, "buyer", "(J)I"⟩
abbrev cX9_start : ByteArray := prog_11_method_12_code
def yX9_start : MethodName := ⟨RX9, "start", "(IJJ)I"⟩
abbrev cX9_priceAt : ByteArray := prog_11_method_13_code
def yX9_priceAt : MethodName := ⟨RX9, "priceAt", "(J)J"⟩
abbrev cX9_clock : ByteArray := prog_11_method_14_code
def yX9_clock : MethodName := ⟨RX9, "clock", "()J"⟩
abbrev cX9_press : ByteArray := prog_11_method_15_code
def yX9_press : MethodName := ⟨RX9, "press", "(IJ)Z"⟩
abbrev cX9_delay : ByteArray := prog_11_method_16_code
def yX9_delay : MethodName := ⟨RX9, "delay", "(IJ)Z"⟩
abbrev cX9_outage : ByteArray := prog_11_method_17_code
def yX9_outage : MethodName := ⟨RX9, "outage", "(JZ)Z"⟩
abbrev cX9_earliest : ByteArray := prog_11_method_18_code
def yX9_earliest : MethodName := ⟨RX9, "earliest", "()I"⟩
abbrev cX9_sell : ByteArray := prog_11_method_19_code
def yX9_sell : MethodName := ⟨RX9, "sell", "(I)V"⟩
abbrev cX9_goOn : ByteArray := prog_11_method_20_code
def yX9_goOn : MethodName := ⟨RX9, "goOn", "(J)I"⟩
abbrev cX9_tick : ByteArray := prog_11_method_21_code
def yX9_tick : MethodName := ⟨RX9, "tick", "(J)I"⟩
abbrev cX9_tie : ByteArray := prog_11_method_22_code
def yX9_tie : MethodName := ⟨RX9, "tie", "(II)I"⟩
abbrev cX9_isBought : ByteArray := prog_11_method_23_code
def yX9_isBought : MethodName := ⟨RX9, "isBought", "(I)Z"⟩
abbrev cX9_winner : ByteArray := prog_11_method_24_code
def yX9_winner : MethodName := ⟨RX9, "winner", "(I)I"⟩
abbrev cX9_price : ByteArray := prog_11_method_25_code
def yX9_price : MethodName := ⟨RX9, "price", "(I)J"⟩
abbrev cX9_part : ByteArray := prog_11_method_26_code
def yX9_part : MethodName := ⟨RX9, "part", "(IJ)I"⟩
abbrev cX9_left : ByteArray := prog_11_method_27_code
def yX9_left : MethodName := ⟨RX9, "left", "(I)J"⟩
abbrev cX9_again : ByteArray := prog_11_method_28_code
def yX9_again : MethodName := ⟨RX9, "again", "(I)I"⟩
abbrev cX9_back : ByteArray := prog_11_method_29_code
def yX9_back : MethodName := ⟨RX9, "back", "(I)I"⟩
abbrev cX9_fee : ByteArray := prog_11_method_30_code
def yX9_fee : MethodName := ⟨RX9, "fee", "(I)J"⟩
abbrev cX9_order : ByteArray := prog_11_method_31_code
def yX9_order : MethodName := ⟨RX9, "order", "(II)I"⟩
abbrev cX9_held : ByteArray := prog_11_method_32_code
def yX9_held : MethodName := ⟨RX9, "held", "(I)J"⟩
abbrev cX9_rise : ByteArray := prog_11_method_33_code
def yX9_rise : MethodName := ⟨RX9, "rise", "(IIJ)I"⟩
abbrev cX9_bid : ByteArray := prog_11_method_34_code
def yX9_bid : MethodName := ⟨RX9, "bid", "(IJ)I"⟩
abbrev cX9_on : ByteArray := prog_11_method_35_code
def yX9_on : MethodName := ⟨RX9, "on", "(II)Z"⟩
abbrev cX9_isGood : ByteArray := prog_11_method_36_code
def yX9_isGood : MethodName := ⟨RX9, "isGood", "(I)Z"⟩
abbrev cX9_sumOf : ByteArray := prog_11_method_37_code
def yX9_sumOf : MethodName := ⟨RX9, "sumOf", "(I)J"⟩
abbrev cX9_size : ByteArray := prog_11_method_38_code
def yX9_size : MethodName := ⟨RX9, "size", "(I)I"⟩
abbrev cX9_isFirst : ByteArray := prog_11_method_39_code
def yX9_isFirst : MethodName := ⟨RX9, "isFirst", "(II)Z"⟩
abbrev cX9_sets : ByteArray := prog_11_method_40_code
def yX9_sets : MethodName := ⟨RX9, "sets", "(J)I"⟩
abbrev cX9_wins : ByteArray := prog_11_method_41_code
def yX9_wins : MethodName := ⟨RX9, "wins", "(I)Z"⟩
abbrev cX9_sum : ByteArray := prog_11_method_42_code
def yX9_sum : MethodName := ⟨RX9, "sum", "()J"⟩
abbrev cX9_proved : ByteArray := prog_11_method_43_code
def yX9_proved : MethodName := ⟨RX9, "proved", "()Z"⟩
abbrev cX9_record : ByteArray := prog_11_method_44_code
def yX9_record : MethodName := ⟨RX9, "record", "(II)I"⟩
abbrev cX9_chained : ByteArray := prog_11_method_45_code
def yX9_chained : MethodName := ⟨RX9, "chained", "()Z"⟩
abbrev cX9_turn : ByteArray := prog_11_method_46_code
def yX9_turn : MethodName := ⟨RX9, "turn", "(J)V"⟩
abbrev cX9_play : ByteArray := prog_11_method_47_code
def yX9_play : MethodName := ⟨RX9, "play", "(JI)I"⟩
def RJx29ce0 : String := "java/lang/Enum"
def TJx29ce0 : u_T := fun k => match k with
  | _ => ("", "", "", false)
def tyJx29ce0 : Nat → FieldType := fun k => match k with
  | _ => .int
abbrev wsJx29ce00 : List Cond := u_ws RJx29ce0 TJx29ce0 0
theorem nmJx29ce0 : ∀ a, a < 0 → ∀ b, b < 0 → a ≠ b → (TJx29ce0 a).2.1 ≠ (TJx29ce0 b).2.1 := by decide +kernel
theorem tyJx29ce0_ok : ∀ k, k < 0 → parseFieldDescriptor (TJx29ce0 k).2.2.1 = some (tyJx29ce0 k) := by decide +kernel
def RJ6 : String := "java/lang/Integer"
def TJ6 : u_T := fun k => match k with
  | _ => ("", "", "", false)
def tyJ6 : Nat → FieldType := fun k => match k with
  | _ => .int
abbrev wsJ60 : List Cond := u_ws RJ6 TJ6 0
theorem nmJ6 : ∀ a, a < 0 → ∀ b, b < 0 → a ≠ b → (TJ6 a).2.1 ≠ (TJ6 b).2.1 := by decide +kernel
theorem tyJ6_ok : ∀ k, k < 0 → parseFieldDescriptor (TJ6 k).2.2.1 = some (tyJ6 k) := by decide +kernel
abbrev cJ6_bitCount_0f7a4 : ByteArray := prog_13_method_49_code
def yJ6_bitCount_0f7a4 : MethodName := ⟨RJ6, "bitCount", "(I)I"⟩
def RJ9 : String := "java/lang/Math"
def TJ9 : u_T := fun k => match k with
  | _ => ("", "", "", false)
def tyJ9 : Nat → FieldType := fun k => match k with
  | _ => .int
abbrev wsJ90 : List Cond := u_ws RJ9 TJ9 0
theorem nmJ9 : ∀ a, a < 0 → ∀ b, b < 0 → a ≠ b → (TJ9 a).2.1 ≠ (TJ9 b).2.1 := by decide +kernel
theorem tyJ9_ok : ∀ k, k < 0 → parseFieldDescriptor (TJ9 k).2.2.1 = some (tyJ9 k) := by decide +kernel
abbrev cJ9_max_f86c9 : ByteArray := prog_14_method_66_code
def yJ9_max_f86c9 : MethodName := ⟨RJ9, "max", "(JJ)J"⟩
abbrev cJ9_min_f86c9 : ByteArray := prog_14_method_70_code
def yJ9_min_f86c9 : MethodName := ⟨RJ9, "min", "(JJ)J"⟩
def RL : String := "ClockAuctionsLaw"
abbrev cL_law : ByteArray := code
def yL_law : MethodName := ⟨RL, "law", "([I)Z"⟩
abbrev vwCl : List vw_C := [(RX0, TX0, 4), (RX1, TX1, 4), (RX2, TX2, 3), (RX3, TX3, 5), (RX4, TX4, 6), (RX5, TX5, 12), (RX6, TX6, 6), (RX8, TX8, 11), (RX9, TX9, 36)]
end
section
def wT : List Cond := lw_tbl.filter goodWord
theorem wT_mem {n : Nat} {w : Cond} (h : lw_tbl[n]? = some w) (hg : goodWord w = true) : w ∈ wT := List.mem_filter.mpr ⟨List.mem_of_getElem? h, hg⟩
theorem wT_tbl : ∀ w ∈ wT, w ∈ lw_tbl := fun _ h => (List.mem_filter.mp h).1
theorem wT_good {w : Cond} (h : w ∈ wT) : (w.onTables && w.keeps) = true ∨ ∃ ty, w = .arrayClass ty := good_of_word (List.mem_filter.mp h).2
abbrev wM (y : MethodName) (cc : ByteArray) (n : Nat) (ret : Option FieldType) : List Cond := Cond.code y cc n ret :: wT
theorem goodM {y : MethodName} {cc : ByteArray} {n : Nat} {ret : Option FieldType} (h : Cond.code y cc n ret ∈ wT) : GoodIn wT (wM y cc n ret) := fun w hw => by
  rcases List.mem_cons.mp hw with rfl | hw
  · exact ⟨h, wT_good h⟩
  · exact ⟨hw, wT_good hw⟩
theorem goodV {own C : String} {idx : Nat} {y : MethodName} {cc : ByteArray} {n : Nat} {ret : Option FieldType} (h1 : Cond.methodLink own idx y ∈ wT) (h2 : Cond.instanceMethod y ∈ wT) (h3 : Cond.selects C y y ∈ wT) (h4 : Cond.initialized C ∈ wT) (h5 : Cond.code y cc n ret ∈ wT) : GoodIn wT (wsV own idx C y (wM y cc n ret)) := fun w hw => by
  unfold wsV at hw
  rcases List.mem_append.mp hw with hw | hw
  · simp only [List.mem_cons, List.not_mem_nil, or_false] at hw
    rcases hw with rfl | rfl | rfl | rfl
    · exact ⟨h1, wT_good h1⟩
    · exact ⟨h2, wT_good h2⟩
    · exact ⟨h3, wT_good h3⟩
    · exact ⟨h4, wT_good h4⟩
  · exact goodM h5 w hw
theorem goodS {own : String} {idx : Nat} {y : MethodName} {cc : ByteArray} {n : Nat} {ret : Option FieldType} (h1 : Cond.methodLink own idx y ∈ wT) (h2 : Cond.static y ∈ wT) (h4 : Cond.initialized y.cls ∈ wT) (h5 : Cond.code y cc n ret ∈ wT) : GoodIn wT (va_wsS own idx y (wM y cc n ret)) := fun w hw => by
  unfold va_wsS at hw
  rcases List.mem_append.mp hw with hw | hw
  · simp only [List.mem_cons, List.not_mem_nil, or_false] at hw
    rcases hw with rfl | rfl | rfl
    · exact ⟨h1, wT_good h1⟩
    · exact ⟨h2, wT_good h2⟩
    · exact ⟨h4, wT_good h4⟩
  · exact goodM h5 w hw
theorem wT_all {ws : List Cond} (h : ws.all (fun w => decide (w ∈ lw_tbl) && goodWord w) = true) : ∀ w ∈ ws, w ∈ wT := fun w hw => by
  have h3 := List.all_eq_true.mp h w hw
  rw [Bool.and_eq_true] at h3
  exact List.mem_filter.mpr ⟨of_decide_eq_true h3.1, h3.2⟩
theorem tws_yX8_addLot : Cond.selects RX8 yX8_addLot yX8_addLot ∈ wT := wT_mem (n := 0) (by decide +kernel) rfl
theorem tws_yX8_lotAt : Cond.selects RX8 yX8_lotAt yX8_lotAt ∈ wT := wT_mem (n := 1) (by decide +kernel) rfl
theorem tws_yX8_buyerAt : Cond.selects RX8 yX8_buyerAt yX8_buyerAt ∈ wT := wT_mem (n := 2) (by decide +kernel) rfl
theorem tws_yX8_freeOf : Cond.selects RX8 yX8_freeOf yX8_freeOf ∈ wT := wT_mem (n := 3) (by decide +kernel) rfl
theorem tws_yX8_lotsAhead : Cond.selects RX8 yX8_lotsAhead yX8_lotsAhead ∈ wT := wT_mem (n := 4) (by decide +kernel) rfl
theorem tws_yX8_runClock : Cond.selects RX8 yX8_runClock yX8_runClock ∈ wT := wT_mem (n := 5) (by decide +kernel) rfl
theorem tws_yX8_dropPressesThatCannotPay : Cond.selects RX8 yX8_dropPressesThatCannotPay yX8_dropPressesThatCannotPay ∈ wT := wT_mem (n := 6) (by decide +kernel) rfl
theorem tws_yX8_firstDuePress : Cond.selects RX8 yX8_firstDuePress yX8_firstDuePress ∈ wT := wT_mem (n := 7) (by decide +kernel) rfl
theorem tws_yX8_sellByClock : Cond.selects RX8 yX8_sellByClock yX8_sellByClock ∈ wT := wT_mem (n := 8) (by decide +kernel) rfl
theorem tws_yX8_pressesTiedWith : Cond.selects RX8 yX8_pressesTiedWith yX8_pressesTiedWith ∈ wT := wT_mem (n := 9) (by decide +kernel) rfl
theorem tws_yX8_stopClock : Cond.selects RX8 yX8_stopClock yX8_stopClock ∈ wT := wT_mem (n := 10) (by decide +kernel) rfl
theorem tws_yX8_dropPressesFrom : Cond.selects RX8 yX8_dropPressesFrom yX8_dropPressesFrom ∈ wT := wT_mem (n := 11) (by decide +kernel) rfl
theorem tws_yX8_sellRipeOffers : Cond.selects RX8 yX8_sellRipeOffers yX8_sellRipeOffers ∈ wT := wT_mem (n := 12) (by decide +kernel) rfl
theorem tws_yX8_bidAt : Cond.selects RX8 yX8_bidAt yX8_bidAt ∈ wT := wT_mem (n := 13) (by decide +kernel) rfl
theorem tws_yX8_findWinners : Cond.selects RX8 yX8_findWinners yX8_findWinners ∈ wT := wT_mem (n := 14) (by decide +kernel) rfl
theorem tws_yX8_isGood : Cond.selects RX8 yX8_isGood yX8_isGood ∈ wT := wT_mem (n := 15) (by decide +kernel) rfl
theorem tws_yX6_addUpRests : Cond.selects RX6 yX6_addUpRests yX6_addUpRests ∈ wT := wT_mem (n := 16) (by decide +kernel) rfl
theorem tws_yX6_isBetter : Cond.selects RX6 yX6_isBetter yX6_isBetter ∈ wT := wT_mem (n := 17) (by decide +kernel) rfl
theorem tws_yX6_goodAt : Cond.selects RX6 yX6_goodAt yX6_goodAt ∈ wT := wT_mem (n := 18) (by decide +kernel) rfl
theorem tws_yX6_restFrom : Cond.selects RX6 yX6_restFrom yX6_restFrom ∈ wT := wT_mem (n := 19) (by decide +kernel) rfl
theorem tws_yX6_spend : Cond.selects RX6 yX6_spend yX6_spend ∈ wT := wT_mem (n := 20) (by decide +kernel) rfl
theorem tws_yX8_sellSet : Cond.selects RX8 yX8_sellSet yX8_sellSet ∈ wT := wT_mem (n := 21) (by decide +kernel) rfl
theorem tws_yX8_playTurn : Cond.selects RX8 yX8_playTurn yX8_playTurn ∈ wT := wT_mem (n := 22) (by decide +kernel) rfl
theorem tws_yX8_soldCount : Cond.selects RX8 yX8_soldCount yX8_soldCount ∈ wT := wT_mem (n := 23) (by decide +kernel) rfl
theorem tws_yX9_add : Cond.selects RX9 yX9_add yX9_add ∈ wT := wT_mem (n := 24) (by decide +kernel) rfl
theorem tws_yX9_isLot : Cond.selects RX9 yX9_isLot yX9_isLot ∈ wT := wT_mem (n := 25) (by decide +kernel) rfl
theorem tws_yX9_priceAt : Cond.selects RX9 yX9_priceAt yX9_priceAt ∈ wT := wT_mem (n := 26) (by decide +kernel) rfl
theorem tws_yX9_isBuyer : Cond.selects RX9 yX9_isBuyer yX9_isBuyer ∈ wT := wT_mem (n := 27) (by decide +kernel) rfl
theorem tws_yX9_goOn : Cond.selects RX9 yX9_goOn yX9_goOn ∈ wT := wT_mem (n := 28) (by decide +kernel) rfl
theorem tws_yX9_earliest : Cond.selects RX9 yX9_earliest yX9_earliest ∈ wT := wT_mem (n := 29) (by decide +kernel) rfl
theorem tws_yX9_free : Cond.selects RX9 yX9_free yX9_free ∈ wT := wT_mem (n := 30) (by decide +kernel) rfl
theorem tws_yX9_heldBy : Cond.selects RX9 yX9_heldBy yX9_heldBy ∈ wT := wT_mem (n := 31) (by decide +kernel) rfl
theorem tws_yX9_sell : Cond.selects RX9 yX9_sell yX9_sell ∈ wT := wT_mem (n := 32) (by decide +kernel) rfl
theorem tws_yX9_note : Cond.selects RX9 yX9_note yX9_note ∈ wT := wT_mem (n := 33) (by decide +kernel) rfl
theorem tws_yX9_next : Cond.selects RX9 yX9_next yX9_next ∈ wT := wT_mem (n := 34) (by decide +kernel) rfl
theorem tws_yX9_isBought : Cond.selects RX9 yX9_isBought yX9_isBought ∈ wT := wT_mem (n := 35) (by decide +kernel) rfl
theorem tws_yX9_isGood : Cond.selects RX9 yX9_isGood yX9_isGood ∈ wT := wT_mem (n := 36) (by decide +kernel) rfl
theorem tws_yX9_sumOf : Cond.selects RX9 yX9_sumOf yX9_sumOf ∈ wT := wT_mem (n := 37) (by decide +kernel) rfl
theorem tws_yX9_turn : Cond.selects RX9 yX9_turn yX9_turn ∈ wT := wT_mem (n := 38) (by decide +kernel) rfl
theorem twn_RL : Cond.initialized RL ∈ wT := wT_mem (n := 39) (by decide +kernel) rfl
theorem twn_RX8 : Cond.initialized RX8 ∈ wT := wT_mem (n := 40) (by decide +kernel) rfl
theorem twn_RX4 : Cond.initialized RX4 ∈ wT := wT_mem (n := 41) (by decide +kernel) rfl
theorem twn_RX2 : Cond.initialized RX2 ∈ wT := wT_mem (n := 42) (by decide +kernel) rfl
theorem twn_RX6 : Cond.initialized RX6 ∈ wT := wT_mem (n := 43) (by decide +kernel) rfl
theorem twn_RX9 : Cond.initialized RX9 ∈ wT := wT_mem (n := 44) (by decide +kernel) rfl
theorem twn_RX5 : Cond.initialized RX5 ∈ wT := wT_mem (n := 45) (by decide +kernel) rfl
theorem twn_RJx29ce0 : Cond.initialized RJx29ce0 ∈ wT := wT_mem (n := 46) (by decide +kernel) rfl
theorem twn_RX7 : Cond.initialized RX7 ∈ wT := wT_mem (n := 47) (by decide +kernel) rfl
theorem twn_RX1 : Cond.initialized RX1 ∈ wT := wT_mem (n := 48) (by decide +kernel) rfl
theorem twn_RJ9 : Cond.initialized RJ9 ∈ wT := wT_mem (n := 49) (by decide +kernel) rfl
theorem twn_RX3 : Cond.initialized RX3 ∈ wT := wT_mem (n := 50) (by decide +kernel) rfl
theorem twn_RX0 : Cond.initialized RX0 ∈ wT := wT_mem (n := 51) (by decide +kernel) rfl
theorem twn_RJ6 : Cond.initialized RJ6 ∈ wT := wT_mem (n := 52) (by decide +kernel) rfl
theorem twc_RL_7 : Cond.classLink RL 7 RX8 ∈ wT := wT_mem (n := 53) (by decide +kernel) rfl
theorem twt_RX8 : Cond.instantiable RX8 11 ∈ wT := wT_mem (n := 54) (by decide +kernel) rfl
theorem twm_RL_9 : Cond.methodLink RL 9 yX8_init ∈ wT := wT_mem (n := 55) (by decide +kernel) rfl
theorem twi_yX8_init : Cond.instanceMethod yX8_init ∈ wT := wT_mem (n := 56) (by decide +kernel) rfl
theorem two_yX8_init : Cond.code yX8_init cX8_init 1 none ∈ wT := wT_mem (n := 57) (by decide +kernel) rfl
theorem twm_RX8_1 : Cond.methodLink RX8 1 objectInit ∈ wT := wT_mem (n := 58) (by decide +kernel) rfl
theorem twi_objectInit : Cond.instanceMethod objectInit ∈ wT := wT_mem (n := 59) (by decide +kernel) rfl
theorem two_objectInit : Cond.code objectInit ⟨#[0xb1]⟩ 1 none ∈ wT := wT_mem (n := 60) (by decide +kernel) rfl
theorem twc_RX8_9 : Cond.classLink RX8 9 RX5 ∈ wT := wT_mem (n := 61) (by decide +kernel) rfl
theorem twc_RX8_15 : Cond.classLink RX8 15 RX1 ∈ wT := wT_mem (n := 63) (by decide +kernel) rfl
theorem twc_RX8_21 : Cond.classLink RX8 21 RX0 ∈ wT := wT_mem (n := 65) (by decide +kernel) rfl
theorem twc_RX8_27 : Cond.classLink RX8 27 RX4 ∈ wT := wT_mem (n := 67) (by decide +kernel) rfl
theorem twt_RX4 : Cond.instantiable RX4 6 ∈ wT := wT_mem (n := 68) (by decide +kernel) rfl
theorem twi_yX4_init : Cond.instanceMethod yX4_init ∈ wT := wT_mem (n := 70) (by decide +kernel) rfl
theorem two_yX4_init : Cond.code yX4_init cX4_init 1 none ∈ wT := wT_mem (n := 71) (by decide +kernel) rfl
theorem twm_RX4_1 : Cond.methodLink RX4 1 objectInit ∈ wT := wT_mem (n := 72) (by decide +kernel) rfl
theorem twf_RX4_9 : Cond.fieldLink RX4 9 "ClockAuctions$FallingClock" "lot" "LClockAuctions$Lot;" ∈ wT := wT_mem (n := 73) (by decide +kernel) rfl
theorem twf_RX8_164 : Cond.fieldLink RX8 164 "ClockAuctions$FallingClock" "lot" "LClockAuctions$Lot;" ∈ wT := wT_mem (n := 74) (by decide +kernel) rfl
theorem twf_RX4_15 : Cond.fieldLink RX4 15 "ClockAuctions$FallingClock" "from" "J" ∈ wT := wT_mem (n := 75) (by decide +kernel) rfl
theorem twf_RX4_19 : Cond.fieldLink RX4 19 "ClockAuctions$FallingClock" "step" "J" ∈ wT := wT_mem (n := 76) (by decide +kernel) rfl
theorem twf_RX4_22 : Cond.fieldLink RX4 22 "ClockAuctions$FallingClock" "end" "J" ∈ wT := wT_mem (n := 77) (by decide +kernel) rfl
theorem twf_RX8_198 : Cond.fieldLink RX8 198 "ClockAuctions$FallingClock" "end" "J" ∈ wT := wT_mem (n := 78) (by decide +kernel) rfl
theorem twf_RX4_25 : Cond.fieldLink RX4 25 "ClockAuctions$FallingClock" "time" "J" ∈ wT := wT_mem (n := 79) (by decide +kernel) rfl
theorem twf_RX8_218 : Cond.fieldLink RX8 218 "ClockAuctions$FallingClock" "time" "J" ∈ wT := wT_mem (n := 80) (by decide +kernel) rfl
theorem twf_RX4_28 : Cond.fieldLink RX4 28 "ClockAuctions$FallingClock" "stands" "Z" ∈ wT := wT_mem (n := 81) (by decide +kernel) rfl
theorem twf_RX8_188 : Cond.fieldLink RX8 188 "ClockAuctions$FallingClock" "stands" "Z" ∈ wT := wT_mem (n := 82) (by decide +kernel) rfl
theorem twc_RX8_34 : Cond.classLink RX8 34 RX2 ∈ wT := wT_mem (n := 96) (by decide +kernel) rfl
theorem twt_RX2 : Cond.instantiable RX2 3 ∈ wT := wT_mem (n := 97) (by decide +kernel) rfl
theorem twi_yX2_init : Cond.instanceMethod yX2_init ∈ wT := wT_mem (n := 99) (by decide +kernel) rfl
theorem two_yX2_init : Cond.code yX2_init cX2_init 1 none ∈ wT := wT_mem (n := 100) (by decide +kernel) rfl
theorem twm_RX2_3 : Cond.methodLink RX2 3 objectInit ∈ wT := wT_mem (n := 101) (by decide +kernel) rfl
theorem twc_RX2_11 : Cond.classLink RX2 11 RX3 ∈ wT := wT_mem (n := 102) (by decide +kernel) rfl
theorem twf_RX2_13 : Cond.fieldLink RX2 13 "ClockAuctions$Chain" "entries" "[LClockAuctions$Entry;" ∈ wT := wT_mem (n := 104) (by decide +kernel) rfl
theorem twf_RX2_21 : Cond.fieldLink RX2 21 "ClockAuctions$Chain" "count" "I" ∈ wT := wT_mem (n := 105) (by decide +kernel) rfl
theorem twf_RX2_17 : Cond.fieldLink RX2 17 "ClockAuctions$Chain" "last" "I" ∈ wT := wT_mem (n := 106) (by decide +kernel) rfl
theorem twc_RX8_41 : Cond.classLink RX8 41 RX6 ∈ wT := wT_mem (n := 114) (by decide +kernel) rfl
theorem twt_RX6 : Cond.instantiable RX6 6 ∈ wT := wT_mem (n := 115) (by decide +kernel) rfl
theorem twi_yX6_init : Cond.instanceMethod yX6_init ∈ wT := wT_mem (n := 117) (by decide +kernel) rfl
theorem two_yX6_init : Cond.code yX6_init cX6_init 1 none ∈ wT := wT_mem (n := 118) (by decide +kernel) rfl
theorem twm_RX6_3 : Cond.methodLink RX6 3 objectInit ∈ wT := wT_mem (n := 119) (by decide +kernel) rfl
theorem twc_RX6_9 : Cond.classLink RX6 9 RX0 ∈ wT := wT_mem (n := 120) (by decide +kernel) rfl
theorem twf_RX6_11 : Cond.fieldLink RX6 11 "ClockAuctions$SetSearch" "good" "[LClockAuctions$Bid;" ∈ wT := wT_mem (n := 121) (by decide +kernel) rfl
theorem twf_RX6_17 : Cond.fieldLink RX6 17 "ClockAuctions$SetSearch" "restSums" "[J" ∈ wT := wT_mem (n := 122) (by decide +kernel) rfl
theorem twf_RX6_21 : Cond.fieldLink RX6 21 "ClockAuctions$SetSearch" "purses" "[J" ∈ wT := wT_mem (n := 123) (by decide +kernel) rfl
theorem twf_RX6_24 : Cond.fieldLink RX6 24 "ClockAuctions$SetSearch" "count" "I" ∈ wT := wT_mem (n := 124) (by decide +kernel) rfl
theorem twf_RX6_28 : Cond.fieldLink RX6 28 "ClockAuctions$SetSearch" "bestChosen" "I" ∈ wT := wT_mem (n := 125) (by decide +kernel) rfl
theorem twf_RX6_31 : Cond.fieldLink RX6 31 "ClockAuctions$SetSearch" "bestSum" "J" ∈ wT := wT_mem (n := 126) (by decide +kernel) rfl
theorem twf_RX8_282 : Cond.fieldLink RX8 282 "ClockAuctions$SetSearch" "bestSum" "J" ∈ wT := wT_mem (n := 127) (by decide +kernel) rfl
theorem twa_long : Cond.arrayClass .long ∈ wT := wT_mem (n := 141) (by decide +kernel) rfl
theorem twf_RX8_11 : Cond.fieldLink RX8 11 "ClockAuctions" "lots" "[LClockAuctions$Lot;" ∈ wT := wT_mem (n := 142) (by decide +kernel) rfl
theorem twf_RX8_17 : Cond.fieldLink RX8 17 "ClockAuctions" "buyers" "[LClockAuctions$Buyer;" ∈ wT := wT_mem (n := 143) (by decide +kernel) rfl
theorem twf_RX8_23 : Cond.fieldLink RX8 23 "ClockAuctions" "bids" "[LClockAuctions$Bid;" ∈ wT := wT_mem (n := 144) (by decide +kernel) rfl
theorem twf_RX8_30 : Cond.fieldLink RX8 30 "ClockAuctions" "running" "LClockAuctions$FallingClock;" ∈ wT := wT_mem (n := 145) (by decide +kernel) rfl
theorem twf_RX8_37 : Cond.fieldLink RX8 37 "ClockAuctions" "chain" "LClockAuctions$Chain;" ∈ wT := wT_mem (n := 146) (by decide +kernel) rfl
theorem twf_RX8_44 : Cond.fieldLink RX8 44 "ClockAuctions" "search" "LClockAuctions$SetSearch;" ∈ wT := wT_mem (n := 147) (by decide +kernel) rfl
theorem twf_RX8_115 : Cond.fieldLink RX8 115 "ClockAuctions" "lotCount" "I" ∈ wT := wT_mem (n := 148) (by decide +kernel) rfl
theorem twf_RX8_60 : Cond.fieldLink RX8 60 "ClockAuctions" "buyerCount" "I" ∈ wT := wT_mem (n := 149) (by decide +kernel) rfl
theorem twf_RX8_249 : Cond.fieldLink RX8 249 "ClockAuctions" "bidCount" "I" ∈ wT := wT_mem (n := 150) (by decide +kernel) rfl
theorem twf_RX8_208 : Cond.fieldLink RX8 208 "ClockAuctions" "day" "J" ∈ wT := wT_mem (n := 151) (by decide +kernel) rfl
theorem twf_RX8_265 : Cond.fieldLink RX8 265 "ClockAuctions" "latestSetsStood" "Z" ∈ wT := wT_mem (n := 152) (by decide +kernel) rfl
theorem twm_RL_15 : Cond.methodLink RL 15 yX8_lot ∈ wT := wT_mem (n := 176) (by decide +kernel) rfl
theorem twi_yX8_lot : Cond.instanceMethod yX8_lot ∈ wT := wT_mem (n := 177) (by decide +kernel) rfl
theorem tws_yX8_lot : Cond.selects RX8 yX8_lot yX8_lot ∈ wT := wT_mem (n := 178) (by decide +kernel) rfl
theorem two_yX8_lot : Cond.code yX8_lot cX8_lot 6 (some (FieldType.int)) ∈ wT := wT_mem (n := 179) (by decide +kernel) rfl
theorem twl_RX8_48 : Cond.constantLong RX8 48 (9) ∈ wT := wT_mem (n := 180) (by decide +kernel) rfl
theorem twm_RX8_50 : Cond.methodLink RX8 50 yX8_isWithin ∈ wT := wT_mem (n := 181) (by decide +kernel) rfl
theorem twi_yX8_isWithin : Cond.static yX8_isWithin ∈ wT := wT_mem (n := 182) (by decide +kernel) rfl
theorem two_yX8_isWithin : Cond.code yX8_isWithin cX8_isWithin 6 (some (FieldType.boolean)) ∈ wT := wT_mem (n := 183) (by decide +kernel) rfl
theorem twl_RX8_54 : Cond.constantLong RX8 54 (1000000000) ∈ wT := wT_mem (n := 184) (by decide +kernel) rfl
theorem twm_RX8_56 : Cond.methodLink RX8 56 yX8_addLot ∈ wT := wT_mem (n := 185) (by decide +kernel) rfl
theorem twi_yX8_addLot : Cond.instanceMethod yX8_addLot ∈ wT := wT_mem (n := 187) (by decide +kernel) rfl
theorem two_yX8_addLot : Cond.code yX8_addLot cX8_addLot 7 (some (FieldType.int)) ∈ wT := wT_mem (n := 188) (by decide +kernel) rfl
theorem twt_RX5 : Cond.instantiable RX5 12 ∈ wT := wT_mem (n := 189) (by decide +kernel) rfl
theorem twm_RX8_356 : Cond.methodLink RX8 356 yX5_init ∈ wT := wT_mem (n := 190) (by decide +kernel) rfl
theorem twi_yX5_init : Cond.instanceMethod yX5_init ∈ wT := wT_mem (n := 191) (by decide +kernel) rfl
theorem two_yX5_init : Cond.code yX5_init cX5_init 7 none ∈ wT := wT_mem (n := 192) (by decide +kernel) rfl
theorem twm_RX5_3 : Cond.methodLink RX5 3 objectInit ∈ wT := wT_mem (n := 193) (by decide +kernel) rfl
theorem twf_RX5_25 : Cond.fieldLink RX5 25 "ClockAuctions$State" "OPEN" "LClockAuctions$State;" ∈ wT := wT_mem (n := 194) (by decide +kernel) rfl
theorem twf_RX5_9 : Cond.fieldLink RX5 9 "ClockAuctions$Lot" "number" "I" ∈ wT := wT_mem (n := 196) (by decide +kernel) rfl
theorem twf_RX8_383 : Cond.fieldLink RX8 383 "ClockAuctions$Lot" "number" "I" ∈ wT := wT_mem (n := 197) (by decide +kernel) rfl
theorem twf_RX5_15 : Cond.fieldLink RX5 15 "ClockAuctions$Lot" "kind" "I" ∈ wT := wT_mem (n := 198) (by decide +kernel) rfl
theorem twf_RX8_141 : Cond.fieldLink RX8 141 "ClockAuctions$Lot" "kind" "I" ∈ wT := wT_mem (n := 199) (by decide +kernel) rfl
theorem twf_RX5_18 : Cond.fieldLink RX5 18 "ClockAuctions$Lot" "grams" "J" ∈ wT := wT_mem (n := 200) (by decide +kernel) rfl
theorem twf_RX8_86 : Cond.fieldLink RX8 86 "ClockAuctions$Lot" "grams" "J" ∈ wT := wT_mem (n := 201) (by decide +kernel) rfl
theorem twf_RX5_22 : Cond.fieldLink RX5 22 "ClockAuctions$Lot" "reserve" "J" ∈ wT := wT_mem (n := 202) (by decide +kernel) rfl
theorem twf_RX8_144 : Cond.fieldLink RX8 144 "ClockAuctions$Lot" "reserve" "J" ∈ wT := wT_mem (n := 203) (by decide +kernel) rfl
theorem twf_RX5_31 : Cond.fieldLink RX5 31 "ClockAuctions$Lot" "state" "LClockAuctions$State;" ∈ wT := wT_mem (n := 204) (by decide +kernel) rfl
theorem twf_RX8_100 : Cond.fieldLink RX8 100 "ClockAuctions$Lot" "state" "LClockAuctions$State;" ∈ wT := wT_mem (n := 205) (by decide +kernel) rfl
theorem twf_RX5_34 : Cond.fieldLink RX5 34 "ClockAuctions$Lot" "taker" "I" ∈ wT := wT_mem (n := 206) (by decide +kernel) rfl
theorem twf_RX8_77 : Cond.fieldLink RX8 77 "ClockAuctions$Lot" "taker" "I" ∈ wT := wT_mem (n := 207) (by decide +kernel) rfl
theorem twf_RX8_82 : Cond.fieldLink RX8 82 "ClockAuctions$Lot" "cents" "J" ∈ wT := wT_mem (n := 208) (by decide +kernel) rfl
theorem twf_RX5_49 : Cond.fieldLink RX5 49 "ClockAuctions$Lot" "cents" "J" ∈ wT := wT_mem (n := 209) (by decide +kernel) rfl
theorem twf_RX8_246 : Cond.fieldLink RX8 246 "ClockAuctions$Lot" "offeredOn" "J" ∈ wT := wT_mem (n := 210) (by decide +kernel) rfl
theorem twf_RX8_126 : Cond.fieldLink RX8 126 "ClockAuctions$Lot" "soldByClock" "Z" ∈ wT := wT_mem (n := 211) (by decide +kernel) rfl
theorem twf_RX8_130 : Cond.fieldLink RX8 130 "ClockAuctions$Lot" "parted" "Z" ∈ wT := wT_mem (n := 212) (by decide +kernel) rfl
theorem twf_RX8_150 : Cond.fieldLink RX8 150 "ClockAuctions$Lot" "reopened" "Z" ∈ wT := wT_mem (n := 213) (by decide +kernel) rfl
theorem twf_RX5_46 : Cond.fieldLink RX5 46 "ClockAuctions$Lot" "tied" "I" ∈ wT := wT_mem (n := 214) (by decide +kernel) rfl
theorem twf_RX8_391 : Cond.fieldLink RX8 391 "ClockAuctions$Lot" "tied" "I" ∈ wT := wT_mem (n := 215) (by decide +kernel) rfl
theorem twm_RL_20 : Cond.methodLink RL 20 yX8_buyer ∈ wT := wT_mem (n := 241) (by decide +kernel) rfl
theorem twi_yX8_buyer : Cond.instanceMethod yX8_buyer ∈ wT := wT_mem (n := 242) (by decide +kernel) rfl
theorem tws_yX8_buyer : Cond.selects RX8 yX8_buyer yX8_buyer ∈ wT := wT_mem (n := 243) (by decide +kernel) rfl
theorem two_yX8_buyer : Cond.code yX8_buyer cX8_buyer 4 (some (FieldType.int)) ∈ wT := wT_mem (n := 244) (by decide +kernel) rfl
theorem twl_RX8_64 : Cond.constantLong RX8 64 (1000000000000) ∈ wT := wT_mem (n := 245) (by decide +kernel) rfl
theorem twt_RX1 : Cond.instantiable RX1 4 ∈ wT := wT_mem (n := 246) (by decide +kernel) rfl
theorem twm_RX8_66 : Cond.methodLink RX8 66 yX1_init ∈ wT := wT_mem (n := 247) (by decide +kernel) rfl
theorem twi_yX1_init : Cond.instanceMethod yX1_init ∈ wT := wT_mem (n := 248) (by decide +kernel) rfl
theorem two_yX1_init : Cond.code yX1_init cX1_init 4 none ∈ wT := wT_mem (n := 249) (by decide +kernel) rfl
theorem twm_RX1_3 : Cond.methodLink RX1 3 objectInit ∈ wT := wT_mem (n := 250) (by decide +kernel) rfl
theorem twl_RX1_19 : Cond.constantLong RX1 19 (-1) ∈ wT := wT_mem (n := 251) (by decide +kernel) rfl
theorem twf_RX1_9 : Cond.fieldLink RX1 9 "ClockAuctions$Buyer" "number" "I" ∈ wT := wT_mem (n := 252) (by decide +kernel) rfl
theorem twf_RX8_359 : Cond.fieldLink RX8 359 "ClockAuctions$Buyer" "number" "I" ∈ wT := wT_mem (n := 253) (by decide +kernel) rfl
theorem twf_RX1_15 : Cond.fieldLink RX1 15 "ClockAuctions$Buyer" "credit" "J" ∈ wT := wT_mem (n := 254) (by decide +kernel) rfl
theorem twf_RX8_93 : Cond.fieldLink RX8 93 "ClockAuctions$Buyer" "credit" "J" ∈ wT := wT_mem (n := 255) (by decide +kernel) rfl
theorem twf_RX8_185 : Cond.fieldLink RX8 185 "ClockAuctions$Buyer" "lateBy" "J" ∈ wT := wT_mem (n := 256) (by decide +kernel) rfl
theorem twf_RX1_21 : Cond.fieldLink RX1 21 "ClockAuctions$Buyer" "pressTime" "J" ∈ wT := wT_mem (n := 257) (by decide +kernel) rfl
theorem twf_RX8_205 : Cond.fieldLink RX8 205 "ClockAuctions$Buyer" "pressTime" "J" ∈ wT := wT_mem (n := 258) (by decide +kernel) rfl
theorem twm_RL_42 : Cond.methodLink RL 42 yX8_winner ∈ wT := wT_mem (n := 268) (by decide +kernel) rfl
theorem twi_yX8_winner : Cond.instanceMethod yX8_winner ∈ wT := wT_mem (n := 269) (by decide +kernel) rfl
theorem tws_yX8_winner : Cond.selects RX8 yX8_winner yX8_winner ∈ wT := wT_mem (n := 270) (by decide +kernel) rfl
theorem two_yX8_winner : Cond.code yX8_winner cX8_winner 3 (some (FieldType.int)) ∈ wT := wT_mem (n := 271) (by decide +kernel) rfl
theorem twm_RX8_69 : Cond.methodLink RX8 69 yX8_lotAt ∈ wT := wT_mem (n := 272) (by decide +kernel) rfl
theorem twi_yX8_lotAt : Cond.instanceMethod yX8_lotAt ∈ wT := wT_mem (n := 274) (by decide +kernel) rfl
theorem two_yX8_lotAt : Cond.code yX8_lotAt cX8_lotAt 2 (some ((FieldType.object "ClockAuctions$Lot"))) ∈ wT := wT_mem (n := 275) (by decide +kernel) rfl
theorem twm_RX8_73 : Cond.methodLink RX8 73 yX5_hasTaker ∈ wT := wT_mem (n := 276) (by decide +kernel) rfl
theorem twi_yX5_hasTaker : Cond.instanceMethod yX5_hasTaker ∈ wT := wT_mem (n := 277) (by decide +kernel) rfl
theorem tws_yX5_hasTaker : Cond.selects RX5 yX5_hasTaker yX5_hasTaker ∈ wT := wT_mem (n := 278) (by decide +kernel) rfl
theorem two_yX5_hasTaker : Cond.code yX5_hasTaker cX5_hasTaker 1 (some (FieldType.boolean)) ∈ wT := wT_mem (n := 279) (by decide +kernel) rfl
theorem twf_RX5_37 : Cond.fieldLink RX5 37 "ClockAuctions$State" "SOLD" "LClockAuctions$State;" ∈ wT := wT_mem (n := 280) (by decide +kernel) rfl
theorem twf_RX5_40 : Cond.fieldLink RX5 40 "ClockAuctions$State" "OFFERED" "LClockAuctions$State;" ∈ wT := wT_mem (n := 282) (by decide +kernel) rfl
theorem twm_RL_47 : Cond.methodLink RL 47 yX8_price ∈ wT := wT_mem (n := 284) (by decide +kernel) rfl
theorem twi_yX8_price : Cond.instanceMethod yX8_price ∈ wT := wT_mem (n := 285) (by decide +kernel) rfl
theorem tws_yX8_price : Cond.selects RX8 yX8_price yX8_price ∈ wT := wT_mem (n := 286) (by decide +kernel) rfl
theorem two_yX8_price : Cond.code yX8_price cX8_price 3 (some (FieldType.long)) ∈ wT := wT_mem (n := 287) (by decide +kernel) rfl
theorem twl_RX8_80 : Cond.constantLong RX8 80 (-1) ∈ wT := wT_mem (n := 288) (by decide +kernel) rfl
theorem twm_RL_57 : Cond.methodLink RL 57 yX8_left ∈ wT := wT_mem (n := 289) (by decide +kernel) rfl
theorem twi_yX8_left : Cond.instanceMethod yX8_left ∈ wT := wT_mem (n := 290) (by decide +kernel) rfl
theorem tws_yX8_left : Cond.selects RX8 yX8_left yX8_left ∈ wT := wT_mem (n := 291) (by decide +kernel) rfl
theorem two_yX8_left : Cond.code yX8_left cX8_left 3 (some (FieldType.long)) ∈ wT := wT_mem (n := 292) (by decide +kernel) rfl
theorem twm_RL_103 : Cond.methodLink RL 103 yX8_held ∈ wT := wT_mem (n := 293) (by decide +kernel) rfl
theorem twi_yX8_held : Cond.instanceMethod yX8_held ∈ wT := wT_mem (n := 294) (by decide +kernel) rfl
theorem tws_yX8_held : Cond.selects RX8 yX8_held yX8_held ∈ wT := wT_mem (n := 295) (by decide +kernel) rfl
theorem two_yX8_held : Cond.code yX8_held cX8_held 3 (some (FieldType.long)) ∈ wT := wT_mem (n := 296) (by decide +kernel) rfl
theorem twm_RX8_89 : Cond.methodLink RX8 89 yX8_buyerAt ∈ wT := wT_mem (n := 297) (by decide +kernel) rfl
theorem twi_yX8_buyerAt : Cond.instanceMethod yX8_buyerAt ∈ wT := wT_mem (n := 299) (by decide +kernel) rfl
theorem two_yX8_buyerAt : Cond.code yX8_buyerAt cX8_buyerAt 2 (some ((FieldType.object "ClockAuctions$Buyer"))) ∈ wT := wT_mem (n := 300) (by decide +kernel) rfl
theorem twm_RX8_96 : Cond.methodLink RX8 96 yX8_freeOf ∈ wT := wT_mem (n := 301) (by decide +kernel) rfl
theorem twi_yX8_freeOf : Cond.instanceMethod yX8_freeOf ∈ wT := wT_mem (n := 303) (by decide +kernel) rfl
theorem two_yX8_freeOf : Cond.code yX8_freeOf cX8_freeOf 6 (some (FieldType.long)) ∈ wT := wT_mem (n := 304) (by decide +kernel) rfl
theorem twm_RL_111 : Cond.methodLink RL 111 yX8_fee ∈ wT := wT_mem (n := 305) (by decide +kernel) rfl
theorem twi_yX8_fee : Cond.instanceMethod yX8_fee ∈ wT := wT_mem (n := 306) (by decide +kernel) rfl
theorem tws_yX8_fee : Cond.selects RX8 yX8_fee yX8_fee ∈ wT := wT_mem (n := 307) (by decide +kernel) rfl
theorem two_yX8_fee : Cond.code yX8_fee cX8_fee 3 (some (FieldType.long)) ∈ wT := wT_mem (n := 308) (by decide +kernel) rfl
theorem twf_RX8_104 : Cond.fieldLink RX8 104 "ClockAuctions$State" "SOLD" "LClockAuctions$State;" ∈ wT := wT_mem (n := 309) (by decide +kernel) rfl
theorem twl_RX8_109 : Cond.constantLong RX8 109 (49) ∈ wT := wT_mem (n := 310) (by decide +kernel) rfl
theorem twl_RX8_111 : Cond.constantLong RX8 111 (50) ∈ wT := wT_mem (n := 311) (by decide +kernel) rfl
theorem twl_RX8_113 : Cond.constantLong RX8 113 (30) ∈ wT := wT_mem (n := 312) (by decide +kernel) rfl
theorem twm_RL_124 : Cond.methodLink RL 124 yX8_order ∈ wT := wT_mem (n := 313) (by decide +kernel) rfl
theorem twi_yX8_order : Cond.instanceMethod yX8_order ∈ wT := wT_mem (n := 314) (by decide +kernel) rfl
theorem tws_yX8_order : Cond.selects RX8 yX8_order yX8_order ∈ wT := wT_mem (n := 315) (by decide +kernel) rfl
theorem two_yX8_order : Cond.code yX8_order cX8_order 5 (some (FieldType.int)) ∈ wT := wT_mem (n := 316) (by decide +kernel) rfl
theorem twm_RX8_118 : Cond.methodLink RX8 118 yX5_isOpenOf ∈ wT := wT_mem (n := 317) (by decide +kernel) rfl
theorem twi_yX5_isOpenOf : Cond.instanceMethod yX5_isOpenOf ∈ wT := wT_mem (n := 318) (by decide +kernel) rfl
theorem tws_yX5_isOpenOf : Cond.selects RX5 yX5_isOpenOf yX5_isOpenOf ∈ wT := wT_mem (n := 319) (by decide +kernel) rfl
theorem two_yX5_isOpenOf : Cond.code yX5_isOpenOf cX5_isOpenOf 2 (some (FieldType.boolean)) ∈ wT := wT_mem (n := 320) (by decide +kernel) rfl
theorem twm_RX8_122 : Cond.methodLink RX8 122 yX8_lotsAhead ∈ wT := wT_mem (n := 321) (by decide +kernel) rfl
theorem twi_yX8_lotsAhead : Cond.instanceMethod yX8_lotsAhead ∈ wT := wT_mem (n := 323) (by decide +kernel) rfl
theorem two_yX8_lotsAhead : Cond.code yX8_lotsAhead cX8_lotsAhead 5 (some (FieldType.int)) ∈ wT := wT_mem (n := 324) (by decide +kernel) rfl
theorem twm_RX8_362 : Cond.methodLink RX8 362 yX5_goesBefore ∈ wT := wT_mem (n := 325) (by decide +kernel) rfl
theorem twi_yX5_goesBefore : Cond.instanceMethod yX5_goesBefore ∈ wT := wT_mem (n := 326) (by decide +kernel) rfl
theorem tws_yX5_goesBefore : Cond.selects RX5 yX5_goesBefore yX5_goesBefore ∈ wT := wT_mem (n := 327) (by decide +kernel) rfl
theorem two_yX5_goesBefore : Cond.code yX5_goesBefore cX5_goesBefore 2 (some (FieldType.boolean)) ∈ wT := wT_mem (n := 328) (by decide +kernel) rfl
theorem twm_RL_52 : Cond.methodLink RL 52 yX8_part ∈ wT := wT_mem (n := 329) (by decide +kernel) rfl
theorem twi_yX8_part : Cond.instanceMethod yX8_part ∈ wT := wT_mem (n := 330) (by decide +kernel) rfl
theorem tws_yX8_part : Cond.selects RX8 yX8_part yX8_part ∈ wT := wT_mem (n := 331) (by decide +kernel) rfl
theorem two_yX8_part : Cond.code yX8_part cX8_part 7 (some (FieldType.int)) ∈ wT := wT_mem (n := 332) (by decide +kernel) rfl
theorem twm_RX8_133 : Cond.methodLink RX8 133 yX8_shareOf ∈ wT := wT_mem (n := 333) (by decide +kernel) rfl
theorem twi_yX8_shareOf : Cond.static yX8_shareOf ∈ wT := wT_mem (n := 334) (by decide +kernel) rfl
theorem two_yX8_shareOf : Cond.code yX8_shareOf cX8_shareOf 6 (some (FieldType.long)) ∈ wT := wT_mem (n := 335) (by decide +kernel) rfl
theorem twm_RX8_137 : Cond.methodLink RX8 137 yX2_add ∈ wT := wT_mem (n := 336) (by decide +kernel) rfl
theorem twi_yX2_add : Cond.instanceMethod yX2_add ∈ wT := wT_mem (n := 337) (by decide +kernel) rfl
theorem tws_yX2_add : Cond.selects RX2 yX2_add yX2_add ∈ wT := wT_mem (n := 338) (by decide +kernel) rfl
theorem two_yX2_add : Cond.code yX2_add cX2_add 6 none ∈ wT := wT_mem (n := 339) (by decide +kernel) rfl
theorem twm_RX2_24 : Cond.methodLink RX2 24 yX3_linkOf ∈ wT := wT_mem (n := 340) (by decide +kernel) rfl
theorem twi_yX3_linkOf : Cond.static yX3_linkOf ∈ wT := wT_mem (n := 341) (by decide +kernel) rfl
theorem two_yX3_linkOf : Cond.code yX3_linkOf cX3_linkOf 6 (some (FieldType.int)) ∈ wT := wT_mem (n := 342) (by decide +kernel) rfl
theorem twl_RX3_30 : Cond.constantLong RX3 30 (31) ∈ wT := wT_mem (n := 343) (by decide +kernel) rfl
theorem twl_RX3_32 : Cond.constantLong RX3 32 (7) ∈ wT := wT_mem (n := 344) (by decide +kernel) rfl
theorem twl_RX3_34 : Cond.constantLong RX3 34 (5) ∈ wT := wT_mem (n := 345) (by decide +kernel) rfl
theorem twl_RX3_36 : Cond.constantLong RX3 36 (3) ∈ wT := wT_mem (n := 346) (by decide +kernel) rfl
theorem twl_RX3_38 : Cond.constantLong RX3 38 (1000003) ∈ wT := wT_mem (n := 347) (by decide +kernel) rfl
theorem twt_RX3 : Cond.instantiable RX3 5 ∈ wT := wT_mem (n := 348) (by decide +kernel) rfl
theorem twm_RX2_28 : Cond.methodLink RX2 28 yX3_init ∈ wT := wT_mem (n := 349) (by decide +kernel) rfl
theorem twi_yX3_init : Cond.instanceMethod yX3_init ∈ wT := wT_mem (n := 350) (by decide +kernel) rfl
theorem two_yX3_init : Cond.code yX3_init cX3_init 7 none ∈ wT := wT_mem (n := 351) (by decide +kernel) rfl
theorem twm_RX3_1 : Cond.methodLink RX3 1 objectInit ∈ wT := wT_mem (n := 352) (by decide +kernel) rfl
theorem twf_RX3_7 : Cond.fieldLink RX3 7 "ClockAuctions$Entry" "sort" "I" ∈ wT := wT_mem (n := 353) (by decide +kernel) rfl
theorem twf_RX8_289 : Cond.fieldLink RX8 289 "ClockAuctions$Entry" "sort" "I" ∈ wT := wT_mem (n := 354) (by decide +kernel) rfl
theorem twf_RX3_13 : Cond.fieldLink RX3 13 "ClockAuctions$Entry" "lot" "I" ∈ wT := wT_mem (n := 355) (by decide +kernel) rfl
theorem twf_RX8_294 : Cond.fieldLink RX8 294 "ClockAuctions$Entry" "lot" "I" ∈ wT := wT_mem (n := 356) (by decide +kernel) rfl
theorem twf_RX3_16 : Cond.fieldLink RX3 16 "ClockAuctions$Entry" "buyer" "I" ∈ wT := wT_mem (n := 357) (by decide +kernel) rfl
theorem twf_RX8_296 : Cond.fieldLink RX8 296 "ClockAuctions$Entry" "buyer" "I" ∈ wT := wT_mem (n := 358) (by decide +kernel) rfl
theorem twf_RX3_19 : Cond.fieldLink RX3 19 "ClockAuctions$Entry" "cents" "J" ∈ wT := wT_mem (n := 359) (by decide +kernel) rfl
theorem twf_RX8_299 : Cond.fieldLink RX8 299 "ClockAuctions$Entry" "cents" "J" ∈ wT := wT_mem (n := 360) (by decide +kernel) rfl
theorem twf_RX3_23 : Cond.fieldLink RX3 23 "ClockAuctions$Entry" "link" "I" ∈ wT := wT_mem (n := 361) (by decide +kernel) rfl
theorem twf_RX2_35 : Cond.fieldLink RX2 35 "ClockAuctions$Entry" "link" "I" ∈ wT := wT_mem (n := 362) (by decide +kernel) rfl
theorem twf_RX8_300 : Cond.fieldLink RX8 300 "ClockAuctions$Entry" "link" "I" ∈ wT := wT_mem (n := 363) (by decide +kernel) rfl
theorem twm_RL_107 : Cond.methodLink RL 107 yX8_again ∈ wT := wT_mem (n := 375) (by decide +kernel) rfl
theorem twi_yX8_again : Cond.instanceMethod yX8_again ∈ wT := wT_mem (n := 376) (by decide +kernel) rfl
theorem tws_yX8_again : Cond.selects RX8 yX8_again yX8_again ∈ wT := wT_mem (n := 377) (by decide +kernel) rfl
theorem two_yX8_again : Cond.code yX8_again cX8_again 3 (some (FieldType.int)) ∈ wT := wT_mem (n := 378) (by decide +kernel) rfl
theorem twf_RX8_147 : Cond.fieldLink RX8 147 "ClockAuctions$State" "UNSOLD" "LClockAuctions$State;" ∈ wT := wT_mem (n := 379) (by decide +kernel) rfl
theorem twl_RX8_153 : Cond.constantLong RX8 153 (10) ∈ wT := wT_mem (n := 381) (by decide +kernel) rfl
theorem twf_RX8_155 : Cond.fieldLink RX8 155 "ClockAuctions$State" "OPEN" "LClockAuctions$State;" ∈ wT := wT_mem (n := 382) (by decide +kernel) rfl
theorem twm_RL_128 : Cond.methodLink RL 128 yX8_back ∈ wT := wT_mem (n := 383) (by decide +kernel) rfl
theorem twi_yX8_back : Cond.instanceMethod yX8_back ∈ wT := wT_mem (n := 384) (by decide +kernel) rfl
theorem tws_yX8_back : Cond.selects RX8 yX8_back yX8_back ∈ wT := wT_mem (n := 385) (by decide +kernel) rfl
theorem two_yX8_back : Cond.code yX8_back cX8_back 3 (some (FieldType.int)) ∈ wT := wT_mem (n := 386) (by decide +kernel) rfl
theorem twm_RX8_158 : Cond.methodLink RX8 158 yX5_canGoBack ∈ wT := wT_mem (n := 387) (by decide +kernel) rfl
theorem twi_yX5_canGoBack : Cond.instanceMethod yX5_canGoBack ∈ wT := wT_mem (n := 388) (by decide +kernel) rfl
theorem tws_yX5_canGoBack : Cond.selects RX5 yX5_canGoBack yX5_canGoBack ∈ wT := wT_mem (n := 389) (by decide +kernel) rfl
theorem two_yX5_canGoBack : Cond.code yX5_canGoBack cX5_canGoBack 1 (some (FieldType.boolean)) ∈ wT := wT_mem (n := 390) (by decide +kernel) rfl
theorem twf_RX5_43 : Cond.fieldLink RX5 43 "ClockAuctions$State" "UNSOLD" "LClockAuctions$State;" ∈ wT := wT_mem (n := 391) (by decide +kernel) rfl
theorem twf_RX8_161 : Cond.fieldLink RX8 161 "ClockAuctions$State" "BACK" "LClockAuctions$State;" ∈ wT := wT_mem (n := 392) (by decide +kernel) rfl
theorem twm_RL_25 : Cond.methodLink RL 25 yX8_start ∈ wT := wT_mem (n := 394) (by decide +kernel) rfl
theorem twi_yX8_start : Cond.instanceMethod yX8_start ∈ wT := wT_mem (n := 395) (by decide +kernel) rfl
theorem tws_yX8_start : Cond.selects RX8 yX8_start yX8_start ∈ wT := wT_mem (n := 396) (by decide +kernel) rfl
theorem two_yX8_start : Cond.code yX8_start cX8_start 9 (some (FieldType.int)) ∈ wT := wT_mem (n := 397) (by decide +kernel) rfl
theorem twl_RX8_168 : Cond.constantLong RX8 168 (1000000) ∈ wT := wT_mem (n := 398) (by decide +kernel) rfl
theorem twm_RX8_170 : Cond.methodLink RX8 170 yX4_endOf ∈ wT := wT_mem (n := 399) (by decide +kernel) rfl
theorem twi_yX4_endOf : Cond.static yX4_endOf ∈ wT := wT_mem (n := 400) (by decide +kernel) rfl
theorem two_yX4_endOf : Cond.code yX4_endOf cX4_endOf 4 (some (FieldType.long)) ∈ wT := wT_mem (n := 401) (by decide +kernel) rfl
theorem twl_RX4_7 : Cond.constantLong RX4 7 (100) ∈ wT := wT_mem (n := 402) (by decide +kernel) rfl
theorem twl_RX8_174 : Cond.constantLong RX8 174 (10000000) ∈ wT := wT_mem (n := 403) (by decide +kernel) rfl
theorem twm_RX8_176 : Cond.methodLink RX8 176 yX4_begin ∈ wT := wT_mem (n := 404) (by decide +kernel) rfl
theorem twi_yX4_begin : Cond.instanceMethod yX4_begin ∈ wT := wT_mem (n := 405) (by decide +kernel) rfl
theorem tws_yX4_begin : Cond.selects RX4 yX4_begin yX4_begin ∈ wT := wT_mem (n := 406) (by decide +kernel) rfl
theorem two_yX4_begin : Cond.code yX4_begin cX4_begin 8 none ∈ wT := wT_mem (n := 407) (by decide +kernel) rfl
theorem twf_RX8_180 : Cond.fieldLink RX8 180 "ClockAuctions$State" "ON" "LClockAuctions$State;" ∈ wT := wT_mem (n := 408) (by decide +kernel) rfl
theorem twm_RL_34 : Cond.methodLink RL 34 yX8_delay ∈ wT := wT_mem (n := 410) (by decide +kernel) rfl
theorem twi_yX8_delay : Cond.instanceMethod yX8_delay ∈ wT := wT_mem (n := 411) (by decide +kernel) rfl
theorem tws_yX8_delay : Cond.selects RX8 yX8_delay yX8_delay ∈ wT := wT_mem (n := 412) (by decide +kernel) rfl
theorem two_yX8_delay : Cond.code yX8_delay cX8_delay 5 (some (FieldType.boolean)) ∈ wT := wT_mem (n := 413) (by decide +kernel) rfl
theorem twl_RX8_183 : Cond.constantLong RX8 183 (5000) ∈ wT := wT_mem (n := 414) (by decide +kernel) rfl
theorem twm_RL_29 : Cond.methodLink RL 29 yX8_press ∈ wT := wT_mem (n := 415) (by decide +kernel) rfl
theorem twi_yX8_press : Cond.instanceMethod yX8_press ∈ wT := wT_mem (n := 416) (by decide +kernel) rfl
theorem tws_yX8_press : Cond.selects RX8 yX8_press yX8_press ∈ wT := wT_mem (n := 417) (by decide +kernel) rfl
theorem two_yX8_press : Cond.code yX8_press cX8_press 7 (some (FieldType.boolean)) ∈ wT := wT_mem (n := 418) (by decide +kernel) rfl
theorem twl_RX8_191 : Cond.constantLong RX8 191 (20000000) ∈ wT := wT_mem (n := 419) (by decide +kernel) rfl
theorem twm_RX8_193 : Cond.methodLink RX8 193 yJ9_max_f86c9 ∈ wT := wT_mem (n := 420) (by decide +kernel) rfl
theorem twi_yJ9_max_f86c9 : Cond.static yJ9_max_f86c9 ∈ wT := wT_mem (n := 421) (by decide +kernel) rfl
theorem two_yJ9_max_f86c9 : Cond.code yJ9_max_f86c9 cJ9_max_f86c9 4 (some (FieldType.long)) ∈ wT := wT_mem (n := 422) (by decide +kernel) rfl
theorem twm_RX8_201 : Cond.methodLink RX8 201 yX1_hasPressUpTo ∈ wT := wT_mem (n := 423) (by decide +kernel) rfl
theorem twi_yX1_hasPressUpTo : Cond.instanceMethod yX1_hasPressUpTo ∈ wT := wT_mem (n := 424) (by decide +kernel) rfl
theorem tws_yX1_hasPressUpTo : Cond.selects RX1 yX1_hasPressUpTo yX1_hasPressUpTo ∈ wT := wT_mem (n := 425) (by decide +kernel) rfl
theorem two_yX1_hasPressUpTo : Cond.code yX1_hasPressUpTo cX1_hasPressUpTo 3 (some (FieldType.boolean)) ∈ wT := wT_mem (n := 426) (by decide +kernel) rfl
theorem twm_RL_38 : Cond.methodLink RL 38 yX8_tick ∈ wT := wT_mem (n := 427) (by decide +kernel) rfl
theorem twi_yX8_tick : Cond.instanceMethod yX8_tick ∈ wT := wT_mem (n := 428) (by decide +kernel) rfl
theorem tws_yX8_tick : Cond.selects RX8 yX8_tick yX8_tick ∈ wT := wT_mem (n := 429) (by decide +kernel) rfl
theorem two_yX8_tick : Cond.code yX8_tick cX8_tick 4 (some (FieldType.int)) ∈ wT := wT_mem (n := 430) (by decide +kernel) rfl
theorem twm_RX8_211 : Cond.methodLink RX8 211 yX8_runClock ∈ wT := wT_mem (n := 431) (by decide +kernel) rfl
theorem twi_yX8_runClock : Cond.instanceMethod yX8_runClock ∈ wT := wT_mem (n := 433) (by decide +kernel) rfl
theorem two_yX8_runClock : Cond.code yX8_runClock cX8_runClock 5 (some (FieldType.int)) ∈ wT := wT_mem (n := 434) (by decide +kernel) rfl
theorem twm_RX8_366 : Cond.methodLink RX8 366 yX4_goOn ∈ wT := wT_mem (n := 435) (by decide +kernel) rfl
theorem twi_yX4_goOn : Cond.instanceMethod yX4_goOn ∈ wT := wT_mem (n := 436) (by decide +kernel) rfl
theorem tws_yX4_goOn : Cond.selects RX4 yX4_goOn yX4_goOn ∈ wT := wT_mem (n := 437) (by decide +kernel) rfl
theorem two_yX4_goOn : Cond.code yX4_goOn cX4_goOn 3 none ∈ wT := wT_mem (n := 438) (by decide +kernel) rfl
theorem twm_RX4_32 : Cond.methodLink RX4 32 yJ9_min_f86c9 ∈ wT := wT_mem (n := 439) (by decide +kernel) rfl
theorem twi_yJ9_min_f86c9 : Cond.static yJ9_min_f86c9 ∈ wT := wT_mem (n := 440) (by decide +kernel) rfl
theorem two_yJ9_min_f86c9 : Cond.code yJ9_min_f86c9 cJ9_min_f86c9 4 (some (FieldType.long)) ∈ wT := wT_mem (n := 441) (by decide +kernel) rfl
theorem twm_RX8_369 : Cond.methodLink RX8 369 yX8_dropPressesThatCannotPay ∈ wT := wT_mem (n := 442) (by decide +kernel) rfl
theorem twi_yX8_dropPressesThatCannotPay : Cond.instanceMethod yX8_dropPressesThatCannotPay ∈ wT := wT_mem (n := 444) (by decide +kernel) rfl
theorem two_yX8_dropPressesThatCannotPay : Cond.code yX8_dropPressesThatCannotPay cX8_dropPressesThatCannotPay 3 none ∈ wT := wT_mem (n := 445) (by decide +kernel) rfl
theorem twm_RX8_228 : Cond.methodLink RX8 228 yX4_priceAt ∈ wT := wT_mem (n := 446) (by decide +kernel) rfl
theorem twi_yX4_priceAt : Cond.instanceMethod yX4_priceAt ∈ wT := wT_mem (n := 447) (by decide +kernel) rfl
theorem tws_yX4_priceAt : Cond.selects RX4 yX4_priceAt yX4_priceAt ∈ wT := wT_mem (n := 448) (by decide +kernel) rfl
theorem two_yX4_priceAt : Cond.code yX4_priceAt cX4_priceAt 3 (some (FieldType.long)) ∈ wT := wT_mem (n := 449) (by decide +kernel) rfl
theorem twm_RX8_384 : Cond.methodLink RX8 384 yX1_dropPress ∈ wT := wT_mem (n := 450) (by decide +kernel) rfl
theorem twi_yX1_dropPress : Cond.instanceMethod yX1_dropPress ∈ wT := wT_mem (n := 451) (by decide +kernel) rfl
theorem tws_yX1_dropPress : Cond.selects RX1 yX1_dropPress yX1_dropPress ∈ wT := wT_mem (n := 452) (by decide +kernel) rfl
theorem two_yX1_dropPress : Cond.code yX1_dropPress cX1_dropPress 1 none ∈ wT := wT_mem (n := 453) (by decide +kernel) rfl
theorem twm_RX8_372 : Cond.methodLink RX8 372 yX8_firstDuePress ∈ wT := wT_mem (n := 454) (by decide +kernel) rfl
theorem twi_yX8_firstDuePress : Cond.instanceMethod yX8_firstDuePress ∈ wT := wT_mem (n := 456) (by decide +kernel) rfl
theorem two_yX8_firstDuePress : Cond.code yX8_firstDuePress cX8_firstDuePress 4 (some ((FieldType.object "ClockAuctions$Buyer"))) ∈ wT := wT_mem (n := 457) (by decide +kernel) rfl
theorem twm_RX8_376 : Cond.methodLink RX8 376 yX8_sellByClock ∈ wT := wT_mem (n := 458) (by decide +kernel) rfl
theorem twi_yX8_sellByClock : Cond.instanceMethod yX8_sellByClock ∈ wT := wT_mem (n := 460) (by decide +kernel) rfl
theorem two_yX8_sellByClock : Cond.code yX8_sellByClock cX8_sellByClock 3 none ∈ wT := wT_mem (n := 461) (by decide +kernel) rfl
theorem twm_RX8_387 : Cond.methodLink RX8 387 yX8_pressesTiedWith ∈ wT := wT_mem (n := 462) (by decide +kernel) rfl
theorem twi_yX8_pressesTiedWith : Cond.instanceMethod yX8_pressesTiedWith ∈ wT := wT_mem (n := 464) (by decide +kernel) rfl
theorem two_yX8_pressesTiedWith : Cond.code yX8_pressesTiedWith cX8_pressesTiedWith 5 (some (FieldType.int)) ∈ wT := wT_mem (n := 465) (by decide +kernel) rfl
theorem twm_RX8_394 : Cond.methodLink RX8 394 yX5_sellTo ∈ wT := wT_mem (n := 466) (by decide +kernel) rfl
theorem twi_yX5_sellTo : Cond.instanceMethod yX5_sellTo ∈ wT := wT_mem (n := 467) (by decide +kernel) rfl
theorem tws_yX5_sellTo : Cond.selects RX5 yX5_sellTo yX5_sellTo ∈ wT := wT_mem (n := 468) (by decide +kernel) rfl
theorem two_yX5_sellTo : Cond.code yX5_sellTo cX5_sellTo 4 none ∈ wT := wT_mem (n := 469) (by decide +kernel) rfl
theorem twm_RX8_380 : Cond.methodLink RX8 380 yX8_stopClock ∈ wT := wT_mem (n := 470) (by decide +kernel) rfl
theorem twi_yX8_stopClock : Cond.instanceMethod yX8_stopClock ∈ wT := wT_mem (n := 472) (by decide +kernel) rfl
theorem two_yX8_stopClock : Cond.code yX8_stopClock cX8_stopClock 1 none ∈ wT := wT_mem (n := 473) (by decide +kernel) rfl
theorem twm_RX8_225 : Cond.methodLink RX8 225 yX8_dropPressesFrom ∈ wT := wT_mem (n := 474) (by decide +kernel) rfl
theorem twi_yX8_dropPressesFrom : Cond.instanceMethod yX8_dropPressesFrom ∈ wT := wT_mem (n := 476) (by decide +kernel) rfl
theorem two_yX8_dropPressesFrom : Cond.code yX8_dropPressesFrom cX8_dropPressesFrom 5 none ∈ wT := wT_mem (n := 477) (by decide +kernel) rfl
theorem twm_RX8_215 : Cond.methodLink RX8 215 yX8_sellRipeOffers ∈ wT := wT_mem (n := 478) (by decide +kernel) rfl
theorem twi_yX8_sellRipeOffers : Cond.instanceMethod yX8_sellRipeOffers ∈ wT := wT_mem (n := 480) (by decide +kernel) rfl
theorem two_yX8_sellRipeOffers : Cond.code yX8_sellRipeOffers cX8_sellRipeOffers 3 none ∈ wT := wT_mem (n := 481) (by decide +kernel) rfl
theorem twf_RX8_235 : Cond.fieldLink RX8 235 "ClockAuctions$State" "OFFERED" "LClockAuctions$State;" ∈ wT := wT_mem (n := 482) (by decide +kernel) rfl
theorem twl_RX8_397 : Cond.constantLong RX8 397 (10000) ∈ wT := wT_mem (n := 483) (by decide +kernel) rfl
theorem twm_RL_61 : Cond.methodLink RL 61 yX8_outage ∈ wT := wT_mem (n := 484) (by decide +kernel) rfl
theorem twi_yX8_outage : Cond.instanceMethod yX8_outage ∈ wT := wT_mem (n := 485) (by decide +kernel) rfl
theorem tws_yX8_outage : Cond.selects RX8 yX8_outage yX8_outage ∈ wT := wT_mem (n := 486) (by decide +kernel) rfl
theorem two_yX8_outage : Cond.code yX8_outage cX8_outage 4 (some (FieldType.boolean)) ∈ wT := wT_mem (n := 487) (by decide +kernel) rfl
theorem twm_RX8_221 : Cond.methodLink RX8 221 yX4_goBackTo ∈ wT := wT_mem (n := 488) (by decide +kernel) rfl
theorem twi_yX4_goBackTo : Cond.instanceMethod yX4_goBackTo ∈ wT := wT_mem (n := 489) (by decide +kernel) rfl
theorem tws_yX4_goBackTo : Cond.selects RX4 yX4_goBackTo yX4_goBackTo ∈ wT := wT_mem (n := 490) (by decide +kernel) rfl
theorem two_yX4_goBackTo : Cond.code yX4_goBackTo cX4_goBackTo 3 none ∈ wT := wT_mem (n := 491) (by decide +kernel) rfl
theorem twm_RL_66 : Cond.methodLink RL 66 yX8_clock ∈ wT := wT_mem (n := 492) (by decide +kernel) rfl
theorem twi_yX8_clock : Cond.instanceMethod yX8_clock ∈ wT := wT_mem (n := 493) (by decide +kernel) rfl
theorem tws_yX8_clock : Cond.selects RX8 yX8_clock yX8_clock ∈ wT := wT_mem (n := 494) (by decide +kernel) rfl
theorem two_yX8_clock : Cond.code yX8_clock cX8_clock 1 (some (FieldType.long)) ∈ wT := wT_mem (n := 495) (by decide +kernel) rfl
theorem twm_RL_137 : Cond.methodLink RL 137 yX8_tie ∈ wT := wT_mem (n := 496) (by decide +kernel) rfl
theorem twi_yX8_tie : Cond.instanceMethod yX8_tie ∈ wT := wT_mem (n := 497) (by decide +kernel) rfl
theorem tws_yX8_tie : Cond.selects RX8 yX8_tie yX8_tie ∈ wT := wT_mem (n := 498) (by decide +kernel) rfl
theorem two_yX8_tie : Cond.code yX8_tie cX8_tie 6 (some (FieldType.int)) ∈ wT := wT_mem (n := 499) (by decide +kernel) rfl
theorem twm_RX8_232 : Cond.methodLink RX8 232 yX5_isTiedWith ∈ wT := wT_mem (n := 500) (by decide +kernel) rfl
theorem twi_yX5_isTiedWith : Cond.instanceMethod yX5_isTiedWith ∈ wT := wT_mem (n := 501) (by decide +kernel) rfl
theorem tws_yX5_isTiedWith : Cond.selects RX5 yX5_isTiedWith yX5_isTiedWith ∈ wT := wT_mem (n := 502) (by decide +kernel) rfl
theorem two_yX5_isTiedWith : Cond.code yX5_isTiedWith cX5_isTiedWith 2 (some (FieldType.boolean)) ∈ wT := wT_mem (n := 503) (by decide +kernel) rfl
theorem twm_RL_71 : Cond.methodLink RL 71 yX8_rise ∈ wT := wT_mem (n := 504) (by decide +kernel) rfl
theorem twi_yX8_rise : Cond.instanceMethod yX8_rise ∈ wT := wT_mem (n := 505) (by decide +kernel) rfl
theorem tws_yX8_rise : Cond.selects RX8 yX8_rise yX8_rise ∈ wT := wT_mem (n := 506) (by decide +kernel) rfl
theorem two_yX8_rise : Cond.code yX8_rise cX8_rise 7 (some (FieldType.int)) ∈ wT := wT_mem (n := 507) (by decide +kernel) rfl
theorem twm_RX8_238 : Cond.methodLink RX8 238 yX5_leastOffer ∈ wT := wT_mem (n := 508) (by decide +kernel) rfl
theorem twi_yX5_leastOffer : Cond.instanceMethod yX5_leastOffer ∈ wT := wT_mem (n := 509) (by decide +kernel) rfl
theorem tws_yX5_leastOffer : Cond.selects RX5 yX5_leastOffer yX5_leastOffer ∈ wT := wT_mem (n := 510) (by decide +kernel) rfl
theorem two_yX5_leastOffer : Cond.code yX5_leastOffer cX5_leastOffer 1 (some (FieldType.long)) ∈ wT := wT_mem (n := 511) (by decide +kernel) rfl
theorem twl_RX5_52 : Cond.constantLong RX5 52 (20) ∈ wT := wT_mem (n := 512) (by decide +kernel) rfl
theorem twm_RX5_54 : Cond.methodLink RX5 54 yJ9_max_f86c9 ∈ wT := wT_mem (n := 513) (by decide +kernel) rfl
theorem twm_RX8_242 : Cond.methodLink RX8 242 yX5_offerOf ∈ wT := wT_mem (n := 514) (by decide +kernel) rfl
theorem twi_yX5_offerOf : Cond.instanceMethod yX5_offerOf ∈ wT := wT_mem (n := 515) (by decide +kernel) rfl
theorem tws_yX5_offerOf : Cond.selects RX5 yX5_offerOf yX5_offerOf ∈ wT := wT_mem (n := 516) (by decide +kernel) rfl
theorem two_yX5_offerOf : Cond.code yX5_offerOf cX5_offerOf 2 (some (FieldType.long)) ∈ wT := wT_mem (n := 517) (by decide +kernel) rfl
theorem twm_RL_76 : Cond.methodLink RL 76 yX8_bid ∈ wT := wT_mem (n := 518) (by decide +kernel) rfl
theorem twi_yX8_bid : Cond.instanceMethod yX8_bid ∈ wT := wT_mem (n := 519) (by decide +kernel) rfl
theorem tws_yX8_bid : Cond.selects RX8 yX8_bid yX8_bid ∈ wT := wT_mem (n := 520) (by decide +kernel) rfl
theorem two_yX8_bid : Cond.code yX8_bid cX8_bid 5 (some (FieldType.int)) ∈ wT := wT_mem (n := 521) (by decide +kernel) rfl
theorem twt_RX0 : Cond.instantiable RX0 4 ∈ wT := wT_mem (n := 522) (by decide +kernel) rfl
theorem twm_RX8_252 : Cond.methodLink RX8 252 yX0_init ∈ wT := wT_mem (n := 523) (by decide +kernel) rfl
theorem twi_yX0_init : Cond.instanceMethod yX0_init ∈ wT := wT_mem (n := 524) (by decide +kernel) rfl
theorem two_yX0_init : Cond.code yX0_init cX0_init 5 none ∈ wT := wT_mem (n := 525) (by decide +kernel) rfl
theorem twm_RX0_3 : Cond.methodLink RX0 3 objectInit ∈ wT := wT_mem (n := 526) (by decide +kernel) rfl
theorem twf_RX0_9 : Cond.fieldLink RX0 9 "ClockAuctions$Bid" "number" "I" ∈ wT := wT_mem (n := 527) (by decide +kernel) rfl
theorem twf_RX6_73 : Cond.fieldLink RX6 73 "ClockAuctions$Bid" "number" "I" ∈ wT := wT_mem (n := 528) (by decide +kernel) rfl
theorem twf_RX0_15 : Cond.fieldLink RX0 15 "ClockAuctions$Bid" "buyer" "I" ∈ wT := wT_mem (n := 529) (by decide +kernel) rfl
theorem twf_RX6_66 : Cond.fieldLink RX6 66 "ClockAuctions$Bid" "buyer" "I" ∈ wT := wT_mem (n := 530) (by decide +kernel) rfl
theorem twf_RX8_418 : Cond.fieldLink RX8 418 "ClockAuctions$Bid" "buyer" "I" ∈ wT := wT_mem (n := 531) (by decide +kernel) rfl
theorem twf_RX0_18 : Cond.fieldLink RX0 18 "ClockAuctions$Bid" "cents" "J" ∈ wT := wT_mem (n := 532) (by decide +kernel) rfl
theorem twf_RX6_48 : Cond.fieldLink RX6 48 "ClockAuctions$Bid" "cents" "J" ∈ wT := wT_mem (n := 533) (by decide +kernel) rfl
theorem twf_RX8_417 : Cond.fieldLink RX8 417 "ClockAuctions$Bid" "cents" "J" ∈ wT := wT_mem (n := 534) (by decide +kernel) rfl
theorem twf_RX0_22 : Cond.fieldLink RX0 22 "ClockAuctions$Bid" "lotSet" "J" ∈ wT := wT_mem (n := 535) (by decide +kernel) rfl
theorem twf_RX6_63 : Cond.fieldLink RX6 63 "ClockAuctions$Bid" "lotSet" "J" ∈ wT := wT_mem (n := 536) (by decide +kernel) rfl
theorem twf_RX8_414 : Cond.fieldLink RX8 414 "ClockAuctions$Bid" "lotSet" "J" ∈ wT := wT_mem (n := 537) (by decide +kernel) rfl
theorem twm_RL_80 : Cond.methodLink RL 80 yX8_on ∈ wT := wT_mem (n := 547) (by decide +kernel) rfl
theorem twi_yX8_on : Cond.instanceMethod yX8_on ∈ wT := wT_mem (n := 548) (by decide +kernel) rfl
theorem tws_yX8_on : Cond.selects RX8 yX8_on yX8_on ∈ wT := wT_mem (n := 549) (by decide +kernel) rfl
theorem two_yX8_on : Cond.code yX8_on cX8_on 5 (some (FieldType.boolean)) ∈ wT := wT_mem (n := 550) (by decide +kernel) rfl
theorem twm_RX8_255 : Cond.methodLink RX8 255 yX8_bidAt ∈ wT := wT_mem (n := 551) (by decide +kernel) rfl
theorem twi_yX8_bidAt : Cond.instanceMethod yX8_bidAt ∈ wT := wT_mem (n := 553) (by decide +kernel) rfl
theorem two_yX8_bidAt : Cond.code yX8_bidAt cX8_bidAt 2 (some ((FieldType.object "ClockAuctions$Bid"))) ∈ wT := wT_mem (n := 554) (by decide +kernel) rfl
theorem twm_RX8_259 : Cond.methodLink RX8 259 yX0_isFor ∈ wT := wT_mem (n := 555) (by decide +kernel) rfl
theorem twi_yX0_isFor : Cond.instanceMethod yX0_isFor ∈ wT := wT_mem (n := 556) (by decide +kernel) rfl
theorem tws_yX0_isFor : Cond.selects RX0 yX0_isFor yX0_isFor ∈ wT := wT_mem (n := 557) (by decide +kernel) rfl
theorem two_yX0_isFor : Cond.code yX0_isFor cX0_isFor 2 (some (FieldType.boolean)) ∈ wT := wT_mem (n := 558) (by decide +kernel) rfl
theorem twm_RX8_262 : Cond.methodLink RX8 262 yX0_addLot ∈ wT := wT_mem (n := 559) (by decide +kernel) rfl
theorem twi_yX0_addLot : Cond.instanceMethod yX0_addLot ∈ wT := wT_mem (n := 560) (by decide +kernel) rfl
theorem tws_yX0_addLot : Cond.selects RX0 yX0_addLot yX0_addLot ∈ wT := wT_mem (n := 561) (by decide +kernel) rfl
theorem two_yX0_addLot : Cond.code yX0_addLot cX0_addLot 2 none ∈ wT := wT_mem (n := 562) (by decide +kernel) rfl
theorem twm_RL_85 : Cond.methodLink RL 85 yX8_sets ∈ wT := wT_mem (n := 563) (by decide +kernel) rfl
theorem twi_yX8_sets : Cond.instanceMethod yX8_sets ∈ wT := wT_mem (n := 564) (by decide +kernel) rfl
theorem tws_yX8_sets : Cond.selects RX8 yX8_sets yX8_sets ∈ wT := wT_mem (n := 565) (by decide +kernel) rfl
theorem two_yX8_sets : Cond.code yX8_sets cX8_sets 5 (some (FieldType.int)) ∈ wT := wT_mem (n := 566) (by decide +kernel) rfl
theorem twm_RX8_268 : Cond.methodLink RX8 268 yX8_findWinners ∈ wT := wT_mem (n := 567) (by decide +kernel) rfl
theorem twi_yX8_findWinners : Cond.instanceMethod yX8_findWinners ∈ wT := wT_mem (n := 569) (by decide +kernel) rfl
theorem two_yX8_findWinners : Cond.code yX8_findWinners cX8_findWinners 3 none ∈ wT := wT_mem (n := 570) (by decide +kernel) rfl
theorem twm_RX8_399 : Cond.methodLink RX8 399 yX6_clear ∈ wT := wT_mem (n := 571) (by decide +kernel) rfl
theorem twi_yX6_clear : Cond.instanceMethod yX6_clear ∈ wT := wT_mem (n := 572) (by decide +kernel) rfl
theorem tws_yX6_clear : Cond.selects RX6 yX6_clear yX6_clear ∈ wT := wT_mem (n := 573) (by decide +kernel) rfl
theorem two_yX6_clear : Cond.code yX6_clear cX6_clear 1 none ∈ wT := wT_mem (n := 574) (by decide +kernel) rfl
theorem twm_RX8_402 : Cond.methodLink RX8 402 yX6_setPurse ∈ wT := wT_mem (n := 575) (by decide +kernel) rfl
theorem twi_yX6_setPurse : Cond.instanceMethod yX6_setPurse ∈ wT := wT_mem (n := 576) (by decide +kernel) rfl
theorem tws_yX6_setPurse : Cond.selects RX6 yX6_setPurse yX6_setPurse ∈ wT := wT_mem (n := 577) (by decide +kernel) rfl
theorem two_yX6_setPurse : Cond.code yX6_setPurse cX6_setPurse 4 none ∈ wT := wT_mem (n := 578) (by decide +kernel) rfl
theorem twm_RX8_405 : Cond.methodLink RX8 405 yX8_isGood ∈ wT := wT_mem (n := 579) (by decide +kernel) rfl
theorem twi_yX8_isGood : Cond.instanceMethod yX8_isGood ∈ wT := wT_mem (n := 581) (by decide +kernel) rfl
theorem two_yX8_isGood : Cond.code yX8_isGood cX8_isGood 6 (some (FieldType.boolean)) ∈ wT := wT_mem (n := 582) (by decide +kernel) rfl
theorem twm_RX8_409 : Cond.methodLink RX8 409 yX6_add ∈ wT := wT_mem (n := 583) (by decide +kernel) rfl
theorem twi_yX6_add : Cond.instanceMethod yX6_add ∈ wT := wT_mem (n := 584) (by decide +kernel) rfl
theorem tws_yX6_add : Cond.selects RX6 yX6_add yX6_add ∈ wT := wT_mem (n := 585) (by decide +kernel) rfl
theorem two_yX6_add : Cond.code yX6_add cX6_add 2 none ∈ wT := wT_mem (n := 586) (by decide +kernel) rfl
theorem twm_RX8_411 : Cond.methodLink RX8 411 yX6_find ∈ wT := wT_mem (n := 587) (by decide +kernel) rfl
theorem twi_yX6_find : Cond.instanceMethod yX6_find ∈ wT := wT_mem (n := 588) (by decide +kernel) rfl
theorem tws_yX6_find : Cond.selects RX6 yX6_find yX6_find ∈ wT := wT_mem (n := 589) (by decide +kernel) rfl
theorem two_yX6_find : Cond.code yX6_find cX6_find 1 none ∈ wT := wT_mem (n := 590) (by decide +kernel) rfl
theorem twm_RX6_41 : Cond.methodLink RX6 41 yX6_addUpRests ∈ wT := wT_mem (n := 591) (by decide +kernel) rfl
theorem twi_yX6_addUpRests : Cond.instanceMethod yX6_addUpRests ∈ wT := wT_mem (n := 593) (by decide +kernel) rfl
theorem two_yX6_addUpRests : Cond.code yX6_addUpRests cX6_addUpRests 4 none ∈ wT := wT_mem (n := 594) (by decide +kernel) rfl
theorem twm_RX6_44 : Cond.methodLink RX6 44 yX6_tryFrom ∈ wT := wT_mem (n := 595) (by decide +kernel) rfl
theorem twi_yX6_tryFrom : Cond.static yX6_tryFrom ∈ wT := wT_mem (n := 596) (by decide +kernel) rfl
theorem two_yX6_tryFrom : Cond.code yX6_tryFrom cX6_tryFrom 8 none ∈ wT := wT_mem (n := 597) (by decide +kernel) rfl
theorem twm_RX6_51 : Cond.methodLink RX6 51 yX6_isBetter ∈ wT := wT_mem (n := 598) (by decide +kernel) rfl
theorem twi_yX6_isBetter : Cond.instanceMethod yX6_isBetter ∈ wT := wT_mem (n := 600) (by decide +kernel) rfl
theorem two_yX6_isBetter : Cond.code yX6_isBetter cX6_isBetter 4 (some (FieldType.boolean)) ∈ wT := wT_mem (n := 601) (by decide +kernel) rfl
theorem twm_RX6_35 : Cond.methodLink RX6 35 yJ6_bitCount_0f7a4 ∈ wT := wT_mem (n := 602) (by decide +kernel) rfl
theorem twi_yJ6_bitCount_0f7a4 : Cond.static yJ6_bitCount_0f7a4 ∈ wT := wT_mem (n := 603) (by decide +kernel) rfl
theorem two_yJ6_bitCount_0f7a4 : Cond.code yJ6_bitCount_0f7a4 cJ6_bitCount_0f7a4 1 (some (FieldType.int)) ∈ wT := wT_mem (n := 604) (by decide +kernel) rfl
theorem twk_RJ6_265 : Cond.constant RJ6 265 (1431655765) ∈ wT := wT_mem (n := 605) (by decide +kernel) rfl
theorem twk_RJ6_266 : Cond.constant RJ6 266 (858993459) ∈ wT := wT_mem (n := 606) (by decide +kernel) rfl
theorem twk_RJ6_267 : Cond.constant RJ6 267 (252645135) ∈ wT := wT_mem (n := 607) (by decide +kernel) rfl
theorem twm_RX6_76 : Cond.methodLink RX6 76 yX6_chosenCount ∈ wT := wT_mem (n := 608) (by decide +kernel) rfl
theorem twi_yX6_chosenCount : Cond.instanceMethod yX6_chosenCount ∈ wT := wT_mem (n := 609) (by decide +kernel) rfl
theorem tws_yX6_chosenCount : Cond.selects RX6 yX6_chosenCount yX6_chosenCount ∈ wT := wT_mem (n := 610) (by decide +kernel) rfl
theorem two_yX6_chosenCount : Cond.code yX6_chosenCount cX6_chosenCount 1 (some (FieldType.int)) ∈ wT := wT_mem (n := 611) (by decide +kernel) rfl
theorem twm_RX6_55 : Cond.methodLink RX6 55 yX6_goodAt ∈ wT := wT_mem (n := 612) (by decide +kernel) rfl
theorem twi_yX6_goodAt : Cond.instanceMethod yX6_goodAt ∈ wT := wT_mem (n := 614) (by decide +kernel) rfl
theorem two_yX6_goodAt : Cond.code yX6_goodAt cX6_goodAt 2 (some ((FieldType.object "ClockAuctions$Bid"))) ∈ wT := wT_mem (n := 615) (by decide +kernel) rfl
theorem twm_RX6_59 : Cond.methodLink RX6 59 yX6_restFrom ∈ wT := wT_mem (n := 616) (by decide +kernel) rfl
theorem twi_yX6_restFrom : Cond.instanceMethod yX6_restFrom ∈ wT := wT_mem (n := 618) (by decide +kernel) rfl
theorem two_yX6_restFrom : Cond.code yX6_restFrom cX6_restFrom 2 (some (FieldType.long)) ∈ wT := wT_mem (n := 619) (by decide +kernel) rfl
theorem twm_RX6_69 : Cond.methodLink RX6 69 yX6_spend ∈ wT := wT_mem (n := 620) (by decide +kernel) rfl
theorem twi_yX6_spend : Cond.instanceMethod yX6_spend ∈ wT := wT_mem (n := 622) (by decide +kernel) rfl
theorem two_yX6_spend : Cond.code yX6_spend cX6_spend 4 (some (FieldType.boolean)) ∈ wT := wT_mem (n := 623) (by decide +kernel) rfl
theorem twm_RX8_271 : Cond.methodLink RX8 271 yX6_hasChosen ∈ wT := wT_mem (n := 624) (by decide +kernel) rfl
theorem twi_yX6_hasChosen : Cond.instanceMethod yX6_hasChosen ∈ wT := wT_mem (n := 625) (by decide +kernel) rfl
theorem tws_yX6_hasChosen : Cond.selects RX6 yX6_hasChosen yX6_hasChosen ∈ wT := wT_mem (n := 626) (by decide +kernel) rfl
theorem two_yX6_hasChosen : Cond.code yX6_hasChosen cX6_hasChosen 2 (some (FieldType.boolean)) ∈ wT := wT_mem (n := 627) (by decide +kernel) rfl
theorem twm_RX8_274 : Cond.methodLink RX8 274 yX8_sellSet ∈ wT := wT_mem (n := 628) (by decide +kernel) rfl
theorem twi_yX8_sellSet : Cond.instanceMethod yX8_sellSet ∈ wT := wT_mem (n := 630) (by decide +kernel) rfl
theorem two_yX8_sellSet : Cond.code yX8_sellSet cX8_sellSet 6 none ∈ wT := wT_mem (n := 631) (by decide +kernel) rfl
theorem twm_RX8_278 : Cond.methodLink RX8 278 yX6_chosenCount ∈ wT := wT_mem (n := 632) (by decide +kernel) rfl
theorem twm_RL_89 : Cond.methodLink RL 89 yX8_wins ∈ wT := wT_mem (n := 633) (by decide +kernel) rfl
theorem twi_yX8_wins : Cond.instanceMethod yX8_wins ∈ wT := wT_mem (n := 634) (by decide +kernel) rfl
theorem tws_yX8_wins : Cond.selects RX8 yX8_wins yX8_wins ∈ wT := wT_mem (n := 635) (by decide +kernel) rfl
theorem two_yX8_wins : Cond.code yX8_wins cX8_wins 2 (some (FieldType.boolean)) ∈ wT := wT_mem (n := 636) (by decide +kernel) rfl
theorem twm_RL_94 : Cond.methodLink RL 94 yX8_sum ∈ wT := wT_mem (n := 637) (by decide +kernel) rfl
theorem twi_yX8_sum : Cond.instanceMethod yX8_sum ∈ wT := wT_mem (n := 638) (by decide +kernel) rfl
theorem tws_yX8_sum : Cond.selects RX8 yX8_sum yX8_sum ∈ wT := wT_mem (n := 639) (by decide +kernel) rfl
theorem two_yX8_sum : Cond.code yX8_sum cX8_sum 1 (some (FieldType.long)) ∈ wT := wT_mem (n := 640) (by decide +kernel) rfl
theorem twm_RL_98 : Cond.methodLink RL 98 yX8_proved ∈ wT := wT_mem (n := 641) (by decide +kernel) rfl
theorem twi_yX8_proved : Cond.instanceMethod yX8_proved ∈ wT := wT_mem (n := 642) (by decide +kernel) rfl
theorem tws_yX8_proved : Cond.selects RX8 yX8_proved yX8_proved ∈ wT := wT_mem (n := 643) (by decide +kernel) rfl
theorem two_yX8_proved : Cond.code yX8_proved cX8_proved 1 (some (FieldType.boolean)) ∈ wT := wT_mem (n := 644) (by decide +kernel) rfl
theorem twm_RL_115 : Cond.methodLink RL 115 yX8_record ∈ wT := wT_mem (n := 645) (by decide +kernel) rfl
theorem twi_yX8_record : Cond.instanceMethod yX8_record ∈ wT := wT_mem (n := 646) (by decide +kernel) rfl
theorem tws_yX8_record : Cond.selects RX8 yX8_record yX8_record ∈ wT := wT_mem (n := 647) (by decide +kernel) rfl
theorem two_yX8_record : Cond.code yX8_record cX8_record 4 (some (FieldType.int)) ∈ wT := wT_mem (n := 648) (by decide +kernel) rfl
theorem twm_RX8_285 : Cond.methodLink RX8 285 yX2_at ∈ wT := wT_mem (n := 649) (by decide +kernel) rfl
theorem twi_yX2_at : Cond.instanceMethod yX2_at ∈ wT := wT_mem (n := 650) (by decide +kernel) rfl
theorem tws_yX2_at : Cond.selects RX2 yX2_at yX2_at ∈ wT := wT_mem (n := 651) (by decide +kernel) rfl
theorem two_yX2_at : Cond.code yX2_at cX2_at 2 (some ((FieldType.object "ClockAuctions$Entry"))) ∈ wT := wT_mem (n := 652) (by decide +kernel) rfl
theorem twm_RL_120 : Cond.methodLink RL 120 yX8_chained ∈ wT := wT_mem (n := 653) (by decide +kernel) rfl
theorem twi_yX8_chained : Cond.instanceMethod yX8_chained ∈ wT := wT_mem (n := 654) (by decide +kernel) rfl
theorem tws_yX8_chained : Cond.selects RX8 yX8_chained yX8_chained ∈ wT := wT_mem (n := 655) (by decide +kernel) rfl
theorem two_yX8_chained : Cond.code yX8_chained cX8_chained 1 (some (FieldType.boolean)) ∈ wT := wT_mem (n := 656) (by decide +kernel) rfl
theorem twm_RX8_303 : Cond.methodLink RX8 303 yX2_isWhole ∈ wT := wT_mem (n := 657) (by decide +kernel) rfl
theorem twi_yX2_isWhole : Cond.instanceMethod yX2_isWhole ∈ wT := wT_mem (n := 658) (by decide +kernel) rfl
theorem tws_yX2_isWhole : Cond.selects RX2 yX2_isWhole yX2_isWhole ∈ wT := wT_mem (n := 659) (by decide +kernel) rfl
theorem two_yX2_isWhole : Cond.code yX2_isWhole cX2_isWhole 4 (some (FieldType.boolean)) ∈ wT := wT_mem (n := 660) (by decide +kernel) rfl
theorem twm_RX2_31 : Cond.methodLink RX2 31 yX2_at ∈ wT := wT_mem (n := 661) (by decide +kernel) rfl
theorem twm_RX2_38 : Cond.methodLink RX2 38 yX3_linkBehind ∈ wT := wT_mem (n := 662) (by decide +kernel) rfl
theorem twi_yX3_linkBehind : Cond.instanceMethod yX3_linkBehind ∈ wT := wT_mem (n := 663) (by decide +kernel) rfl
theorem tws_yX3_linkBehind : Cond.selects RX3 yX3_linkBehind yX3_linkBehind ∈ wT := wT_mem (n := 664) (by decide +kernel) rfl
theorem two_yX3_linkBehind : Cond.code yX3_linkBehind cX3_linkBehind 2 (some (FieldType.int)) ∈ wT := wT_mem (n := 665) (by decide +kernel) rfl
theorem twm_RX3_26 : Cond.methodLink RX3 26 yX3_linkOf ∈ wT := wT_mem (n := 666) (by decide +kernel) rfl
theorem twm_RL_132 : Cond.methodLink RL 132 yX8_play ∈ wT := wT_mem (n := 667) (by decide +kernel) rfl
theorem twi_yX8_play : Cond.instanceMethod yX8_play ∈ wT := wT_mem (n := 668) (by decide +kernel) rfl
theorem tws_yX8_play : Cond.selects RX8 yX8_play yX8_play ∈ wT := wT_mem (n := 669) (by decide +kernel) rfl
theorem two_yX8_play : Cond.code yX8_play cX8_play 7 (some (FieldType.int)) ∈ wT := wT_mem (n := 670) (by decide +kernel) rfl
theorem twl_RX8_306 : Cond.constantLong RX8 306 (200) ∈ wT := wT_mem (n := 671) (by decide +kernel) rfl
theorem twl_RX8_308 : Cond.constantLong RX8 308 (88172645463325252) ∈ wT := wT_mem (n := 672) (by decide +kernel) rfl
theorem twm_RX8_310 : Cond.methodLink RX8 310 yX8_playTurn ∈ wT := wT_mem (n := 673) (by decide +kernel) rfl
theorem twi_yX8_playTurn : Cond.instanceMethod yX8_playTurn ∈ wT := wT_mem (n := 675) (by decide +kernel) rfl
theorem two_yX8_playTurn : Cond.code yX8_playTurn cX8_playTurn 6 none ∈ wT := wT_mem (n := 676) (by decide +kernel) rfl
theorem twl_RX8_316 : Cond.constantLong RX8 316 (6) ∈ wT := wT_mem (n := 677) (by decide +kernel) rfl
theorem twl_RX8_318 : Cond.constantLong RX8 318 (64) ∈ wT := wT_mem (n := 678) (by decide +kernel) rfl
theorem twl_RX8_320 : Cond.constantLong RX8 320 (384) ∈ wT := wT_mem (n := 679) (by decide +kernel) rfl
theorem twl_RX8_322 : Cond.constantLong RX8 322 (100000) ∈ wT := wT_mem (n := 680) (by decide +kernel) rfl
theorem twl_RX8_324 : Cond.constantLong RX8 324 (3000) ∈ wT := wT_mem (n := 681) (by decide +kernel) rfl
theorem twm_RX8_326 : Cond.methodLink RX8 326 yX8_press ∈ wT := wT_mem (n := 682) (by decide +kernel) rfl
theorem twl_RX8_330 : Cond.constantLong RX8 330 (500) ∈ wT := wT_mem (n := 683) (by decide +kernel) rfl
theorem twm_RX8_332 : Cond.methodLink RX8 332 yX8_tick ∈ wT := wT_mem (n := 684) (by decide +kernel) rfl
theorem twl_RX8_335 : Cond.constantLong RX8 335 (97) ∈ wT := wT_mem (n := 685) (by decide +kernel) rfl
theorem twl_RX8_337 : Cond.constantLong RX8 337 (5) ∈ wT := wT_mem (n := 686) (by decide +kernel) rfl
theorem twm_RX8_339 : Cond.methodLink RX8 339 yX8_start ∈ wT := wT_mem (n := 687) (by decide +kernel) rfl
theorem twl_RX8_342 : Cond.constantLong RX8 342 (32) ∈ wT := wT_mem (n := 688) (by decide +kernel) rfl
theorem twm_RX8_344 : Cond.methodLink RX8 344 yX8_rise ∈ wT := wT_mem (n := 689) (by decide +kernel) rfl
theorem twm_RX8_348 : Cond.methodLink RX8 348 yX8_outage ∈ wT := wT_mem (n := 690) (by decide +kernel) rfl
theorem twm_RX8_352 : Cond.methodLink RX8 352 yX8_again ∈ wT := wT_mem (n := 691) (by decide +kernel) rfl
theorem twm_RX8_313 : Cond.methodLink RX8 313 yX8_soldCount ∈ wT := wT_mem (n := 692) (by decide +kernel) rfl
theorem twi_yX8_soldCount : Cond.instanceMethod yX8_soldCount ∈ wT := wT_mem (n := 694) (by decide +kernel) rfl
theorem two_yX8_soldCount : Cond.code yX8_soldCount cX8_soldCount 4 (some (FieldType.int)) ∈ wT := wT_mem (n := 695) (by decide +kernel) rfl
theorem twc_RL_10 : Cond.classLink RL 10 RX9 ∈ wT := wT_mem (n := 696) (by decide +kernel) rfl
theorem twt_RX9 : Cond.instantiable RX9 36 ∈ wT := wT_mem (n := 697) (by decide +kernel) rfl
theorem twm_RL_12 : Cond.methodLink RL 12 yX9_init ∈ wT := wT_mem (n := 698) (by decide +kernel) rfl
theorem twi_yX9_init : Cond.instanceMethod yX9_init ∈ wT := wT_mem (n := 699) (by decide +kernel) rfl
theorem two_yX9_init : Cond.code yX9_init cX9_init 1 none ∈ wT := wT_mem (n := 700) (by decide +kernel) rfl
theorem twm_RX9_1 : Cond.methodLink RX9 1 objectInit ∈ wT := wT_mem (n := 701) (by decide +kernel) rfl
theorem twf_RX9_82 : Cond.fieldLink RX9 82 "ClockAuctionsModel" "lots" "I" ∈ wT := wT_mem (n := 702) (by decide +kernel) rfl
theorem twf_RX9_7 : Cond.fieldLink RX9 7 "ClockAuctionsModel" "kind" "[I" ∈ wT := wT_mem (n := 703) (by decide +kernel) rfl
theorem twf_RX9_13 : Cond.fieldLink RX9 13 "ClockAuctionsModel" "grams" "[J" ∈ wT := wT_mem (n := 704) (by decide +kernel) rfl
theorem twf_RX9_17 : Cond.fieldLink RX9 17 "ClockAuctionsModel" "reserve" "[J" ∈ wT := wT_mem (n := 705) (by decide +kernel) rfl
theorem twf_RX9_20 : Cond.fieldLink RX9 20 "ClockAuctionsModel" "state" "[I" ∈ wT := wT_mem (n := 706) (by decide +kernel) rfl
theorem twf_RX9_23 : Cond.fieldLink RX9 23 "ClockAuctionsModel" "buyer" "[I" ∈ wT := wT_mem (n := 707) (by decide +kernel) rfl
theorem twf_RX9_26 : Cond.fieldLink RX9 26 "ClockAuctionsModel" "price" "[J" ∈ wT := wT_mem (n := 708) (by decide +kernel) rfl
theorem twf_RX9_29 : Cond.fieldLink RX9 29 "ClockAuctionsModel" "byClock" "[Z" ∈ wT := wT_mem (n := 709) (by decide +kernel) rfl
theorem twf_RX9_33 : Cond.fieldLink RX9 33 "ClockAuctionsModel" "parted" "[Z" ∈ wT := wT_mem (n := 710) (by decide +kernel) rfl
theorem twf_RX9_36 : Cond.fieldLink RX9 36 "ClockAuctionsModel" "reopened" "[Z" ∈ wT := wT_mem (n := 711) (by decide +kernel) rfl
theorem twf_RX9_39 : Cond.fieldLink RX9 39 "ClockAuctionsModel" "offeredAt" "[J" ∈ wT := wT_mem (n := 712) (by decide +kernel) rfl
theorem twf_RX9_42 : Cond.fieldLink RX9 42 "ClockAuctionsModel" "ties" "[I" ∈ wT := wT_mem (n := 713) (by decide +kernel) rfl
theorem twf_RX9_85 : Cond.fieldLink RX9 85 "ClockAuctionsModel" "buyers" "I" ∈ wT := wT_mem (n := 714) (by decide +kernel) rfl
theorem twf_RX9_45 : Cond.fieldLink RX9 45 "ClockAuctionsModel" "credit" "[J" ∈ wT := wT_mem (n := 715) (by decide +kernel) rfl
theorem twf_RX9_48 : Cond.fieldLink RX9 48 "ClockAuctionsModel" "delay" "[J" ∈ wT := wT_mem (n := 716) (by decide +kernel) rfl
theorem twf_RX9_51 : Cond.fieldLink RX9 51 "ClockAuctionsModel" "presses" "[J" ∈ wT := wT_mem (n := 717) (by decide +kernel) rfl
theorem twf_RX9_172 : Cond.fieldLink RX9 172 "ClockAuctionsModel" "day" "J" ∈ wT := wT_mem (n := 718) (by decide +kernel) rfl
theorem twf_RX9_54 : Cond.fieldLink RX9 54 "ClockAuctionsModel" "now" "I" ∈ wT := wT_mem (n := 719) (by decide +kernel) rfl
theorem twf_RX9_129 : Cond.fieldLink RX9 129 "ClockAuctionsModel" "time" "J" ∈ wT := wT_mem (n := 720) (by decide +kernel) rfl
theorem twf_RX9_133 : Cond.fieldLink RX9 133 "ClockAuctionsModel" "end" "J" ∈ wT := wT_mem (n := 721) (by decide +kernel) rfl
theorem twf_RX9_136 : Cond.fieldLink RX9 136 "ClockAuctionsModel" "from" "J" ∈ wT := wT_mem (n := 722) (by decide +kernel) rfl
theorem twf_RX9_139 : Cond.fieldLink RX9 139 "ClockAuctionsModel" "step" "J" ∈ wT := wT_mem (n := 723) (by decide +kernel) rfl
theorem twf_RX9_142 : Cond.fieldLink RX9 142 "ClockAuctionsModel" "stands" "Z" ∈ wT := wT_mem (n := 724) (by decide +kernel) rfl
theorem twf_RX9_196 : Cond.fieldLink RX9 196 "ClockAuctionsModel" "bids" "I" ∈ wT := wT_mem (n := 725) (by decide +kernel) rfl
theorem twf_RX9_58 : Cond.fieldLink RX9 58 "ClockAuctionsModel" "bidBuyer" "[I" ∈ wT := wT_mem (n := 726) (by decide +kernel) rfl
theorem twf_RX9_61 : Cond.fieldLink RX9 61 "ClockAuctionsModel" "bidCents" "[J" ∈ wT := wT_mem (n := 727) (by decide +kernel) rfl
theorem twf_RX9_64 : Cond.fieldLink RX9 64 "ClockAuctionsModel" "bidLots" "[J" ∈ wT := wT_mem (n := 728) (by decide +kernel) rfl
theorem twf_RX9_216 : Cond.fieldLink RX9 216 "ClockAuctionsModel" "winners" "I" ∈ wT := wT_mem (n := 729) (by decide +kernel) rfl
theorem twf_RX9_219 : Cond.fieldLink RX9 219 "ClockAuctionsModel" "sum" "J" ∈ wT := wT_mem (n := 730) (by decide +kernel) rfl
theorem twf_RX9_199 : Cond.fieldLink RX9 199 "ClockAuctionsModel" "proved" "Z" ∈ wT := wT_mem (n := 731) (by decide +kernel) rfl
theorem twf_RX9_98 : Cond.fieldLink RX9 98 "ClockAuctionsModel" "records" "I" ∈ wT := wT_mem (n := 732) (by decide +kernel) rfl
theorem twf_RX9_67 : Cond.fieldLink RX9 67 "ClockAuctionsModel" "sorts" "[I" ∈ wT := wT_mem (n := 733) (by decide +kernel) rfl
theorem twf_RX9_70 : Cond.fieldLink RX9 70 "ClockAuctionsModel" "recordLots" "[I" ∈ wT := wT_mem (n := 734) (by decide +kernel) rfl
theorem twf_RX9_73 : Cond.fieldLink RX9 73 "ClockAuctionsModel" "recordBuyers" "[I" ∈ wT := wT_mem (n := 735) (by decide +kernel) rfl
theorem twf_RX9_76 : Cond.fieldLink RX9 76 "ClockAuctionsModel" "recordPrices" "[J" ∈ wT := wT_mem (n := 736) (by decide +kernel) rfl
theorem twf_RX9_79 : Cond.fieldLink RX9 79 "ClockAuctionsModel" "chain" "[I" ∈ wT := wT_mem (n := 737) (by decide +kernel) rfl
theorem twa_int : Cond.arrayClass .int ∈ wT := wT_mem (n := 811) (by decide +kernel) rfl
theorem twa_boolean : Cond.arrayClass .boolean ∈ wT := wT_mem (n := 812) (by decide +kernel) rfl
theorem twm_RL_19 : Cond.methodLink RL 19 yX9_lot ∈ wT := wT_mem (n := 813) (by decide +kernel) rfl
theorem twi_yX9_lot : Cond.instanceMethod yX9_lot ∈ wT := wT_mem (n := 814) (by decide +kernel) rfl
theorem tws_yX9_lot : Cond.selects RX9 yX9_lot yX9_lot ∈ wT := wT_mem (n := 815) (by decide +kernel) rfl
theorem two_yX9_lot : Cond.code yX9_lot cX9_lot 6 (some (FieldType.int)) ∈ wT := wT_mem (n := 816) (by decide +kernel) rfl
theorem twl_RX9_109 : Cond.constantLong RX9 109 (1000000000) ∈ wT := wT_mem (n := 817) (by decide +kernel) rfl
theorem twm_RX9_111 : Cond.methodLink RX9 111 yX9_add ∈ wT := wT_mem (n := 818) (by decide +kernel) rfl
theorem twi_yX9_add : Cond.instanceMethod yX9_add ∈ wT := wT_mem (n := 820) (by decide +kernel) rfl
theorem two_yX9_add : Cond.code yX9_add cX9_add 6 (some (FieldType.int)) ∈ wT := wT_mem (n := 821) (by decide +kernel) rfl
theorem twm_RL_24 : Cond.methodLink RL 24 yX9_buyer ∈ wT := wT_mem (n := 822) (by decide +kernel) rfl
theorem twi_yX9_buyer : Cond.instanceMethod yX9_buyer ∈ wT := wT_mem (n := 823) (by decide +kernel) rfl
theorem tws_yX9_buyer : Cond.selects RX9 yX9_buyer yX9_buyer ∈ wT := wT_mem (n := 824) (by decide +kernel) rfl
theorem two_yX9_buyer : Cond.code yX9_buyer cX9_buyer 3 (some (FieldType.int)) ∈ wT := wT_mem (n := 825) (by decide +kernel) rfl
theorem twl_RX9_115 : Cond.constantLong RX9 115 (1000000000000) ∈ wT := wT_mem (n := 826) (by decide +kernel) rfl
theorem twl_RX9_117 : Cond.constantLong RX9 117 (-1) ∈ wT := wT_mem (n := 827) (by decide +kernel) rfl
theorem twm_RL_28 : Cond.methodLink RL 28 yX9_start ∈ wT := wT_mem (n := 828) (by decide +kernel) rfl
theorem twi_yX9_start : Cond.instanceMethod yX9_start ∈ wT := wT_mem (n := 829) (by decide +kernel) rfl
theorem tws_yX9_start : Cond.selects RX9 yX9_start yX9_start ∈ wT := wT_mem (n := 830) (by decide +kernel) rfl
theorem two_yX9_start : Cond.code yX9_start cX9_start 9 (some (FieldType.int)) ∈ wT := wT_mem (n := 831) (by decide +kernel) rfl
theorem twm_RX9_119 : Cond.methodLink RX9 119 yX9_isLot ∈ wT := wT_mem (n := 832) (by decide +kernel) rfl
theorem twi_yX9_isLot : Cond.instanceMethod yX9_isLot ∈ wT := wT_mem (n := 834) (by decide +kernel) rfl
theorem two_yX9_isLot : Cond.code yX9_isLot cX9_isLot 2 (some (FieldType.boolean)) ∈ wT := wT_mem (n := 835) (by decide +kernel) rfl
theorem twl_RX9_123 : Cond.constantLong RX9 123 (1000000) ∈ wT := wT_mem (n := 836) (by decide +kernel) rfl
theorem twl_RX9_125 : Cond.constantLong RX9 125 (100) ∈ wT := wT_mem (n := 837) (by decide +kernel) rfl
theorem twl_RX9_127 : Cond.constantLong RX9 127 (10000000) ∈ wT := wT_mem (n := 838) (by decide +kernel) rfl
theorem twm_RL_70 : Cond.methodLink RL 70 yX9_clock ∈ wT := wT_mem (n := 839) (by decide +kernel) rfl
theorem twi_yX9_clock : Cond.instanceMethod yX9_clock ∈ wT := wT_mem (n := 840) (by decide +kernel) rfl
theorem tws_yX9_clock : Cond.selects RX9 yX9_clock yX9_clock ∈ wT := wT_mem (n := 841) (by decide +kernel) rfl
theorem two_yX9_clock : Cond.code yX9_clock cX9_clock 1 (some (FieldType.long)) ∈ wT := wT_mem (n := 842) (by decide +kernel) rfl
theorem twm_RX9_146 : Cond.methodLink RX9 146 yX9_priceAt ∈ wT := wT_mem (n := 843) (by decide +kernel) rfl
theorem twi_yX9_priceAt : Cond.instanceMethod yX9_priceAt ∈ wT := wT_mem (n := 845) (by decide +kernel) rfl
theorem two_yX9_priceAt : Cond.code yX9_priceAt cX9_priceAt 3 (some (FieldType.long)) ∈ wT := wT_mem (n := 846) (by decide +kernel) rfl
theorem twm_RL_33 : Cond.methodLink RL 33 yX9_press ∈ wT := wT_mem (n := 847) (by decide +kernel) rfl
theorem twi_yX9_press : Cond.instanceMethod yX9_press ∈ wT := wT_mem (n := 848) (by decide +kernel) rfl
theorem tws_yX9_press : Cond.selects RX9 yX9_press yX9_press ∈ wT := wT_mem (n := 849) (by decide +kernel) rfl
theorem two_yX9_press : Cond.code yX9_press cX9_press 6 (some (FieldType.boolean)) ∈ wT := wT_mem (n := 850) (by decide +kernel) rfl
theorem twm_RX9_150 : Cond.methodLink RX9 150 yX9_isBuyer ∈ wT := wT_mem (n := 851) (by decide +kernel) rfl
theorem twi_yX9_isBuyer : Cond.instanceMethod yX9_isBuyer ∈ wT := wT_mem (n := 853) (by decide +kernel) rfl
theorem two_yX9_isBuyer : Cond.code yX9_isBuyer cX9_isBuyer 2 (some (FieldType.boolean)) ∈ wT := wT_mem (n := 854) (by decide +kernel) rfl
theorem twl_RX9_153 : Cond.constantLong RX9 153 (20000000) ∈ wT := wT_mem (n := 855) (by decide +kernel) rfl
theorem twm_RL_37 : Cond.methodLink RL 37 yX9_delay ∈ wT := wT_mem (n := 856) (by decide +kernel) rfl
theorem twi_yX9_delay : Cond.instanceMethod yX9_delay ∈ wT := wT_mem (n := 857) (by decide +kernel) rfl
theorem tws_yX9_delay : Cond.selects RX9 yX9_delay yX9_delay ∈ wT := wT_mem (n := 858) (by decide +kernel) rfl
theorem two_yX9_delay : Cond.code yX9_delay cX9_delay 4 (some (FieldType.boolean)) ∈ wT := wT_mem (n := 859) (by decide +kernel) rfl
theorem twl_RX9_155 : Cond.constantLong RX9 155 (5000) ∈ wT := wT_mem (n := 860) (by decide +kernel) rfl
theorem twm_RL_65 : Cond.methodLink RL 65 yX9_outage ∈ wT := wT_mem (n := 861) (by decide +kernel) rfl
theorem twi_yX9_outage : Cond.instanceMethod yX9_outage ∈ wT := wT_mem (n := 862) (by decide +kernel) rfl
theorem tws_yX9_outage : Cond.selects RX9 yX9_outage yX9_outage ∈ wT := wT_mem (n := 863) (by decide +kernel) rfl
theorem two_yX9_outage : Cond.code yX9_outage cX9_outage 5 (some (FieldType.boolean)) ∈ wT := wT_mem (n := 864) (by decide +kernel) rfl
theorem twm_RL_41 : Cond.methodLink RL 41 yX9_tick ∈ wT := wT_mem (n := 865) (by decide +kernel) rfl
theorem twi_yX9_tick : Cond.instanceMethod yX9_tick ∈ wT := wT_mem (n := 866) (by decide +kernel) rfl
theorem tws_yX9_tick : Cond.selects RX9 yX9_tick yX9_tick ∈ wT := wT_mem (n := 867) (by decide +kernel) rfl
theorem two_yX9_tick : Cond.code yX9_tick cX9_tick 5 (some (FieldType.int)) ∈ wT := wT_mem (n := 868) (by decide +kernel) rfl
theorem twm_RX9_175 : Cond.methodLink RX9 175 yX9_goOn ∈ wT := wT_mem (n := 869) (by decide +kernel) rfl
theorem twi_yX9_goOn : Cond.instanceMethod yX9_goOn ∈ wT := wT_mem (n := 871) (by decide +kernel) rfl
theorem two_yX9_goOn : Cond.code yX9_goOn cX9_goOn 4 (some (FieldType.int)) ∈ wT := wT_mem (n := 872) (by decide +kernel) rfl
theorem twm_RX9_164 : Cond.methodLink RX9 164 yX9_earliest ∈ wT := wT_mem (n := 873) (by decide +kernel) rfl
theorem twi_yX9_earliest : Cond.instanceMethod yX9_earliest ∈ wT := wT_mem (n := 875) (by decide +kernel) rfl
theorem two_yX9_earliest : Cond.code yX9_earliest cX9_earliest 3 (some (FieldType.int)) ∈ wT := wT_mem (n := 876) (by decide +kernel) rfl
theorem twm_RX9_157 : Cond.methodLink RX9 157 yX9_free ∈ wT := wT_mem (n := 877) (by decide +kernel) rfl
theorem twi_yX9_free : Cond.instanceMethod yX9_free ∈ wT := wT_mem (n := 879) (by decide +kernel) rfl
theorem two_yX9_free : Cond.code yX9_free cX9_free 2 (some (FieldType.long)) ∈ wT := wT_mem (n := 880) (by decide +kernel) rfl
theorem twm_RX9_105 : Cond.methodLink RX9 105 yX9_heldBy ∈ wT := wT_mem (n := 881) (by decide +kernel) rfl
theorem twi_yX9_heldBy : Cond.instanceMethod yX9_heldBy ∈ wT := wT_mem (n := 883) (by decide +kernel) rfl
theorem two_yX9_heldBy : Cond.code yX9_heldBy cX9_heldBy 5 (some (FieldType.long)) ∈ wT := wT_mem (n := 884) (by decide +kernel) rfl
theorem twm_RX9_168 : Cond.methodLink RX9 168 yX9_sell ∈ wT := wT_mem (n := 885) (by decide +kernel) rfl
theorem twi_yX9_sell : Cond.instanceMethod yX9_sell ∈ wT := wT_mem (n := 887) (by decide +kernel) rfl
theorem two_yX9_sell : Cond.code yX9_sell cX9_sell 8 none ∈ wT := wT_mem (n := 888) (by decide +kernel) rfl
theorem twm_RX9_160 : Cond.methodLink RX9 160 yX9_note ∈ wT := wT_mem (n := 889) (by decide +kernel) rfl
theorem twi_yX9_note : Cond.instanceMethod yX9_note ∈ wT := wT_mem (n := 891) (by decide +kernel) rfl
theorem two_yX9_note : Cond.code yX9_note cX9_note 6 none ∈ wT := wT_mem (n := 892) (by decide +kernel) rfl
theorem twm_RX9_101 : Cond.methodLink RX9 101 yX9_next ∈ wT := wT_mem (n := 893) (by decide +kernel) rfl
theorem twi_yX9_next : Cond.instanceMethod yX9_next ∈ wT := wT_mem (n := 895) (by decide +kernel) rfl
theorem two_yX9_next : Cond.code yX9_next cX9_next 7 (some (FieldType.int)) ∈ wT := wT_mem (n := 896) (by decide +kernel) rfl
theorem twl_RX9_88 : Cond.constantLong RX9 88 (31) ∈ wT := wT_mem (n := 897) (by decide +kernel) rfl
theorem twl_RX9_90 : Cond.constantLong RX9 90 (7) ∈ wT := wT_mem (n := 898) (by decide +kernel) rfl
theorem twl_RX9_92 : Cond.constantLong RX9 92 (5) ∈ wT := wT_mem (n := 899) (by decide +kernel) rfl
theorem twl_RX9_94 : Cond.constantLong RX9 94 (3) ∈ wT := wT_mem (n := 900) (by decide +kernel) rfl
theorem twl_RX9_96 : Cond.constantLong RX9 96 (1000003) ∈ wT := wT_mem (n := 901) (by decide +kernel) rfl
theorem twl_RX9_179 : Cond.constantLong RX9 179 (10000) ∈ wT := wT_mem (n := 902) (by decide +kernel) rfl
theorem twm_RL_140 : Cond.methodLink RL 140 yX9_tie ∈ wT := wT_mem (n := 903) (by decide +kernel) rfl
theorem twi_yX9_tie : Cond.instanceMethod yX9_tie ∈ wT := wT_mem (n := 904) (by decide +kernel) rfl
theorem tws_yX9_tie : Cond.selects RX9 yX9_tie yX9_tie ∈ wT := wT_mem (n := 905) (by decide +kernel) rfl
theorem two_yX9_tie : Cond.code yX9_tie cX9_tie 5 (some (FieldType.int)) ∈ wT := wT_mem (n := 906) (by decide +kernel) rfl
theorem twm_RL_46 : Cond.methodLink RL 46 yX9_winner ∈ wT := wT_mem (n := 907) (by decide +kernel) rfl
theorem twi_yX9_winner : Cond.instanceMethod yX9_winner ∈ wT := wT_mem (n := 908) (by decide +kernel) rfl
theorem tws_yX9_winner : Cond.selects RX9 yX9_winner yX9_winner ∈ wT := wT_mem (n := 909) (by decide +kernel) rfl
theorem two_yX9_winner : Cond.code yX9_winner cX9_winner 2 (some (FieldType.int)) ∈ wT := wT_mem (n := 910) (by decide +kernel) rfl
theorem twm_RX9_181 : Cond.methodLink RX9 181 yX9_isBought ∈ wT := wT_mem (n := 911) (by decide +kernel) rfl
theorem twi_yX9_isBought : Cond.instanceMethod yX9_isBought ∈ wT := wT_mem (n := 913) (by decide +kernel) rfl
theorem two_yX9_isBought : Cond.code yX9_isBought cX9_isBought 2 (some (FieldType.boolean)) ∈ wT := wT_mem (n := 914) (by decide +kernel) rfl
theorem twm_RL_51 : Cond.methodLink RL 51 yX9_price ∈ wT := wT_mem (n := 915) (by decide +kernel) rfl
theorem twi_yX9_price : Cond.instanceMethod yX9_price ∈ wT := wT_mem (n := 916) (by decide +kernel) rfl
theorem tws_yX9_price : Cond.selects RX9 yX9_price yX9_price ∈ wT := wT_mem (n := 917) (by decide +kernel) rfl
theorem two_yX9_price : Cond.code yX9_price cX9_price 2 (some (FieldType.long)) ∈ wT := wT_mem (n := 918) (by decide +kernel) rfl
theorem twm_RL_56 : Cond.methodLink RL 56 yX9_part ∈ wT := wT_mem (n := 919) (by decide +kernel) rfl
theorem twi_yX9_part : Cond.instanceMethod yX9_part ∈ wT := wT_mem (n := 920) (by decide +kernel) rfl
theorem tws_yX9_part : Cond.selects RX9 yX9_part yX9_part ∈ wT := wT_mem (n := 921) (by decide +kernel) rfl
theorem two_yX9_part : Cond.code yX9_part cX9_part 7 (some (FieldType.int)) ∈ wT := wT_mem (n := 922) (by decide +kernel) rfl
theorem twm_RX9_184 : Cond.methodLink RX9 184 yX9_up ∈ wT := wT_mem (n := 923) (by decide +kernel) rfl
theorem twi_yX9_up : Cond.static yX9_up ∈ wT := wT_mem (n := 924) (by decide +kernel) rfl
theorem two_yX9_up : Cond.code yX9_up cX9_up 4 (some (FieldType.long)) ∈ wT := wT_mem (n := 925) (by decide +kernel) rfl
theorem twm_RL_60 : Cond.methodLink RL 60 yX9_left ∈ wT := wT_mem (n := 926) (by decide +kernel) rfl
theorem twi_yX9_left : Cond.instanceMethod yX9_left ∈ wT := wT_mem (n := 927) (by decide +kernel) rfl
theorem tws_yX9_left : Cond.selects RX9 yX9_left yX9_left ∈ wT := wT_mem (n := 928) (by decide +kernel) rfl
theorem two_yX9_left : Cond.code yX9_left cX9_left 2 (some (FieldType.long)) ∈ wT := wT_mem (n := 929) (by decide +kernel) rfl
theorem twm_RL_110 : Cond.methodLink RL 110 yX9_again ∈ wT := wT_mem (n := 930) (by decide +kernel) rfl
theorem twi_yX9_again : Cond.instanceMethod yX9_again ∈ wT := wT_mem (n := 931) (by decide +kernel) rfl
theorem tws_yX9_again : Cond.selects RX9 yX9_again yX9_again ∈ wT := wT_mem (n := 932) (by decide +kernel) rfl
theorem two_yX9_again : Cond.code yX9_again cX9_again 2 (some (FieldType.int)) ∈ wT := wT_mem (n := 933) (by decide +kernel) rfl
theorem twl_RX9_188 : Cond.constantLong RX9 188 (10) ∈ wT := wT_mem (n := 934) (by decide +kernel) rfl
theorem twm_RL_131 : Cond.methodLink RL 131 yX9_back ∈ wT := wT_mem (n := 935) (by decide +kernel) rfl
theorem twi_yX9_back : Cond.instanceMethod yX9_back ∈ wT := wT_mem (n := 936) (by decide +kernel) rfl
theorem tws_yX9_back : Cond.selects RX9 yX9_back yX9_back ∈ wT := wT_mem (n := 937) (by decide +kernel) rfl
theorem two_yX9_back : Cond.code yX9_back cX9_back 2 (some (FieldType.int)) ∈ wT := wT_mem (n := 938) (by decide +kernel) rfl
theorem twm_RL_114 : Cond.methodLink RL 114 yX9_fee ∈ wT := wT_mem (n := 939) (by decide +kernel) rfl
theorem twi_yX9_fee : Cond.instanceMethod yX9_fee ∈ wT := wT_mem (n := 940) (by decide +kernel) rfl
theorem tws_yX9_fee : Cond.selects RX9 yX9_fee yX9_fee ∈ wT := wT_mem (n := 941) (by decide +kernel) rfl
theorem two_yX9_fee : Cond.code yX9_fee cX9_fee 2 (some (FieldType.long)) ∈ wT := wT_mem (n := 942) (by decide +kernel) rfl
theorem twl_RX9_190 : Cond.constantLong RX9 190 (50) ∈ wT := wT_mem (n := 943) (by decide +kernel) rfl
theorem twl_RX9_192 : Cond.constantLong RX9 192 (30) ∈ wT := wT_mem (n := 944) (by decide +kernel) rfl
theorem twm_RL_127 : Cond.methodLink RL 127 yX9_order ∈ wT := wT_mem (n := 945) (by decide +kernel) rfl
theorem twi_yX9_order : Cond.instanceMethod yX9_order ∈ wT := wT_mem (n := 946) (by decide +kernel) rfl
theorem tws_yX9_order : Cond.selects RX9 yX9_order yX9_order ∈ wT := wT_mem (n := 947) (by decide +kernel) rfl
theorem two_yX9_order : Cond.code yX9_order cX9_order 8 (some (FieldType.int)) ∈ wT := wT_mem (n := 948) (by decide +kernel) rfl
theorem twm_RL_106 : Cond.methodLink RL 106 yX9_held ∈ wT := wT_mem (n := 949) (by decide +kernel) rfl
theorem twi_yX9_held : Cond.instanceMethod yX9_held ∈ wT := wT_mem (n := 950) (by decide +kernel) rfl
theorem tws_yX9_held : Cond.selects RX9 yX9_held yX9_held ∈ wT := wT_mem (n := 951) (by decide +kernel) rfl
theorem two_yX9_held : Cond.code yX9_held cX9_held 2 (some (FieldType.long)) ∈ wT := wT_mem (n := 952) (by decide +kernel) rfl
theorem twm_RL_75 : Cond.methodLink RL 75 yX9_rise ∈ wT := wT_mem (n := 953) (by decide +kernel) rfl
theorem twi_yX9_rise : Cond.instanceMethod yX9_rise ∈ wT := wT_mem (n := 954) (by decide +kernel) rfl
theorem tws_yX9_rise : Cond.selects RX9 yX9_rise yX9_rise ∈ wT := wT_mem (n := 955) (by decide +kernel) rfl
theorem two_yX9_rise : Cond.code yX9_rise cX9_rise 11 (some (FieldType.int)) ∈ wT := wT_mem (n := 956) (by decide +kernel) rfl
theorem twl_RX9_194 : Cond.constantLong RX9 194 (20) ∈ wT := wT_mem (n := 957) (by decide +kernel) rfl
theorem twm_RL_79 : Cond.methodLink RL 79 yX9_bid ∈ wT := wT_mem (n := 958) (by decide +kernel) rfl
theorem twi_yX9_bid : Cond.instanceMethod yX9_bid ∈ wT := wT_mem (n := 959) (by decide +kernel) rfl
theorem tws_yX9_bid : Cond.selects RX9 yX9_bid yX9_bid ∈ wT := wT_mem (n := 960) (by decide +kernel) rfl
theorem two_yX9_bid : Cond.code yX9_bid cX9_bid 4 (some (FieldType.int)) ∈ wT := wT_mem (n := 961) (by decide +kernel) rfl
theorem twm_RL_84 : Cond.methodLink RL 84 yX9_on ∈ wT := wT_mem (n := 962) (by decide +kernel) rfl
theorem twi_yX9_on : Cond.instanceMethod yX9_on ∈ wT := wT_mem (n := 963) (by decide +kernel) rfl
theorem tws_yX9_on : Cond.selects RX9 yX9_on yX9_on ∈ wT := wT_mem (n := 964) (by decide +kernel) rfl
theorem two_yX9_on : Cond.code yX9_on cX9_on 3 (some (FieldType.boolean)) ∈ wT := wT_mem (n := 965) (by decide +kernel) rfl
theorem twm_RL_88 : Cond.methodLink RL 88 yX9_sets ∈ wT := wT_mem (n := 966) (by decide +kernel) rfl
theorem twi_yX9_sets : Cond.instanceMethod yX9_sets ∈ wT := wT_mem (n := 967) (by decide +kernel) rfl
theorem tws_yX9_sets : Cond.selects RX9 yX9_sets yX9_sets ∈ wT := wT_mem (n := 968) (by decide +kernel) rfl
theorem two_yX9_sets : Cond.code yX9_sets cX9_sets 11 (some (FieldType.int)) ∈ wT := wT_mem (n := 969) (by decide +kernel) rfl
theorem twm_RX9_202 : Cond.methodLink RX9 202 yX9_isGood ∈ wT := wT_mem (n := 970) (by decide +kernel) rfl
theorem twi_yX9_isGood : Cond.instanceMethod yX9_isGood ∈ wT := wT_mem (n := 972) (by decide +kernel) rfl
theorem two_yX9_isGood : Cond.code yX9_isGood cX9_isGood 6 (some (FieldType.boolean)) ∈ wT := wT_mem (n := 973) (by decide +kernel) rfl
theorem twm_RX9_205 : Cond.methodLink RX9 205 yX9_sumOf ∈ wT := wT_mem (n := 974) (by decide +kernel) rfl
theorem twi_yX9_sumOf : Cond.instanceMethod yX9_sumOf ∈ wT := wT_mem (n := 976) (by decide +kernel) rfl
theorem two_yX9_sumOf : Cond.code yX9_sumOf cX9_sumOf 10 (some (FieldType.long)) ∈ wT := wT_mem (n := 977) (by decide +kernel) rfl
theorem twm_RX9_208 : Cond.methodLink RX9 208 yX9_size ∈ wT := wT_mem (n := 978) (by decide +kernel) rfl
theorem twi_yX9_size : Cond.static yX9_size ∈ wT := wT_mem (n := 979) (by decide +kernel) rfl
theorem two_yX9_size : Cond.code yX9_size cX9_size 3 (some (FieldType.int)) ∈ wT := wT_mem (n := 980) (by decide +kernel) rfl
theorem twm_RX9_212 : Cond.methodLink RX9 212 yX9_isFirst ∈ wT := wT_mem (n := 981) (by decide +kernel) rfl
theorem twi_yX9_isFirst : Cond.static yX9_isFirst ∈ wT := wT_mem (n := 982) (by decide +kernel) rfl
theorem two_yX9_isFirst : Cond.code yX9_isFirst cX9_isFirst 3 (some (FieldType.boolean)) ∈ wT := wT_mem (n := 983) (by decide +kernel) rfl
theorem twm_RL_93 : Cond.methodLink RL 93 yX9_wins ∈ wT := wT_mem (n := 984) (by decide +kernel) rfl
theorem twi_yX9_wins : Cond.instanceMethod yX9_wins ∈ wT := wT_mem (n := 985) (by decide +kernel) rfl
theorem tws_yX9_wins : Cond.selects RX9 yX9_wins yX9_wins ∈ wT := wT_mem (n := 986) (by decide +kernel) rfl
theorem two_yX9_wins : Cond.code yX9_wins cX9_wins 2 (some (FieldType.boolean)) ∈ wT := wT_mem (n := 987) (by decide +kernel) rfl
theorem twm_RL_97 : Cond.methodLink RL 97 yX9_sum ∈ wT := wT_mem (n := 988) (by decide +kernel) rfl
theorem twi_yX9_sum : Cond.instanceMethod yX9_sum ∈ wT := wT_mem (n := 989) (by decide +kernel) rfl
theorem tws_yX9_sum : Cond.selects RX9 yX9_sum yX9_sum ∈ wT := wT_mem (n := 990) (by decide +kernel) rfl
theorem two_yX9_sum : Cond.code yX9_sum cX9_sum 1 (some (FieldType.long)) ∈ wT := wT_mem (n := 991) (by decide +kernel) rfl
theorem twm_RL_102 : Cond.methodLink RL 102 yX9_proved ∈ wT := wT_mem (n := 992) (by decide +kernel) rfl
theorem twi_yX9_proved : Cond.instanceMethod yX9_proved ∈ wT := wT_mem (n := 993) (by decide +kernel) rfl
theorem tws_yX9_proved : Cond.selects RX9 yX9_proved yX9_proved ∈ wT := wT_mem (n := 994) (by decide +kernel) rfl
theorem two_yX9_proved : Cond.code yX9_proved cX9_proved 1 (some (FieldType.boolean)) ∈ wT := wT_mem (n := 995) (by decide +kernel) rfl
theorem twm_RL_119 : Cond.methodLink RL 119 yX9_record ∈ wT := wT_mem (n := 996) (by decide +kernel) rfl
theorem twi_yX9_record : Cond.instanceMethod yX9_record ∈ wT := wT_mem (n := 997) (by decide +kernel) rfl
theorem tws_yX9_record : Cond.selects RX9 yX9_record yX9_record ∈ wT := wT_mem (n := 998) (by decide +kernel) rfl
theorem two_yX9_record : Cond.code yX9_record cX9_record 3 (some (FieldType.int)) ∈ wT := wT_mem (n := 999) (by decide +kernel) rfl
theorem twm_RL_123 : Cond.methodLink RL 123 yX9_chained ∈ wT := wT_mem (n := 1000) (by decide +kernel) rfl
theorem twi_yX9_chained : Cond.instanceMethod yX9_chained ∈ wT := wT_mem (n := 1001) (by decide +kernel) rfl
theorem tws_yX9_chained : Cond.selects RX9 yX9_chained yX9_chained ∈ wT := wT_mem (n := 1002) (by decide +kernel) rfl
theorem two_yX9_chained : Cond.code yX9_chained cX9_chained 4 (some (FieldType.boolean)) ∈ wT := wT_mem (n := 1003) (by decide +kernel) rfl
theorem twm_RL_136 : Cond.methodLink RL 136 yX9_play ∈ wT := wT_mem (n := 1004) (by decide +kernel) rfl
theorem twi_yX9_play : Cond.instanceMethod yX9_play ∈ wT := wT_mem (n := 1005) (by decide +kernel) rfl
theorem tws_yX9_play : Cond.selects RX9 yX9_play yX9_play ∈ wT := wT_mem (n := 1006) (by decide +kernel) rfl
theorem two_yX9_play : Cond.code yX9_play cX9_play 8 (some (FieldType.int)) ∈ wT := wT_mem (n := 1007) (by decide +kernel) rfl
theorem twl_RX9_259 : Cond.constantLong RX9 259 (88172645463325252) ∈ wT := wT_mem (n := 1008) (by decide +kernel) rfl
theorem twm_RX9_261 : Cond.methodLink RX9 261 yX9_turn ∈ wT := wT_mem (n := 1009) (by decide +kernel) rfl
theorem twi_yX9_turn : Cond.instanceMethod yX9_turn ∈ wT := wT_mem (n := 1011) (by decide +kernel) rfl
theorem two_yX9_turn : Cond.code yX9_turn cX9_turn 8 none ∈ wT := wT_mem (n := 1012) (by decide +kernel) rfl
theorem twl_RX9_222 : Cond.constantLong RX9 222 (6) ∈ wT := wT_mem (n := 1013) (by decide +kernel) rfl
theorem twl_RX9_224 : Cond.constantLong RX9 224 (64) ∈ wT := wT_mem (n := 1014) (by decide +kernel) rfl
theorem twl_RX9_226 : Cond.constantLong RX9 226 (384) ∈ wT := wT_mem (n := 1015) (by decide +kernel) rfl
theorem twl_RX9_228 : Cond.constantLong RX9 228 (100000) ∈ wT := wT_mem (n := 1016) (by decide +kernel) rfl
theorem twl_RX9_230 : Cond.constantLong RX9 230 (3000) ∈ wT := wT_mem (n := 1017) (by decide +kernel) rfl
theorem twm_RX9_232 : Cond.methodLink RX9 232 yX9_press ∈ wT := wT_mem (n := 1018) (by decide +kernel) rfl
theorem twl_RX9_236 : Cond.constantLong RX9 236 (500) ∈ wT := wT_mem (n := 1019) (by decide +kernel) rfl
theorem twm_RX9_238 : Cond.methodLink RX9 238 yX9_tick ∈ wT := wT_mem (n := 1020) (by decide +kernel) rfl
theorem twl_RX9_241 : Cond.constantLong RX9 241 (97) ∈ wT := wT_mem (n := 1021) (by decide +kernel) rfl
theorem twm_RX9_243 : Cond.methodLink RX9 243 yX9_start ∈ wT := wT_mem (n := 1022) (by decide +kernel) rfl
theorem twl_RX9_246 : Cond.constantLong RX9 246 (32) ∈ wT := wT_mem (n := 1023) (by decide +kernel) rfl
theorem twm_RX9_248 : Cond.methodLink RX9 248 yX9_rise ∈ wT := wT_mem (n := 1024) (by decide +kernel) rfl
theorem twm_RX9_252 : Cond.methodLink RX9 252 yX9_outage ∈ wT := wT_mem (n := 1025) (by decide +kernel) rfl
theorem twm_RX9_256 : Cond.methodLink RX9 256 yX9_again ∈ wT := wT_mem (n := 1026) (by decide +kernel) rfl
theorem twl_RL_13 : Cond.constantLong RL 13 (4294967295) ∈ wT := wT_mem (n := 1027) (by decide +kernel) rfl
theorem twu_RX0 : ∀ w ∈ u_ws RX0 TX0 4, w ∈ wT := wT_all (by decide +kernel)
theorem twu_RX1 : ∀ w ∈ u_ws RX1 TX1 4, w ∈ wT := wT_all (by decide +kernel)
theorem twu_RX2 : ∀ w ∈ u_ws RX2 TX2 3, w ∈ wT := wT_all (by decide +kernel)
theorem twu_RX3 : ∀ w ∈ u_ws RX3 TX3 5, w ∈ wT := wT_all (by decide +kernel)
theorem twu_RX4 : ∀ w ∈ u_ws RX4 TX4 6, w ∈ wT := wT_all (by decide +kernel)
theorem twu_RX5 : ∀ w ∈ u_ws RX5 TX5 12, w ∈ wT := wT_all (by decide +kernel)
theorem twu_RX6 : ∀ w ∈ u_ws RX6 TX6 6, w ∈ wT := wT_all (by decide +kernel)
theorem twu_RX8 : ∀ w ∈ u_ws RX8 TX8 11, w ∈ wT := wT_all (by decide +kernel)
theorem twu_RX9 : ∀ w ∈ u_ws RX9 TX9 36, w ∈ wT := wT_all (by decide +kernel)
end
section
theorem dX0_init_0 : decode cX0_init 0 = .ok (.aload_n 0, 1) := by decide +kernel
theorem dX0_init_1 : decode cX0_init 1 = .ok (.invokespecial 3, 3) := by decide +kernel
theorem dX0_init_4 : decode cX0_init 4 = .ok (.aload_n 0, 1) := by decide +kernel
theorem dX0_init_5 : decode cX0_init 5 = .ok (.iload_n 1, 1) := by decide +kernel
theorem dX0_init_6 : decode cX0_init 6 = .ok (.putfield 9, 3) := by decide +kernel
theorem dX0_init_9 : decode cX0_init 9 = .ok (.aload_n 0, 1) := by decide +kernel
theorem dX0_init_10 : decode cX0_init 10 = .ok (.iload_n 2, 1) := by decide +kernel
theorem dX0_init_11 : decode cX0_init 11 = .ok (.putfield 15, 3) := by decide +kernel
theorem dX0_init_14 : decode cX0_init 14 = .ok (.aload_n 0, 1) := by decide +kernel
theorem dX0_init_15 : decode cX0_init 15 = .ok (.lload_n 3, 1) := by decide +kernel
theorem dX0_init_16 : decode cX0_init 16 = .ok (.putfield 18, 3) := by decide +kernel
theorem dX0_init_19 : decode cX0_init 19 = .ok (.return_, 1) := by decide +kernel
theorem dX0_isFor_0 : decode cX0_isFor 0 = .ok (.iload_n 1, 1) := by decide +kernel
theorem dX0_isFor_1 : decode cX0_isFor 1 = .ok (.ifCond .lt 26, 3) := by decide +kernel
theorem dX0_isFor_4 : decode cX0_isFor 4 = .ok (.iload_n 1, 1) := by decide +kernel
theorem dX0_isFor_5 : decode cX0_isFor 5 = .ok (.bipush 60, 2) := by decide +kernel
theorem dX0_isFor_7 : decode cX0_isFor 7 = .ok (.if_icmp .ge 20, 3) := by decide +kernel
theorem dX0_isFor_10 : decode cX0_isFor 10 = .ok (.aload_n 0, 1) := by decide +kernel
theorem dX0_isFor_11 : decode cX0_isFor 11 = .ok (.getfield 22, 3) := by decide +kernel
theorem dX0_isFor_14 : decode cX0_isFor 14 = .ok (.iload_n 1, 1) := by decide +kernel
theorem dX0_isFor_15 : decode cX0_isFor 15 = .ok (.lushr, 1) := by decide +kernel
theorem dX0_isFor_16 : decode cX0_isFor 16 = .ok (.lconst 1, 1) := by decide +kernel
theorem dX0_isFor_17 : decode cX0_isFor 17 = .ok (.land, 1) := by decide +kernel
theorem dX0_isFor_18 : decode cX0_isFor 18 = .ok (.lconst 0, 1) := by decide +kernel
theorem dX0_isFor_19 : decode cX0_isFor 19 = .ok (.lcmp, 1) := by decide +kernel
theorem dX0_isFor_20 : decode cX0_isFor 20 = .ok (.ifCond .eq 7, 3) := by decide +kernel
theorem dX0_isFor_23 : decode cX0_isFor 23 = .ok (.iconst 1, 1) := by decide +kernel
theorem dX0_isFor_24 : decode cX0_isFor 24 = .ok (.goto 4, 3) := by decide +kernel
theorem dX0_isFor_27 : decode cX0_isFor 27 = .ok (.iconst 0, 1) := by decide +kernel
theorem dX0_isFor_28 : decode cX0_isFor 28 = .ok (.ireturn, 1) := by decide +kernel
theorem dX0_addLot_0 : decode cX0_addLot 0 = .ok (.iload_n 1, 1) := by decide +kernel
theorem dX0_addLot_1 : decode cX0_addLot 1 = .ok (.ifCond .lt 21, 3) := by decide +kernel
theorem dX0_addLot_4 : decode cX0_addLot 4 = .ok (.iload_n 1, 1) := by decide +kernel
theorem dX0_addLot_5 : decode cX0_addLot 5 = .ok (.bipush 60, 2) := by decide +kernel
theorem dX0_addLot_7 : decode cX0_addLot 7 = .ok (.if_icmp .ge 15, 3) := by decide +kernel
theorem dX0_addLot_10 : decode cX0_addLot 10 = .ok (.aload_n 0, 1) := by decide +kernel
theorem dX0_addLot_11 : decode cX0_addLot 11 = .ok (.dup, 1) := by decide +kernel
theorem dX0_addLot_12 : decode cX0_addLot 12 = .ok (.getfield 22, 3) := by decide +kernel
theorem dX0_addLot_15 : decode cX0_addLot 15 = .ok (.lconst 1, 1) := by decide +kernel
theorem dX0_addLot_16 : decode cX0_addLot 16 = .ok (.iload_n 1, 1) := by decide +kernel
theorem dX0_addLot_17 : decode cX0_addLot 17 = .ok (.lshl, 1) := by decide +kernel
theorem dX0_addLot_18 : decode cX0_addLot 18 = .ok (.lor, 1) := by decide +kernel
theorem dX0_addLot_19 : decode cX0_addLot 19 = .ok (.putfield 22, 3) := by decide +kernel
theorem dX0_addLot_22 : decode cX0_addLot 22 = .ok (.return_, 1) := by decide +kernel
theorem dX1_init_0 : decode cX1_init 0 = .ok (.aload_n 0, 1) := by decide +kernel
theorem dX1_init_1 : decode cX1_init 1 = .ok (.invokespecial 3, 3) := by decide +kernel
theorem dX1_init_4 : decode cX1_init 4 = .ok (.aload_n 0, 1) := by decide +kernel
theorem dX1_init_5 : decode cX1_init 5 = .ok (.iload_n 1, 1) := by decide +kernel
theorem dX1_init_6 : decode cX1_init 6 = .ok (.putfield 9, 3) := by decide +kernel
theorem dX1_init_9 : decode cX1_init 9 = .ok (.aload_n 0, 1) := by decide +kernel
theorem dX1_init_10 : decode cX1_init 10 = .ok (.lload_n 2, 1) := by decide +kernel
theorem dX1_init_11 : decode cX1_init 11 = .ok (.putfield 15, 3) := by decide +kernel
theorem dX1_init_14 : decode cX1_init 14 = .ok (.aload_n 0, 1) := by decide +kernel
theorem dX1_init_15 : decode cX1_init 15 = .ok (.ldc2_w 19, 3) := by decide +kernel
theorem dX1_init_18 : decode cX1_init 18 = .ok (.putfield 21, 3) := by decide +kernel
theorem dX1_init_21 : decode cX1_init 21 = .ok (.return_, 1) := by decide +kernel
theorem dX1_hasPressUpTo_0 : decode cX1_hasPressUpTo 0 = .ok (.aload_n 0, 1) := by decide +kernel
theorem dX1_hasPressUpTo_1 : decode cX1_hasPressUpTo 1 = .ok (.getfield 21, 3) := by decide +kernel
theorem dX1_hasPressUpTo_4 : decode cX1_hasPressUpTo 4 = .ok (.ldc2_w 19, 3) := by decide +kernel
theorem dX1_hasPressUpTo_7 : decode cX1_hasPressUpTo 7 = .ok (.lcmp, 1) := by decide +kernel
theorem dX1_hasPressUpTo_8 : decode cX1_hasPressUpTo 8 = .ok (.ifCond .eq 16, 3) := by decide +kernel
theorem dX1_hasPressUpTo_11 : decode cX1_hasPressUpTo 11 = .ok (.aload_n 0, 1) := by decide +kernel
theorem dX1_hasPressUpTo_12 : decode cX1_hasPressUpTo 12 = .ok (.getfield 21, 3) := by decide +kernel
theorem dX1_hasPressUpTo_15 : decode cX1_hasPressUpTo 15 = .ok (.lload_n 1, 1) := by decide +kernel
theorem dX1_hasPressUpTo_16 : decode cX1_hasPressUpTo 16 = .ok (.lcmp, 1) := by decide +kernel
theorem dX1_hasPressUpTo_17 : decode cX1_hasPressUpTo 17 = .ok (.ifCond .gt 7, 3) := by decide +kernel
theorem dX1_hasPressUpTo_20 : decode cX1_hasPressUpTo 20 = .ok (.iconst 1, 1) := by decide +kernel
theorem dX1_hasPressUpTo_21 : decode cX1_hasPressUpTo 21 = .ok (.goto 4, 3) := by decide +kernel
theorem dX1_hasPressUpTo_24 : decode cX1_hasPressUpTo 24 = .ok (.iconst 0, 1) := by decide +kernel
theorem dX1_hasPressUpTo_25 : decode cX1_hasPressUpTo 25 = .ok (.ireturn, 1) := by decide +kernel
theorem dX1_dropPress_0 : decode cX1_dropPress 0 = .ok (.aload_n 0, 1) := by decide +kernel
theorem dX1_dropPress_1 : decode cX1_dropPress 1 = .ok (.ldc2_w 19, 3) := by decide +kernel
theorem dX1_dropPress_4 : decode cX1_dropPress 4 = .ok (.putfield 21, 3) := by decide +kernel
theorem dX1_dropPress_7 : decode cX1_dropPress 7 = .ok (.return_, 1) := by decide +kernel
theorem dX2_init_0 : decode cX2_init 0 = .ok (.aload_n 0, 1) := by decide +kernel
theorem dX2_init_1 : decode cX2_init 1 = .ok (.invokespecial 3, 3) := by decide +kernel
theorem dX2_init_4 : decode cX2_init 4 = .ok (.aload_n 0, 1) := by decide +kernel
theorem dX2_init_5 : decode cX2_init 5 = .ok (.sipush 240, 3) := by decide +kernel
theorem dX2_init_8 : decode cX2_init 8 = .ok (.anewarray 11, 3) := by decide +kernel
theorem dX2_init_11 : decode cX2_init 11 = .ok (.putfield 13, 3) := by decide +kernel
theorem dX2_init_14 : decode cX2_init 14 = .ok (.aload_n 0, 1) := by decide +kernel
theorem dX2_init_15 : decode cX2_init 15 = .ok (.iconst 1, 1) := by decide +kernel
theorem dX2_init_16 : decode cX2_init 16 = .ok (.putfield 17, 3) := by decide +kernel
theorem dX2_init_19 : decode cX2_init 19 = .ok (.return_, 1) := by decide +kernel
theorem dX2_add_0 : decode cX2_add 0 = .ok (.aload_n 0, 1) := by decide +kernel
theorem dX2_add_1 : decode cX2_add 1 = .ok (.getfield 21, 3) := by decide +kernel
theorem dX2_add_4 : decode cX2_add 4 = .ok (.ifCond .lt 15, 3) := by decide +kernel
theorem dX2_add_7 : decode cX2_add 7 = .ok (.aload_n 0, 1) := by decide +kernel
theorem dX2_add_8 : decode cX2_add 8 = .ok (.getfield 21, 3) := by decide +kernel
theorem dX2_add_11 : decode cX2_add 11 = .ok (.aload_n 0, 1) := by decide +kernel
theorem dX2_add_12 : decode cX2_add 12 = .ok (.getfield 13, 3) := by decide +kernel
theorem dX2_add_15 : decode cX2_add 15 = .ok (.arraylength, 1) := by decide +kernel
theorem dX2_add_16 : decode cX2_add 16 = .ok (.if_icmp .lt 4, 3) := by decide +kernel
theorem dX2_add_19 : decode cX2_add 19 = .ok (.return_, 1) := by decide +kernel
theorem dX2_add_20 : decode cX2_add 20 = .ok (.aload_n 0, 1) := by decide +kernel
theorem dX2_add_21 : decode cX2_add 21 = .ok (.aload_n 0, 1) := by decide +kernel
theorem dX2_add_22 : decode cX2_add 22 = .ok (.getfield 17, 3) := by decide +kernel
theorem dX2_add_25 : decode cX2_add 25 = .ok (.iload_n 1, 1) := by decide +kernel
theorem dX2_add_26 : decode cX2_add 26 = .ok (.iload_n 2, 1) := by decide +kernel
theorem dX2_add_27 : decode cX2_add 27 = .ok (.iload_n 3, 1) := by decide +kernel
theorem dX2_add_28 : decode cX2_add 28 = .ok (.lload 4, 2) := by decide +kernel
theorem dX2_add_30 : decode cX2_add 30 = .ok (.invokestatic 24, 3) := by decide +kernel
theorem dX2_add_33 : decode cX2_add 33 = .ok (.putfield 17, 3) := by decide +kernel
theorem dX2_add_36 : decode cX2_add 36 = .ok (.aload_n 0, 1) := by decide +kernel
theorem dX2_add_37 : decode cX2_add 37 = .ok (.getfield 13, 3) := by decide +kernel
theorem dX2_add_40 : decode cX2_add 40 = .ok (.aload_n 0, 1) := by decide +kernel
theorem dX2_add_41 : decode cX2_add 41 = .ok (.getfield 21, 3) := by decide +kernel
theorem dX2_add_44 : decode cX2_add 44 = .ok (.new 11, 3) := by decide +kernel
theorem dX2_add_47 : decode cX2_add 47 = .ok (.dup, 1) := by decide +kernel
theorem dX2_add_48 : decode cX2_add 48 = .ok (.iload_n 1, 1) := by decide +kernel
theorem dX2_add_49 : decode cX2_add 49 = .ok (.iload_n 2, 1) := by decide +kernel
theorem dX2_add_50 : decode cX2_add 50 = .ok (.iload_n 3, 1) := by decide +kernel
theorem dX2_add_51 : decode cX2_add 51 = .ok (.lload 4, 2) := by decide +kernel
theorem dX2_add_53 : decode cX2_add 53 = .ok (.aload_n 0, 1) := by decide +kernel
theorem dX2_add_54 : decode cX2_add 54 = .ok (.getfield 17, 3) := by decide +kernel
theorem dX2_add_57 : decode cX2_add 57 = .ok (.invokespecial 28, 3) := by decide +kernel
theorem dX2_add_60 : decode cX2_add 60 = .ok (.aastore, 1) := by decide +kernel
theorem dX2_add_61 : decode cX2_add 61 = .ok (.aload_n 0, 1) := by decide +kernel
theorem dX2_add_62 : decode cX2_add 62 = .ok (.dup, 1) := by decide +kernel
theorem dX2_add_63 : decode cX2_add 63 = .ok (.getfield 21, 3) := by decide +kernel
theorem dX2_add_66 : decode cX2_add 66 = .ok (.iconst 1, 1) := by decide +kernel
theorem dX2_add_67 : decode cX2_add 67 = .ok (.iadd, 1) := by decide +kernel
theorem dX2_add_68 : decode cX2_add 68 = .ok (.putfield 21, 3) := by decide +kernel
theorem dX2_add_71 : decode cX2_add 71 = .ok (.return_, 1) := by decide +kernel
theorem dX2_at_0 : decode cX2_at 0 = .ok (.iload_n 1, 1) := by decide +kernel
theorem dX2_at_1 : decode cX2_at 1 = .ok (.ifCond .lt 20, 3) := by decide +kernel
theorem dX2_at_4 : decode cX2_at 4 = .ok (.iload_n 1, 1) := by decide +kernel
theorem dX2_at_5 : decode cX2_at 5 = .ok (.aload_n 0, 1) := by decide +kernel
theorem dX2_at_6 : decode cX2_at 6 = .ok (.getfield 21, 3) := by decide +kernel
theorem dX2_at_9 : decode cX2_at 9 = .ok (.if_icmp .ge 12, 3) := by decide +kernel
theorem dX2_at_12 : decode cX2_at 12 = .ok (.iload_n 1, 1) := by decide +kernel
theorem dX2_at_13 : decode cX2_at 13 = .ok (.aload_n 0, 1) := by decide +kernel
theorem dX2_at_14 : decode cX2_at 14 = .ok (.getfield 13, 3) := by decide +kernel
theorem dX2_at_17 : decode cX2_at 17 = .ok (.arraylength, 1) := by decide +kernel
theorem dX2_at_18 : decode cX2_at 18 = .ok (.if_icmp .lt 7, 3) := by decide +kernel
theorem dX2_at_21 : decode cX2_at 21 = .ok (.aconst_null, 1) := by decide +kernel
theorem dX2_at_22 : decode cX2_at 22 = .ok (.goto 9, 3) := by decide +kernel
theorem dX2_at_25 : decode cX2_at 25 = .ok (.aload_n 0, 1) := by decide +kernel
theorem dX2_at_26 : decode cX2_at 26 = .ok (.getfield 13, 3) := by decide +kernel
theorem dX2_at_29 : decode cX2_at 29 = .ok (.iload_n 1, 1) := by decide +kernel
theorem dX2_at_30 : decode cX2_at 30 = .ok (.aaload, 1) := by decide +kernel
theorem dX2_at_31 : decode cX2_at 31 = .ok (.areturn, 1) := by decide +kernel
theorem dX2_isWhole_0 : decode cX2_isWhole 0 = .ok (.iconst 1, 1) := by decide +kernel
theorem dX2_isWhole_1 : decode cX2_isWhole 1 = .ok (.istore_n 1, 1) := by decide +kernel
theorem dX2_isWhole_2 : decode cX2_isWhole 2 = .ok (.iconst 0, 1) := by decide +kernel
theorem dX2_isWhole_3 : decode cX2_isWhole 3 = .ok (.istore_n 2, 1) := by decide +kernel
theorem dX2_isWhole_4 : decode cX2_isWhole 4 = .ok (.iload_n 2, 1) := by decide +kernel
theorem dX2_isWhole_5 : decode cX2_isWhole 5 = .ok (.aload_n 0, 1) := by decide +kernel
theorem dX2_isWhole_6 : decode cX2_isWhole 6 = .ok (.getfield 21, 3) := by decide +kernel
theorem dX2_isWhole_9 : decode cX2_isWhole 9 = .ok (.if_icmp .ge 38, 3) := by decide +kernel
theorem dX2_isWhole_12 : decode cX2_isWhole 12 = .ok (.aload_n 0, 1) := by decide +kernel
theorem dX2_isWhole_13 : decode cX2_isWhole 13 = .ok (.iload_n 2, 1) := by decide +kernel
theorem dX2_isWhole_14 : decode cX2_isWhole 14 = .ok (.invokevirtual 31, 3) := by decide +kernel
theorem dX2_isWhole_17 : decode cX2_isWhole 17 = .ok (.astore_n 3, 1) := by decide +kernel
theorem dX2_isWhole_18 : decode cX2_isWhole 18 = .ok (.aload_n 3, 1) := by decide +kernel
theorem dX2_isWhole_19 : decode cX2_isWhole 19 = .ok (.ifnull 15, 3) := by decide +kernel
theorem dX2_isWhole_22 : decode cX2_isWhole 22 = .ok (.aload_n 3, 1) := by decide +kernel
theorem dX2_isWhole_23 : decode cX2_isWhole 23 = .ok (.getfield 35, 3) := by decide +kernel
theorem dX2_isWhole_26 : decode cX2_isWhole 26 = .ok (.aload_n 3, 1) := by decide +kernel
theorem dX2_isWhole_27 : decode cX2_isWhole 27 = .ok (.iload_n 1, 1) := by decide +kernel
theorem dX2_isWhole_28 : decode cX2_isWhole 28 = .ok (.invokevirtual 38, 3) := by decide +kernel
theorem dX2_isWhole_31 : decode cX2_isWhole 31 = .ok (.if_icmp .eq 5, 3) := by decide +kernel
theorem dX2_isWhole_34 : decode cX2_isWhole 34 = .ok (.iconst 0, 1) := by decide +kernel
theorem dX2_isWhole_35 : decode cX2_isWhole 35 = .ok (.ireturn, 1) := by decide +kernel
theorem dX2_isWhole_36 : decode cX2_isWhole 36 = .ok (.aload_n 3, 1) := by decide +kernel
theorem dX2_isWhole_37 : decode cX2_isWhole 37 = .ok (.getfield 35, 3) := by decide +kernel
theorem dX2_isWhole_40 : decode cX2_isWhole 40 = .ok (.istore_n 1, 1) := by decide +kernel
theorem dX2_isWhole_41 : decode cX2_isWhole 41 = .ok (.iinc 2 1, 3) := by decide +kernel
theorem dX2_isWhole_44 : decode cX2_isWhole 44 = .ok (.goto (-40), 3) := by decide +kernel
theorem dX2_isWhole_47 : decode cX2_isWhole 47 = .ok (.iconst 1, 1) := by decide +kernel
theorem dX2_isWhole_48 : decode cX2_isWhole 48 = .ok (.ireturn, 1) := by decide +kernel
theorem dX3_init_0 : decode cX3_init 0 = .ok (.aload_n 0, 1) := by decide +kernel
theorem dX3_init_1 : decode cX3_init 1 = .ok (.invokespecial 1, 3) := by decide +kernel
theorem dX3_init_4 : decode cX3_init 4 = .ok (.aload_n 0, 1) := by decide +kernel
theorem dX3_init_5 : decode cX3_init 5 = .ok (.iload_n 1, 1) := by decide +kernel
theorem dX3_init_6 : decode cX3_init 6 = .ok (.putfield 7, 3) := by decide +kernel
theorem dX3_init_9 : decode cX3_init 9 = .ok (.aload_n 0, 1) := by decide +kernel
theorem dX3_init_10 : decode cX3_init 10 = .ok (.iload_n 2, 1) := by decide +kernel
theorem dX3_init_11 : decode cX3_init 11 = .ok (.putfield 13, 3) := by decide +kernel
theorem dX3_init_14 : decode cX3_init 14 = .ok (.aload_n 0, 1) := by decide +kernel
theorem dX3_init_15 : decode cX3_init 15 = .ok (.iload_n 3, 1) := by decide +kernel
theorem dX3_init_16 : decode cX3_init 16 = .ok (.putfield 16, 3) := by decide +kernel
theorem dX3_init_19 : decode cX3_init 19 = .ok (.aload_n 0, 1) := by decide +kernel
theorem dX3_init_20 : decode cX3_init 20 = .ok (.lload 4, 2) := by decide +kernel
theorem dX3_init_22 : decode cX3_init 22 = .ok (.putfield 19, 3) := by decide +kernel
theorem dX3_init_25 : decode cX3_init 25 = .ok (.aload_n 0, 1) := by decide +kernel
theorem dX3_init_26 : decode cX3_init 26 = .ok (.iload 6, 2) := by decide +kernel
theorem dX3_init_28 : decode cX3_init 28 = .ok (.putfield 23, 3) := by decide +kernel
theorem dX3_init_31 : decode cX3_init 31 = .ok (.return_, 1) := by decide +kernel
theorem dX3_linkBehind_0 : decode cX3_linkBehind 0 = .ok (.iload_n 1, 1) := by decide +kernel
theorem dX3_linkBehind_1 : decode cX3_linkBehind 1 = .ok (.aload_n 0, 1) := by decide +kernel
theorem dX3_linkBehind_2 : decode cX3_linkBehind 2 = .ok (.getfield 7, 3) := by decide +kernel
theorem dX3_linkBehind_5 : decode cX3_linkBehind 5 = .ok (.aload_n 0, 1) := by decide +kernel
theorem dX3_linkBehind_6 : decode cX3_linkBehind 6 = .ok (.getfield 13, 3) := by decide +kernel
theorem dX3_linkBehind_9 : decode cX3_linkBehind 9 = .ok (.aload_n 0, 1) := by decide +kernel
theorem dX3_linkBehind_10 : decode cX3_linkBehind 10 = .ok (.getfield 16, 3) := by decide +kernel
theorem dX3_linkBehind_13 : decode cX3_linkBehind 13 = .ok (.aload_n 0, 1) := by decide +kernel
theorem dX3_linkBehind_14 : decode cX3_linkBehind 14 = .ok (.getfield 19, 3) := by decide +kernel
theorem dX3_linkBehind_17 : decode cX3_linkBehind 17 = .ok (.invokestatic 26, 3) := by decide +kernel
theorem dX3_linkBehind_20 : decode cX3_linkBehind 20 = .ok (.ireturn, 1) := by decide +kernel
theorem dX3_linkOf_0 : decode cX3_linkOf 0 = .ok (.ldc2_w 30, 3) := by decide +kernel
theorem dX3_linkOf_3 : decode cX3_linkOf 3 = .ok (.iload_n 0, 1) := by decide +kernel
theorem dX3_linkOf_4 : decode cX3_linkOf 4 = .ok (.i2l, 1) := by decide +kernel
theorem dX3_linkOf_5 : decode cX3_linkOf 5 = .ok (.lmul, 1) := by decide +kernel
theorem dX3_linkOf_6 : decode cX3_linkOf 6 = .ok (.ldc2_w 32, 3) := by decide +kernel
theorem dX3_linkOf_9 : decode cX3_linkOf 9 = .ok (.iload_n 1, 1) := by decide +kernel
theorem dX3_linkOf_10 : decode cX3_linkOf 10 = .ok (.i2l, 1) := by decide +kernel
theorem dX3_linkOf_11 : decode cX3_linkOf 11 = .ok (.lmul, 1) := by decide +kernel
theorem dX3_linkOf_12 : decode cX3_linkOf 12 = .ok (.ladd, 1) := by decide +kernel
theorem dX3_linkOf_13 : decode cX3_linkOf 13 = .ok (.ldc2_w 34, 3) := by decide +kernel
theorem dX3_linkOf_16 : decode cX3_linkOf 16 = .ok (.iload_n 2, 1) := by decide +kernel
theorem dX3_linkOf_17 : decode cX3_linkOf 17 = .ok (.i2l, 1) := by decide +kernel
theorem dX3_linkOf_18 : decode cX3_linkOf 18 = .ok (.lmul, 1) := by decide +kernel
theorem dX3_linkOf_19 : decode cX3_linkOf 19 = .ok (.ladd, 1) := by decide +kernel
theorem dX3_linkOf_20 : decode cX3_linkOf 20 = .ok (.ldc2_w 36, 3) := by decide +kernel
theorem dX3_linkOf_23 : decode cX3_linkOf 23 = .ok (.iload_n 3, 1) := by decide +kernel
theorem dX3_linkOf_24 : decode cX3_linkOf 24 = .ok (.iconst 1, 1) := by decide +kernel
theorem dX3_linkOf_25 : decode cX3_linkOf 25 = .ok (.iadd, 1) := by decide +kernel
theorem dX3_linkOf_26 : decode cX3_linkOf 26 = .ok (.i2l, 1) := by decide +kernel
theorem dX3_linkOf_27 : decode cX3_linkOf 27 = .ok (.lmul, 1) := by decide +kernel
theorem dX3_linkOf_28 : decode cX3_linkOf 28 = .ok (.ladd, 1) := by decide +kernel
theorem dX3_linkOf_29 : decode cX3_linkOf 29 = .ok (.lload 4, 2) := by decide +kernel
theorem dX3_linkOf_31 : decode cX3_linkOf 31 = .ok (.ladd, 1) := by decide +kernel
theorem dX3_linkOf_32 : decode cX3_linkOf 32 = .ok (.ldc2_w 38, 3) := by decide +kernel
theorem dX3_linkOf_35 : decode cX3_linkOf 35 = .ok (.lrem, 1) := by decide +kernel
theorem dX3_linkOf_36 : decode cX3_linkOf 36 = .ok (.l2i, 1) := by decide +kernel
theorem dX3_linkOf_37 : decode cX3_linkOf 37 = .ok (.ireturn, 1) := by decide +kernel
theorem dX4_init_0 : decode cX4_init 0 = .ok (.aload_n 0, 1) := by decide +kernel
theorem dX4_init_1 : decode cX4_init 1 = .ok (.invokespecial 1, 3) := by decide +kernel
theorem dX4_init_4 : decode cX4_init 4 = .ok (.return_, 1) := by decide +kernel
theorem dX4_endOf_0 : decode cX4_endOf 0 = .ok (.lload_n 2, 1) := by decide +kernel
theorem dX4_endOf_1 : decode cX4_endOf 1 = .ok (.lconst 0, 1) := by decide +kernel
theorem dX4_endOf_2 : decode cX4_endOf 2 = .ok (.lcmp, 1) := by decide +kernel
theorem dX4_endOf_3 : decode cX4_endOf 3 = .ok (.ifCond .gt 7, 3) := by decide +kernel
theorem dX4_endOf_6 : decode cX4_endOf 6 = .ok (.lconst 0, 1) := by decide +kernel
theorem dX4_endOf_7 : decode cX4_endOf 7 = .ok (.goto 12, 3) := by decide +kernel
theorem dX4_endOf_10 : decode cX4_endOf 10 = .ok (.lload_n 0, 1) := by decide +kernel
theorem dX4_endOf_11 : decode cX4_endOf 11 = .ok (.lload_n 2, 1) := by decide +kernel
theorem dX4_endOf_12 : decode cX4_endOf 12 = .ok (.ldiv, 1) := by decide +kernel
theorem dX4_endOf_13 : decode cX4_endOf 13 = .ok (.lconst 1, 1) := by decide +kernel
theorem dX4_endOf_14 : decode cX4_endOf 14 = .ok (.ladd, 1) := by decide +kernel
theorem dX4_endOf_15 : decode cX4_endOf 15 = .ok (.ldc2_w 7, 3) := by decide +kernel
theorem dX4_endOf_18 : decode cX4_endOf 18 = .ok (.lmul, 1) := by decide +kernel
theorem dX4_endOf_19 : decode cX4_endOf 19 = .ok (.lreturn, 1) := by decide +kernel
theorem dX4_begin_0 : decode cX4_begin 0 = .ok (.aload_n 0, 1) := by decide +kernel
theorem dX4_begin_1 : decode cX4_begin 1 = .ok (.aload_n 1, 1) := by decide +kernel
theorem dX4_begin_2 : decode cX4_begin 2 = .ok (.putfield 9, 3) := by decide +kernel
theorem dX4_begin_5 : decode cX4_begin 5 = .ok (.aload_n 0, 1) := by decide +kernel
theorem dX4_begin_6 : decode cX4_begin 6 = .ok (.lload_n 2, 1) := by decide +kernel
theorem dX4_begin_7 : decode cX4_begin 7 = .ok (.putfield 15, 3) := by decide +kernel
theorem dX4_begin_10 : decode cX4_begin 10 = .ok (.aload_n 0, 1) := by decide +kernel
theorem dX4_begin_11 : decode cX4_begin 11 = .ok (.lload 4, 2) := by decide +kernel
theorem dX4_begin_13 : decode cX4_begin 13 = .ok (.putfield 19, 3) := by decide +kernel
theorem dX4_begin_16 : decode cX4_begin 16 = .ok (.aload_n 0, 1) := by decide +kernel
theorem dX4_begin_17 : decode cX4_begin 17 = .ok (.lload 6, 2) := by decide +kernel
theorem dX4_begin_19 : decode cX4_begin 19 = .ok (.putfield 22, 3) := by decide +kernel
theorem dX4_begin_22 : decode cX4_begin 22 = .ok (.aload_n 0, 1) := by decide +kernel
theorem dX4_begin_23 : decode cX4_begin 23 = .ok (.lconst 0, 1) := by decide +kernel
theorem dX4_begin_24 : decode cX4_begin 24 = .ok (.putfield 25, 3) := by decide +kernel
theorem dX4_begin_27 : decode cX4_begin 27 = .ok (.aload_n 0, 1) := by decide +kernel
theorem dX4_begin_28 : decode cX4_begin 28 = .ok (.iconst 0, 1) := by decide +kernel
theorem dX4_begin_29 : decode cX4_begin 29 = .ok (.putfield 28, 3) := by decide +kernel
theorem dX4_begin_32 : decode cX4_begin 32 = .ok (.return_, 1) := by decide +kernel
theorem dX4_priceAt_0 : decode cX4_priceAt 0 = .ok (.aload_n 0, 1) := by decide +kernel
theorem dX4_priceAt_1 : decode cX4_priceAt 1 = .ok (.getfield 15, 3) := by decide +kernel
theorem dX4_priceAt_4 : decode cX4_priceAt 4 = .ok (.aload_n 0, 1) := by decide +kernel
theorem dX4_priceAt_5 : decode cX4_priceAt 5 = .ok (.getfield 19, 3) := by decide +kernel
theorem dX4_priceAt_8 : decode cX4_priceAt 8 = .ok (.lload_n 1, 1) := by decide +kernel
theorem dX4_priceAt_9 : decode cX4_priceAt 9 = .ok (.ldc2_w 7, 3) := by decide +kernel
theorem dX4_priceAt_12 : decode cX4_priceAt 12 = .ok (.ldiv, 1) := by decide +kernel
theorem dX4_priceAt_13 : decode cX4_priceAt 13 = .ok (.lmul, 1) := by decide +kernel
theorem dX4_priceAt_14 : decode cX4_priceAt 14 = .ok (.lsub, 1) := by decide +kernel
theorem dX4_priceAt_15 : decode cX4_priceAt 15 = .ok (.lreturn, 1) := by decide +kernel
theorem dX4_goOn_0 : decode cX4_goOn 0 = .ok (.aload_n 0, 1) := by decide +kernel
theorem dX4_goOn_1 : decode cX4_goOn 1 = .ok (.aload_n 0, 1) := by decide +kernel
theorem dX4_goOn_2 : decode cX4_goOn 2 = .ok (.getfield 25, 3) := by decide +kernel
theorem dX4_goOn_5 : decode cX4_goOn 5 = .ok (.lload_n 1, 1) := by decide +kernel
theorem dX4_goOn_6 : decode cX4_goOn 6 = .ok (.ladd, 1) := by decide +kernel
theorem dX4_goOn_7 : decode cX4_goOn 7 = .ok (.aload_n 0, 1) := by decide +kernel
theorem dX4_goOn_8 : decode cX4_goOn 8 = .ok (.getfield 22, 3) := by decide +kernel
theorem dX4_goOn_11 : decode cX4_goOn 11 = .ok (.invokestatic 32, 3) := by decide +kernel
theorem dX4_goOn_14 : decode cX4_goOn 14 = .ok (.putfield 25, 3) := by decide +kernel
theorem dX4_goOn_17 : decode cX4_goOn 17 = .ok (.return_, 1) := by decide +kernel
theorem dX4_goBackTo_0 : decode cX4_goBackTo 0 = .ok (.aload_n 0, 1) := by decide +kernel
theorem dX4_goBackTo_1 : decode cX4_goBackTo 1 = .ok (.lload_n 1, 1) := by decide +kernel
theorem dX4_goBackTo_2 : decode cX4_goBackTo 2 = .ok (.ldc2_w 7, 3) := by decide +kernel
theorem dX4_goBackTo_5 : decode cX4_goBackTo 5 = .ok (.ldiv, 1) := by decide +kernel
theorem dX4_goBackTo_6 : decode cX4_goBackTo 6 = .ok (.ldc2_w 7, 3) := by decide +kernel
theorem dX4_goBackTo_9 : decode cX4_goBackTo 9 = .ok (.lmul, 1) := by decide +kernel
theorem dX4_goBackTo_10 : decode cX4_goBackTo 10 = .ok (.putfield 25, 3) := by decide +kernel
theorem dX4_goBackTo_13 : decode cX4_goBackTo 13 = .ok (.return_, 1) := by decide +kernel
theorem dX5_init_0 : decode cX5_init 0 = .ok (.aload_n 0, 1) := by decide +kernel
theorem dX5_init_1 : decode cX5_init 1 = .ok (.invokespecial 3, 3) := by decide +kernel
theorem dX5_init_4 : decode cX5_init 4 = .ok (.aload_n 0, 1) := by decide +kernel
theorem dX5_init_5 : decode cX5_init 5 = .ok (.iload_n 1, 1) := by decide +kernel
theorem dX5_init_6 : decode cX5_init 6 = .ok (.putfield 9, 3) := by decide +kernel
theorem dX5_init_9 : decode cX5_init 9 = .ok (.aload_n 0, 1) := by decide +kernel
theorem dX5_init_10 : decode cX5_init 10 = .ok (.iload_n 2, 1) := by decide +kernel
theorem dX5_init_11 : decode cX5_init 11 = .ok (.putfield 15, 3) := by decide +kernel
theorem dX5_init_14 : decode cX5_init 14 = .ok (.aload_n 0, 1) := by decide +kernel
theorem dX5_init_15 : decode cX5_init 15 = .ok (.lload_n 3, 1) := by decide +kernel
theorem dX5_init_16 : decode cX5_init 16 = .ok (.putfield 18, 3) := by decide +kernel
theorem dX5_init_19 : decode cX5_init 19 = .ok (.aload_n 0, 1) := by decide +kernel
theorem dX5_init_20 : decode cX5_init 20 = .ok (.lload 5, 2) := by decide +kernel
theorem dX5_init_22 : decode cX5_init 22 = .ok (.putfield 22, 3) := by decide +kernel
theorem dX5_init_25 : decode cX5_init 25 = .ok (.aload_n 0, 1) := by decide +kernel
theorem dX5_init_26 : decode cX5_init 26 = .ok (.getstatic 25, 3) := by decide +kernel
theorem dX5_init_29 : decode cX5_init 29 = .ok (.putfield 31, 3) := by decide +kernel
theorem dX5_init_32 : decode cX5_init 32 = .ok (.aload_n 0, 1) := by decide +kernel
theorem dX5_init_33 : decode cX5_init 33 = .ok (.iconst (-1), 1) := by decide +kernel
theorem dX5_init_34 : decode cX5_init 34 = .ok (.putfield 34, 3) := by decide +kernel
theorem dX5_init_37 : decode cX5_init 37 = .ok (.return_, 1) := by decide +kernel
theorem dX5_hasTaker_0 : decode cX5_hasTaker 0 = .ok (.aload_n 0, 1) := by decide +kernel
theorem dX5_hasTaker_1 : decode cX5_hasTaker 1 = .ok (.getfield 31, 3) := by decide +kernel
theorem dX5_hasTaker_4 : decode cX5_hasTaker 4 = .ok (.getstatic 37, 3) := by decide +kernel
theorem dX5_hasTaker_7 : decode cX5_hasTaker 7 = .ok (.if_acmp .eq 13, 3) := by decide +kernel
theorem dX5_hasTaker_10 : decode cX5_hasTaker 10 = .ok (.aload_n 0, 1) := by decide +kernel
theorem dX5_hasTaker_11 : decode cX5_hasTaker 11 = .ok (.getfield 31, 3) := by decide +kernel
theorem dX5_hasTaker_14 : decode cX5_hasTaker 14 = .ok (.getstatic 40, 3) := by decide +kernel
theorem dX5_hasTaker_17 : decode cX5_hasTaker 17 = .ok (.if_acmp .ne 7, 3) := by decide +kernel
theorem dX5_hasTaker_20 : decode cX5_hasTaker 20 = .ok (.iconst 1, 1) := by decide +kernel
theorem dX5_hasTaker_21 : decode cX5_hasTaker 21 = .ok (.goto 4, 3) := by decide +kernel
theorem dX5_hasTaker_24 : decode cX5_hasTaker 24 = .ok (.iconst 0, 1) := by decide +kernel
theorem dX5_hasTaker_25 : decode cX5_hasTaker 25 = .ok (.ireturn, 1) := by decide +kernel
theorem dX5_canGoBack_0 : decode cX5_canGoBack 0 = .ok (.aload_n 0, 1) := by decide +kernel
theorem dX5_canGoBack_1 : decode cX5_canGoBack 1 = .ok (.getfield 31, 3) := by decide +kernel
theorem dX5_canGoBack_4 : decode cX5_canGoBack 4 = .ok (.getstatic 25, 3) := by decide +kernel
theorem dX5_canGoBack_7 : decode cX5_canGoBack 7 = .ok (.if_acmp .eq 23, 3) := by decide +kernel
theorem dX5_canGoBack_10 : decode cX5_canGoBack 10 = .ok (.aload_n 0, 1) := by decide +kernel
theorem dX5_canGoBack_11 : decode cX5_canGoBack 11 = .ok (.getfield 31, 3) := by decide +kernel
theorem dX5_canGoBack_14 : decode cX5_canGoBack 14 = .ok (.getstatic 40, 3) := by decide +kernel
theorem dX5_canGoBack_17 : decode cX5_canGoBack 17 = .ok (.if_acmp .eq 13, 3) := by decide +kernel
theorem dX5_canGoBack_20 : decode cX5_canGoBack 20 = .ok (.aload_n 0, 1) := by decide +kernel
theorem dX5_canGoBack_21 : decode cX5_canGoBack 21 = .ok (.getfield 31, 3) := by decide +kernel
theorem dX5_canGoBack_24 : decode cX5_canGoBack 24 = .ok (.getstatic 43, 3) := by decide +kernel
theorem dX5_canGoBack_27 : decode cX5_canGoBack 27 = .ok (.if_acmp .ne 7, 3) := by decide +kernel
theorem dX5_canGoBack_30 : decode cX5_canGoBack 30 = .ok (.iconst 1, 1) := by decide +kernel
theorem dX5_canGoBack_31 : decode cX5_canGoBack 31 = .ok (.goto 4, 3) := by decide +kernel
theorem dX5_canGoBack_34 : decode cX5_canGoBack 34 = .ok (.iconst 0, 1) := by decide +kernel
theorem dX5_canGoBack_35 : decode cX5_canGoBack 35 = .ok (.ireturn, 1) := by decide +kernel
theorem dX5_isOpenOf_0 : decode cX5_isOpenOf 0 = .ok (.aload_n 0, 1) := by decide +kernel
theorem dX5_isOpenOf_1 : decode cX5_isOpenOf 1 = .ok (.getfield 31, 3) := by decide +kernel
theorem dX5_isOpenOf_4 : decode cX5_isOpenOf 4 = .ok (.getstatic 25, 3) := by decide +kernel
theorem dX5_isOpenOf_7 : decode cX5_isOpenOf 7 = .ok (.if_acmp .ne 15, 3) := by decide +kernel
theorem dX5_isOpenOf_10 : decode cX5_isOpenOf 10 = .ok (.aload_n 0, 1) := by decide +kernel
theorem dX5_isOpenOf_11 : decode cX5_isOpenOf 11 = .ok (.getfield 15, 3) := by decide +kernel
theorem dX5_isOpenOf_14 : decode cX5_isOpenOf 14 = .ok (.iload_n 1, 1) := by decide +kernel
theorem dX5_isOpenOf_15 : decode cX5_isOpenOf 15 = .ok (.if_icmp .ne 7, 3) := by decide +kernel
theorem dX5_isOpenOf_18 : decode cX5_isOpenOf 18 = .ok (.iconst 1, 1) := by decide +kernel
theorem dX5_isOpenOf_19 : decode cX5_isOpenOf 19 = .ok (.goto 4, 3) := by decide +kernel
theorem dX5_isOpenOf_22 : decode cX5_isOpenOf 22 = .ok (.iconst 0, 1) := by decide +kernel
theorem dX5_isOpenOf_23 : decode cX5_isOpenOf 23 = .ok (.ireturn, 1) := by decide +kernel
theorem dX5_goesBefore_0 : decode cX5_goesBefore 0 = .ok (.aload_n 0, 1) := by decide +kernel
theorem dX5_goesBefore_1 : decode cX5_goesBefore 1 = .ok (.getfield 18, 3) := by decide +kernel
theorem dX5_goesBefore_4 : decode cX5_goesBefore 4 = .ok (.aload_n 1, 1) := by decide +kernel
theorem dX5_goesBefore_5 : decode cX5_goesBefore 5 = .ok (.getfield 18, 3) := by decide +kernel
theorem dX5_goesBefore_8 : decode cX5_goesBefore 8 = .ok (.lcmp, 1) := by decide +kernel
theorem dX5_goesBefore_9 : decode cX5_goesBefore 9 = .ok (.ifCond .gt 26, 3) := by decide +kernel
theorem dX5_goesBefore_12 : decode cX5_goesBefore 12 = .ok (.aload_n 0, 1) := by decide +kernel
theorem dX5_goesBefore_13 : decode cX5_goesBefore 13 = .ok (.getfield 18, 3) := by decide +kernel
theorem dX5_goesBefore_16 : decode cX5_goesBefore 16 = .ok (.aload_n 1, 1) := by decide +kernel
theorem dX5_goesBefore_17 : decode cX5_goesBefore 17 = .ok (.getfield 18, 3) := by decide +kernel
theorem dX5_goesBefore_20 : decode cX5_goesBefore 20 = .ok (.lcmp, 1) := by decide +kernel
theorem dX5_goesBefore_21 : decode cX5_goesBefore 21 = .ok (.ifCond .ne 18, 3) := by decide +kernel
theorem dX5_goesBefore_24 : decode cX5_goesBefore 24 = .ok (.aload_n 0, 1) := by decide +kernel
theorem dX5_goesBefore_25 : decode cX5_goesBefore 25 = .ok (.getfield 9, 3) := by decide +kernel
theorem dX5_goesBefore_28 : decode cX5_goesBefore 28 = .ok (.aload_n 1, 1) := by decide +kernel
theorem dX5_goesBefore_29 : decode cX5_goesBefore 29 = .ok (.getfield 9, 3) := by decide +kernel
theorem dX5_goesBefore_32 : decode cX5_goesBefore 32 = .ok (.if_icmp .ge 7, 3) := by decide +kernel
theorem dX5_goesBefore_35 : decode cX5_goesBefore 35 = .ok (.iconst 1, 1) := by decide +kernel
theorem dX5_goesBefore_36 : decode cX5_goesBefore 36 = .ok (.goto 4, 3) := by decide +kernel
theorem dX5_goesBefore_39 : decode cX5_goesBefore 39 = .ok (.iconst 0, 1) := by decide +kernel
theorem dX5_goesBefore_40 : decode cX5_goesBefore 40 = .ok (.ireturn, 1) := by decide +kernel
theorem dX5_isTiedWith_0 : decode cX5_isTiedWith 0 = .ok (.iload_n 1, 1) := by decide +kernel
theorem dX5_isTiedWith_1 : decode cX5_isTiedWith 1 = .ok (.ifCond .lt 24, 3) := by decide +kernel
theorem dX5_isTiedWith_4 : decode cX5_isTiedWith 4 = .ok (.iload_n 1, 1) := by decide +kernel
theorem dX5_isTiedWith_5 : decode cX5_isTiedWith 5 = .ok (.bipush 30, 2) := by decide +kernel
theorem dX5_isTiedWith_7 : decode cX5_isTiedWith 7 = .ok (.if_icmp .ge 18, 3) := by decide +kernel
theorem dX5_isTiedWith_10 : decode cX5_isTiedWith 10 = .ok (.aload_n 0, 1) := by decide +kernel
theorem dX5_isTiedWith_11 : decode cX5_isTiedWith 11 = .ok (.getfield 46, 3) := by decide +kernel
theorem dX5_isTiedWith_14 : decode cX5_isTiedWith 14 = .ok (.iload_n 1, 1) := by decide +kernel
theorem dX5_isTiedWith_15 : decode cX5_isTiedWith 15 = .ok (.iushr, 1) := by decide +kernel
theorem dX5_isTiedWith_16 : decode cX5_isTiedWith 16 = .ok (.iconst 1, 1) := by decide +kernel
theorem dX5_isTiedWith_17 : decode cX5_isTiedWith 17 = .ok (.iand, 1) := by decide +kernel
theorem dX5_isTiedWith_18 : decode cX5_isTiedWith 18 = .ok (.ifCond .eq 7, 3) := by decide +kernel
theorem dX5_isTiedWith_21 : decode cX5_isTiedWith 21 = .ok (.iconst 1, 1) := by decide +kernel
theorem dX5_isTiedWith_22 : decode cX5_isTiedWith 22 = .ok (.goto 4, 3) := by decide +kernel
theorem dX5_isTiedWith_25 : decode cX5_isTiedWith 25 = .ok (.iconst 0, 1) := by decide +kernel
theorem dX5_isTiedWith_26 : decode cX5_isTiedWith 26 = .ok (.ireturn, 1) := by decide +kernel
theorem dX5_leastOffer_0 : decode cX5_leastOffer 0 = .ok (.aload_n 0, 1) := by decide +kernel
theorem dX5_leastOffer_1 : decode cX5_leastOffer 1 = .ok (.getfield 31, 3) := by decide +kernel
theorem dX5_leastOffer_4 : decode cX5_leastOffer 4 = .ok (.getstatic 40, 3) := by decide +kernel
theorem dX5_leastOffer_7 : decode cX5_leastOffer 7 = .ok (.if_acmp .ne 23, 3) := by decide +kernel
theorem dX5_leastOffer_10 : decode cX5_leastOffer 10 = .ok (.aload_n 0, 1) := by decide +kernel
theorem dX5_leastOffer_11 : decode cX5_leastOffer 11 = .ok (.getfield 49, 3) := by decide +kernel
theorem dX5_leastOffer_14 : decode cX5_leastOffer 14 = .ok (.lconst 1, 1) := by decide +kernel
theorem dX5_leastOffer_15 : decode cX5_leastOffer 15 = .ok (.aload_n 0, 1) := by decide +kernel
theorem dX5_leastOffer_16 : decode cX5_leastOffer 16 = .ok (.getfield 49, 3) := by decide +kernel
theorem dX5_leastOffer_19 : decode cX5_leastOffer 19 = .ok (.ldc2_w 52, 3) := by decide +kernel
theorem dX5_leastOffer_22 : decode cX5_leastOffer 22 = .ok (.ldiv, 1) := by decide +kernel
theorem dX5_leastOffer_23 : decode cX5_leastOffer 23 = .ok (.invokestatic 54, 3) := by decide +kernel
theorem dX5_leastOffer_26 : decode cX5_leastOffer 26 = .ok (.ladd, 1) := by decide +kernel
theorem dX5_leastOffer_27 : decode cX5_leastOffer 27 = .ok (.goto 7, 3) := by decide +kernel
theorem dX5_leastOffer_30 : decode cX5_leastOffer 30 = .ok (.aload_n 0, 1) := by decide +kernel
theorem dX5_leastOffer_31 : decode cX5_leastOffer 31 = .ok (.getfield 22, 3) := by decide +kernel
theorem dX5_leastOffer_34 : decode cX5_leastOffer 34 = .ok (.lreturn, 1) := by decide +kernel
theorem dX5_offerOf_0 : decode cX5_offerOf 0 = .ok (.aload_n 0, 1) := by decide +kernel
theorem dX5_offerOf_1 : decode cX5_offerOf 1 = .ok (.getfield 31, 3) := by decide +kernel
theorem dX5_offerOf_4 : decode cX5_offerOf 4 = .ok (.getstatic 40, 3) := by decide +kernel
theorem dX5_offerOf_7 : decode cX5_offerOf 7 = .ok (.if_acmp .ne 18, 3) := by decide +kernel
theorem dX5_offerOf_10 : decode cX5_offerOf 10 = .ok (.aload_n 0, 1) := by decide +kernel
theorem dX5_offerOf_11 : decode cX5_offerOf 11 = .ok (.getfield 34, 3) := by decide +kernel
theorem dX5_offerOf_14 : decode cX5_offerOf 14 = .ok (.iload_n 1, 1) := by decide +kernel
theorem dX5_offerOf_15 : decode cX5_offerOf 15 = .ok (.if_icmp .ne 10, 3) := by decide +kernel
theorem dX5_offerOf_18 : decode cX5_offerOf 18 = .ok (.aload_n 0, 1) := by decide +kernel
theorem dX5_offerOf_19 : decode cX5_offerOf 19 = .ok (.getfield 49, 3) := by decide +kernel
theorem dX5_offerOf_22 : decode cX5_offerOf 22 = .ok (.goto 4, 3) := by decide +kernel
theorem dX5_offerOf_25 : decode cX5_offerOf 25 = .ok (.lconst 0, 1) := by decide +kernel
theorem dX5_offerOf_26 : decode cX5_offerOf 26 = .ok (.lreturn, 1) := by decide +kernel
theorem dX5_sellTo_0 : decode cX5_sellTo 0 = .ok (.aload_n 0, 1) := by decide +kernel
theorem dX5_sellTo_1 : decode cX5_sellTo 1 = .ok (.getstatic 37, 3) := by decide +kernel
theorem dX5_sellTo_4 : decode cX5_sellTo 4 = .ok (.putfield 31, 3) := by decide +kernel
theorem dX5_sellTo_7 : decode cX5_sellTo 7 = .ok (.aload_n 0, 1) := by decide +kernel
theorem dX5_sellTo_8 : decode cX5_sellTo 8 = .ok (.iload_n 1, 1) := by decide +kernel
theorem dX5_sellTo_9 : decode cX5_sellTo 9 = .ok (.putfield 34, 3) := by decide +kernel
theorem dX5_sellTo_12 : decode cX5_sellTo 12 = .ok (.aload_n 0, 1) := by decide +kernel
theorem dX5_sellTo_13 : decode cX5_sellTo 13 = .ok (.lload_n 2, 1) := by decide +kernel
theorem dX5_sellTo_14 : decode cX5_sellTo 14 = .ok (.putfield 49, 3) := by decide +kernel
theorem dX5_sellTo_17 : decode cX5_sellTo 17 = .ok (.return_, 1) := by decide +kernel
theorem dX6_init_0 : decode cX6_init 0 = .ok (.aload_n 0, 1) := by decide +kernel
theorem dX6_init_1 : decode cX6_init 1 = .ok (.invokespecial 3, 3) := by decide +kernel
theorem dX6_init_4 : decode cX6_init 4 = .ok (.aload_n 0, 1) := by decide +kernel
theorem dX6_init_5 : decode cX6_init 5 = .ok (.bipush 18, 2) := by decide +kernel
theorem dX6_init_7 : decode cX6_init 7 = .ok (.anewarray 9, 3) := by decide +kernel
theorem dX6_init_10 : decode cX6_init 10 = .ok (.putfield 11, 3) := by decide +kernel
theorem dX6_init_13 : decode cX6_init 13 = .ok (.aload_n 0, 1) := by decide +kernel
theorem dX6_init_14 : decode cX6_init 14 = .ok (.bipush 19, 2) := by decide +kernel
theorem dX6_init_16 : decode cX6_init 16 = .ok (.newarray .long, 2) := by decide +kernel
theorem dX6_init_18 : decode cX6_init 18 = .ok (.putfield 17, 3) := by decide +kernel
theorem dX6_init_21 : decode cX6_init 21 = .ok (.aload_n 0, 1) := by decide +kernel
theorem dX6_init_22 : decode cX6_init 22 = .ok (.bipush 30, 2) := by decide +kernel
theorem dX6_init_24 : decode cX6_init 24 = .ok (.newarray .long, 2) := by decide +kernel
theorem dX6_init_26 : decode cX6_init 26 = .ok (.putfield 21, 3) := by decide +kernel
theorem dX6_init_29 : decode cX6_init 29 = .ok (.return_, 1) := by decide +kernel
theorem dX6_clear_0 : decode cX6_clear 0 = .ok (.aload_n 0, 1) := by decide +kernel
theorem dX6_clear_1 : decode cX6_clear 1 = .ok (.iconst 0, 1) := by decide +kernel
theorem dX6_clear_2 : decode cX6_clear 2 = .ok (.putfield 24, 3) := by decide +kernel
theorem dX6_clear_5 : decode cX6_clear 5 = .ok (.aload_n 0, 1) := by decide +kernel
theorem dX6_clear_6 : decode cX6_clear 6 = .ok (.iconst 0, 1) := by decide +kernel
theorem dX6_clear_7 : decode cX6_clear 7 = .ok (.putfield 28, 3) := by decide +kernel
theorem dX6_clear_10 : decode cX6_clear 10 = .ok (.aload_n 0, 1) := by decide +kernel
theorem dX6_clear_11 : decode cX6_clear 11 = .ok (.lconst 0, 1) := by decide +kernel
theorem dX6_clear_12 : decode cX6_clear 12 = .ok (.putfield 31, 3) := by decide +kernel
theorem dX6_clear_15 : decode cX6_clear 15 = .ok (.return_, 1) := by decide +kernel
theorem dX6_setPurse_0 : decode cX6_setPurse 0 = .ok (.iload_n 1, 1) := by decide +kernel
theorem dX6_setPurse_1 : decode cX6_setPurse 1 = .ok (.ifCond .lt 19, 3) := by decide +kernel
theorem dX6_setPurse_4 : decode cX6_setPurse 4 = .ok (.iload_n 1, 1) := by decide +kernel
theorem dX6_setPurse_5 : decode cX6_setPurse 5 = .ok (.aload_n 0, 1) := by decide +kernel
theorem dX6_setPurse_6 : decode cX6_setPurse 6 = .ok (.getfield 21, 3) := by decide +kernel
theorem dX6_setPurse_9 : decode cX6_setPurse 9 = .ok (.arraylength, 1) := by decide +kernel
theorem dX6_setPurse_10 : decode cX6_setPurse 10 = .ok (.if_icmp .ge 10, 3) := by decide +kernel
theorem dX6_setPurse_13 : decode cX6_setPurse 13 = .ok (.aload_n 0, 1) := by decide +kernel
theorem dX6_setPurse_14 : decode cX6_setPurse 14 = .ok (.getfield 21, 3) := by decide +kernel
theorem dX6_setPurse_17 : decode cX6_setPurse 17 = .ok (.iload_n 1, 1) := by decide +kernel
theorem dX6_setPurse_18 : decode cX6_setPurse 18 = .ok (.lload_n 2, 1) := by decide +kernel
theorem dX6_setPurse_19 : decode cX6_setPurse 19 = .ok (.lastore, 1) := by decide +kernel
theorem dX6_setPurse_20 : decode cX6_setPurse 20 = .ok (.return_, 1) := by decide +kernel
theorem dX6_add_0 : decode cX6_add 0 = .ok (.aload_n 0, 1) := by decide +kernel
theorem dX6_add_1 : decode cX6_add 1 = .ok (.getfield 24, 3) := by decide +kernel
theorem dX6_add_4 : decode cX6_add 4 = .ok (.ifCond .lt 35, 3) := by decide +kernel
theorem dX6_add_7 : decode cX6_add 7 = .ok (.aload_n 0, 1) := by decide +kernel
theorem dX6_add_8 : decode cX6_add 8 = .ok (.getfield 24, 3) := by decide +kernel
theorem dX6_add_11 : decode cX6_add 11 = .ok (.aload_n 0, 1) := by decide +kernel
theorem dX6_add_12 : decode cX6_add 12 = .ok (.getfield 11, 3) := by decide +kernel
theorem dX6_add_15 : decode cX6_add 15 = .ok (.arraylength, 1) := by decide +kernel
theorem dX6_add_16 : decode cX6_add 16 = .ok (.if_icmp .ge 23, 3) := by decide +kernel
theorem dX6_add_19 : decode cX6_add 19 = .ok (.aload_n 0, 1) := by decide +kernel
theorem dX6_add_20 : decode cX6_add 20 = .ok (.getfield 11, 3) := by decide +kernel
theorem dX6_add_23 : decode cX6_add 23 = .ok (.aload_n 0, 1) := by decide +kernel
theorem dX6_add_24 : decode cX6_add 24 = .ok (.getfield 24, 3) := by decide +kernel
theorem dX6_add_27 : decode cX6_add 27 = .ok (.aload_n 1, 1) := by decide +kernel
theorem dX6_add_28 : decode cX6_add 28 = .ok (.aastore, 1) := by decide +kernel
theorem dX6_add_29 : decode cX6_add 29 = .ok (.aload_n 0, 1) := by decide +kernel
theorem dX6_add_30 : decode cX6_add 30 = .ok (.dup, 1) := by decide +kernel
theorem dX6_add_31 : decode cX6_add 31 = .ok (.getfield 24, 3) := by decide +kernel
theorem dX6_add_34 : decode cX6_add 34 = .ok (.iconst 1, 1) := by decide +kernel
theorem dX6_add_35 : decode cX6_add 35 = .ok (.iadd, 1) := by decide +kernel
theorem dX6_add_36 : decode cX6_add 36 = .ok (.putfield 24, 3) := by decide +kernel
theorem dX6_add_39 : decode cX6_add 39 = .ok (.return_, 1) := by decide +kernel
theorem dX6_hasChosen_0 : decode cX6_hasChosen 0 = .ok (.iload_n 1, 1) := by decide +kernel
theorem dX6_hasChosen_1 : decode cX6_hasChosen 1 = .ok (.ifCond .lt 24, 3) := by decide +kernel
theorem dX6_hasChosen_4 : decode cX6_hasChosen 4 = .ok (.iload_n 1, 1) := by decide +kernel
theorem dX6_hasChosen_5 : decode cX6_hasChosen 5 = .ok (.bipush 18, 2) := by decide +kernel
theorem dX6_hasChosen_7 : decode cX6_hasChosen 7 = .ok (.if_icmp .ge 18, 3) := by decide +kernel
theorem dX6_hasChosen_10 : decode cX6_hasChosen 10 = .ok (.aload_n 0, 1) := by decide +kernel
theorem dX6_hasChosen_11 : decode cX6_hasChosen 11 = .ok (.getfield 28, 3) := by decide +kernel
theorem dX6_hasChosen_14 : decode cX6_hasChosen 14 = .ok (.iload_n 1, 1) := by decide +kernel
theorem dX6_hasChosen_15 : decode cX6_hasChosen 15 = .ok (.iushr, 1) := by decide +kernel
theorem dX6_hasChosen_16 : decode cX6_hasChosen 16 = .ok (.iconst 1, 1) := by decide +kernel
theorem dX6_hasChosen_17 : decode cX6_hasChosen 17 = .ok (.iand, 1) := by decide +kernel
theorem dX6_hasChosen_18 : decode cX6_hasChosen 18 = .ok (.ifCond .eq 7, 3) := by decide +kernel
theorem dX6_hasChosen_21 : decode cX6_hasChosen 21 = .ok (.iconst 1, 1) := by decide +kernel
theorem dX6_hasChosen_22 : decode cX6_hasChosen 22 = .ok (.goto 4, 3) := by decide +kernel
theorem dX6_hasChosen_25 : decode cX6_hasChosen 25 = .ok (.iconst 0, 1) := by decide +kernel
theorem dX6_hasChosen_26 : decode cX6_hasChosen 26 = .ok (.ireturn, 1) := by decide +kernel
theorem dX6_chosenCount_0 : decode cX6_chosenCount 0 = .ok (.aload_n 0, 1) := by decide +kernel
theorem dX6_chosenCount_1 : decode cX6_chosenCount 1 = .ok (.getfield 28, 3) := by decide +kernel
theorem dX6_chosenCount_4 : decode cX6_chosenCount 4 = .ok (.invokestatic 35, 3) := by decide +kernel
theorem dX6_chosenCount_7 : decode cX6_chosenCount 7 = .ok (.ireturn, 1) := by decide +kernel
theorem dX6_find_0 : decode cX6_find 0 = .ok (.aload_n 0, 1) := by decide +kernel
theorem dX6_find_1 : decode cX6_find 1 = .ok (.invokevirtual 41, 3) := by decide +kernel
theorem dX6_find_4 : decode cX6_find 4 = .ok (.aload_n 0, 1) := by decide +kernel
theorem dX6_find_5 : decode cX6_find 5 = .ok (.iconst 0, 1) := by decide +kernel
theorem dX6_find_6 : decode cX6_find 6 = .ok (.iconst 0, 1) := by decide +kernel
theorem dX6_find_7 : decode cX6_find 7 = .ok (.lconst 0, 1) := by decide +kernel
theorem dX6_find_8 : decode cX6_find 8 = .ok (.lconst 0, 1) := by decide +kernel
theorem dX6_find_9 : decode cX6_find 9 = .ok (.invokestatic 44, 3) := by decide +kernel
theorem dX6_find_12 : decode cX6_find 12 = .ok (.return_, 1) := by decide +kernel
theorem dX6_addUpRests_0 : decode cX6_addUpRests 0 = .ok (.lconst 0, 1) := by decide +kernel
theorem dX6_addUpRests_1 : decode cX6_addUpRests 1 = .ok (.lstore_n 1, 1) := by decide +kernel
theorem dX6_addUpRests_2 : decode cX6_addUpRests 2 = .ok (.aload_n 0, 1) := by decide +kernel
theorem dX6_addUpRests_3 : decode cX6_addUpRests 3 = .ok (.getfield 11, 3) := by decide +kernel
theorem dX6_addUpRests_6 : decode cX6_addUpRests 6 = .ok (.arraylength, 1) := by decide +kernel
theorem dX6_addUpRests_7 : decode cX6_addUpRests 7 = .ok (.istore_n 3, 1) := by decide +kernel
theorem dX6_addUpRests_8 : decode cX6_addUpRests 8 = .ok (.iload_n 3, 1) := by decide +kernel
theorem dX6_addUpRests_9 : decode cX6_addUpRests 9 = .ok (.ifCond .lt 63, 3) := by decide +kernel
theorem dX6_addUpRests_12 : decode cX6_addUpRests 12 = .ok (.iload_n 3, 1) := by decide +kernel
theorem dX6_addUpRests_13 : decode cX6_addUpRests 13 = .ok (.aload_n 0, 1) := by decide +kernel
theorem dX6_addUpRests_14 : decode cX6_addUpRests 14 = .ok (.getfield 24, 3) := by decide +kernel
theorem dX6_addUpRests_17 : decode cX6_addUpRests 17 = .ok (.if_icmp .ge 33, 3) := by decide +kernel
theorem dX6_addUpRests_20 : decode cX6_addUpRests 20 = .ok (.iload_n 3, 1) := by decide +kernel
theorem dX6_addUpRests_21 : decode cX6_addUpRests 21 = .ok (.aload_n 0, 1) := by decide +kernel
theorem dX6_addUpRests_22 : decode cX6_addUpRests 22 = .ok (.getfield 11, 3) := by decide +kernel
theorem dX6_addUpRests_25 : decode cX6_addUpRests 25 = .ok (.arraylength, 1) := by decide +kernel
theorem dX6_addUpRests_26 : decode cX6_addUpRests 26 = .ok (.if_icmp .ge 24, 3) := by decide +kernel
theorem dX6_addUpRests_29 : decode cX6_addUpRests 29 = .ok (.aload_n 0, 1) := by decide +kernel
theorem dX6_addUpRests_30 : decode cX6_addUpRests 30 = .ok (.getfield 11, 3) := by decide +kernel
theorem dX6_addUpRests_33 : decode cX6_addUpRests 33 = .ok (.iload_n 3, 1) := by decide +kernel
theorem dX6_addUpRests_34 : decode cX6_addUpRests 34 = .ok (.aaload, 1) := by decide +kernel
theorem dX6_addUpRests_35 : decode cX6_addUpRests 35 = .ok (.ifnull 15, 3) := by decide +kernel
theorem dX6_addUpRests_38 : decode cX6_addUpRests 38 = .ok (.lload_n 1, 1) := by decide +kernel
theorem dX6_addUpRests_39 : decode cX6_addUpRests 39 = .ok (.aload_n 0, 1) := by decide +kernel
theorem dX6_addUpRests_40 : decode cX6_addUpRests 40 = .ok (.getfield 11, 3) := by decide +kernel
theorem dX6_addUpRests_43 : decode cX6_addUpRests 43 = .ok (.iload_n 3, 1) := by decide +kernel
theorem dX6_addUpRests_44 : decode cX6_addUpRests 44 = .ok (.aaload, 1) := by decide +kernel
theorem dX6_addUpRests_45 : decode cX6_addUpRests 45 = .ok (.getfield 48, 3) := by decide +kernel
theorem dX6_addUpRests_48 : decode cX6_addUpRests 48 = .ok (.ladd, 1) := by decide +kernel
theorem dX6_addUpRests_49 : decode cX6_addUpRests 49 = .ok (.lstore_n 1, 1) := by decide +kernel
theorem dX6_addUpRests_50 : decode cX6_addUpRests 50 = .ok (.iload_n 3, 1) := by decide +kernel
theorem dX6_addUpRests_51 : decode cX6_addUpRests 51 = .ok (.aload_n 0, 1) := by decide +kernel
theorem dX6_addUpRests_52 : decode cX6_addUpRests 52 = .ok (.getfield 17, 3) := by decide +kernel
theorem dX6_addUpRests_55 : decode cX6_addUpRests 55 = .ok (.arraylength, 1) := by decide +kernel
theorem dX6_addUpRests_56 : decode cX6_addUpRests 56 = .ok (.if_icmp .ge 10, 3) := by decide +kernel
theorem dX6_addUpRests_59 : decode cX6_addUpRests 59 = .ok (.aload_n 0, 1) := by decide +kernel
theorem dX6_addUpRests_60 : decode cX6_addUpRests 60 = .ok (.getfield 17, 3) := by decide +kernel
theorem dX6_addUpRests_63 : decode cX6_addUpRests 63 = .ok (.iload_n 3, 1) := by decide +kernel
theorem dX6_addUpRests_64 : decode cX6_addUpRests 64 = .ok (.lload_n 1, 1) := by decide +kernel
theorem dX6_addUpRests_65 : decode cX6_addUpRests 65 = .ok (.lastore, 1) := by decide +kernel
theorem dX6_addUpRests_66 : decode cX6_addUpRests 66 = .ok (.iinc 3 (-1), 3) := by decide +kernel
theorem dX6_addUpRests_69 : decode cX6_addUpRests 69 = .ok (.goto (-61), 3) := by decide +kernel
theorem dX6_addUpRests_72 : decode cX6_addUpRests 72 = .ok (.return_, 1) := by decide +kernel
theorem dX6_tryFrom_0 : decode cX6_tryFrom 0 = .ok (.aload_n 0, 1) := by decide +kernel
theorem dX6_tryFrom_1 : decode cX6_tryFrom 1 = .ok (.lload 5, 2) := by decide +kernel
theorem dX6_tryFrom_3 : decode cX6_tryFrom 3 = .ok (.iload_n 2, 1) := by decide +kernel
theorem dX6_tryFrom_4 : decode cX6_tryFrom 4 = .ok (.invokevirtual 51, 3) := by decide +kernel
theorem dX6_tryFrom_7 : decode cX6_tryFrom 7 = .ok (.ifCond .eq 14, 3) := by decide +kernel
theorem dX6_tryFrom_10 : decode cX6_tryFrom 10 = .ok (.aload_n 0, 1) := by decide +kernel
theorem dX6_tryFrom_11 : decode cX6_tryFrom 11 = .ok (.lload 5, 2) := by decide +kernel
theorem dX6_tryFrom_13 : decode cX6_tryFrom 13 = .ok (.putfield 31, 3) := by decide +kernel
theorem dX6_tryFrom_16 : decode cX6_tryFrom 16 = .ok (.aload_n 0, 1) := by decide +kernel
theorem dX6_tryFrom_17 : decode cX6_tryFrom 17 = .ok (.iload_n 2, 1) := by decide +kernel
theorem dX6_tryFrom_18 : decode cX6_tryFrom 18 = .ok (.putfield 28, 3) := by decide +kernel
theorem dX6_tryFrom_21 : decode cX6_tryFrom 21 = .ok (.aload_n 0, 1) := by decide +kernel
theorem dX6_tryFrom_22 : decode cX6_tryFrom 22 = .ok (.iload_n 1, 1) := by decide +kernel
theorem dX6_tryFrom_23 : decode cX6_tryFrom 23 = .ok (.invokevirtual 55, 3) := by decide +kernel
theorem dX6_tryFrom_26 : decode cX6_tryFrom 26 = .ok (.astore 7, 2) := by decide +kernel
theorem dX6_tryFrom_28 : decode cX6_tryFrom 28 = .ok (.aload 7, 2) := by decide +kernel
theorem dX6_tryFrom_30 : decode cX6_tryFrom 30 = .ok (.ifnull 19, 3) := by decide +kernel
theorem dX6_tryFrom_33 : decode cX6_tryFrom 33 = .ok (.aload_n 0, 1) := by decide +kernel
theorem dX6_tryFrom_34 : decode cX6_tryFrom 34 = .ok (.lload 5, 2) := by decide +kernel
theorem dX6_tryFrom_36 : decode cX6_tryFrom 36 = .ok (.aload_n 0, 1) := by decide +kernel
theorem dX6_tryFrom_37 : decode cX6_tryFrom 37 = .ok (.iload_n 1, 1) := by decide +kernel
theorem dX6_tryFrom_38 : decode cX6_tryFrom 38 = .ok (.invokevirtual 59, 3) := by decide +kernel
theorem dX6_tryFrom_41 : decode cX6_tryFrom 41 = .ok (.ladd, 1) := by decide +kernel
theorem dX6_tryFrom_42 : decode cX6_tryFrom 42 = .ok (.iload_n 2, 1) := by decide +kernel
theorem dX6_tryFrom_43 : decode cX6_tryFrom 43 = .ok (.invokevirtual 51, 3) := by decide +kernel
theorem dX6_tryFrom_46 : decode cX6_tryFrom 46 = .ok (.ifCond .ne 4, 3) := by decide +kernel
theorem dX6_tryFrom_49 : decode cX6_tryFrom 49 = .ok (.return_, 1) := by decide +kernel
theorem dX6_tryFrom_50 : decode cX6_tryFrom 50 = .ok (.aload 7, 2) := by decide +kernel
theorem dX6_tryFrom_52 : decode cX6_tryFrom 52 = .ok (.getfield 63, 3) := by decide +kernel
theorem dX6_tryFrom_55 : decode cX6_tryFrom 55 = .ok (.lload_n 3, 1) := by decide +kernel
theorem dX6_tryFrom_56 : decode cX6_tryFrom 56 = .ok (.land, 1) := by decide +kernel
theorem dX6_tryFrom_57 : decode cX6_tryFrom 57 = .ok (.lconst 0, 1) := by decide +kernel
theorem dX6_tryFrom_58 : decode cX6_tryFrom 58 = .ok (.lcmp, 1) := by decide +kernel
theorem dX6_tryFrom_59 : decode cX6_tryFrom 59 = .ok (.ifCond .ne 67, 3) := by decide +kernel
theorem dX6_tryFrom_62 : decode cX6_tryFrom 62 = .ok (.aload_n 0, 1) := by decide +kernel
theorem dX6_tryFrom_63 : decode cX6_tryFrom 63 = .ok (.aload 7, 2) := by decide +kernel
theorem dX6_tryFrom_65 : decode cX6_tryFrom 65 = .ok (.getfield 66, 3) := by decide +kernel
theorem dX6_tryFrom_68 : decode cX6_tryFrom 68 = .ok (.aload 7, 2) := by decide +kernel
theorem dX6_tryFrom_70 : decode cX6_tryFrom 70 = .ok (.getfield 48, 3) := by decide +kernel
theorem dX6_tryFrom_73 : decode cX6_tryFrom 73 = .ok (.invokevirtual 69, 3) := by decide +kernel
theorem dX6_tryFrom_76 : decode cX6_tryFrom 76 = .ok (.ifCond .eq 50, 3) := by decide +kernel
theorem dX6_tryFrom_79 : decode cX6_tryFrom 79 = .ok (.aload_n 0, 1) := by decide +kernel
theorem dX6_tryFrom_80 : decode cX6_tryFrom 80 = .ok (.iload_n 1, 1) := by decide +kernel
theorem dX6_tryFrom_81 : decode cX6_tryFrom 81 = .ok (.iconst 1, 1) := by decide +kernel
theorem dX6_tryFrom_82 : decode cX6_tryFrom 82 = .ok (.iadd, 1) := by decide +kernel
theorem dX6_tryFrom_83 : decode cX6_tryFrom 83 = .ok (.iload_n 2, 1) := by decide +kernel
theorem dX6_tryFrom_84 : decode cX6_tryFrom 84 = .ok (.iconst 1, 1) := by decide +kernel
theorem dX6_tryFrom_85 : decode cX6_tryFrom 85 = .ok (.aload 7, 2) := by decide +kernel
theorem dX6_tryFrom_87 : decode cX6_tryFrom 87 = .ok (.getfield 73, 3) := by decide +kernel
theorem dX6_tryFrom_90 : decode cX6_tryFrom 90 = .ok (.ishl, 1) := by decide +kernel
theorem dX6_tryFrom_91 : decode cX6_tryFrom 91 = .ok (.ior, 1) := by decide +kernel
theorem dX6_tryFrom_92 : decode cX6_tryFrom 92 = .ok (.lload_n 3, 1) := by decide +kernel
theorem dX6_tryFrom_93 : decode cX6_tryFrom 93 = .ok (.aload 7, 2) := by decide +kernel
theorem dX6_tryFrom_95 : decode cX6_tryFrom 95 = .ok (.getfield 63, 3) := by decide +kernel
theorem dX6_tryFrom_98 : decode cX6_tryFrom 98 = .ok (.lor, 1) := by decide +kernel
theorem dX6_tryFrom_99 : decode cX6_tryFrom 99 = .ok (.lload 5, 2) := by decide +kernel
theorem dX6_tryFrom_101 : decode cX6_tryFrom 101 = .ok (.aload 7, 2) := by decide +kernel
theorem dX6_tryFrom_103 : decode cX6_tryFrom 103 = .ok (.getfield 48, 3) := by decide +kernel
theorem dX6_tryFrom_106 : decode cX6_tryFrom 106 = .ok (.ladd, 1) := by decide +kernel
theorem dX6_tryFrom_107 : decode cX6_tryFrom 107 = .ok (.invokestatic 44, 3) := by decide +kernel
theorem dX6_tryFrom_110 : decode cX6_tryFrom 110 = .ok (.aload_n 0, 1) := by decide +kernel
theorem dX6_tryFrom_111 : decode cX6_tryFrom 111 = .ok (.aload 7, 2) := by decide +kernel
theorem dX6_tryFrom_113 : decode cX6_tryFrom 113 = .ok (.getfield 66, 3) := by decide +kernel
theorem dX6_tryFrom_116 : decode cX6_tryFrom 116 = .ok (.aload 7, 2) := by decide +kernel
theorem dX6_tryFrom_118 : decode cX6_tryFrom 118 = .ok (.getfield 48, 3) := by decide +kernel
theorem dX6_tryFrom_121 : decode cX6_tryFrom 121 = .ok (.lneg, 1) := by decide +kernel
theorem dX6_tryFrom_122 : decode cX6_tryFrom 122 = .ok (.invokevirtual 69, 3) := by decide +kernel
theorem dX6_tryFrom_125 : decode cX6_tryFrom 125 = .ok (.pop, 1) := by decide +kernel
theorem dX6_tryFrom_126 : decode cX6_tryFrom 126 = .ok (.aload_n 0, 1) := by decide +kernel
theorem dX6_tryFrom_127 : decode cX6_tryFrom 127 = .ok (.iload_n 1, 1) := by decide +kernel
theorem dX6_tryFrom_128 : decode cX6_tryFrom 128 = .ok (.iconst 1, 1) := by decide +kernel
theorem dX6_tryFrom_129 : decode cX6_tryFrom 129 = .ok (.iadd, 1) := by decide +kernel
theorem dX6_tryFrom_130 : decode cX6_tryFrom 130 = .ok (.iload_n 2, 1) := by decide +kernel
theorem dX6_tryFrom_131 : decode cX6_tryFrom 131 = .ok (.lload_n 3, 1) := by decide +kernel
theorem dX6_tryFrom_132 : decode cX6_tryFrom 132 = .ok (.lload 5, 2) := by decide +kernel
theorem dX6_tryFrom_134 : decode cX6_tryFrom 134 = .ok (.invokestatic 44, 3) := by decide +kernel
theorem dX6_tryFrom_137 : decode cX6_tryFrom 137 = .ok (.return_, 1) := by decide +kernel
theorem dX6_goodAt_0 : decode cX6_goodAt 0 = .ok (.iload_n 1, 1) := by decide +kernel
theorem dX6_goodAt_1 : decode cX6_goodAt 1 = .ok (.ifCond .lt 20, 3) := by decide +kernel
theorem dX6_goodAt_4 : decode cX6_goodAt 4 = .ok (.iload_n 1, 1) := by decide +kernel
theorem dX6_goodAt_5 : decode cX6_goodAt 5 = .ok (.aload_n 0, 1) := by decide +kernel
theorem dX6_goodAt_6 : decode cX6_goodAt 6 = .ok (.getfield 24, 3) := by decide +kernel
theorem dX6_goodAt_9 : decode cX6_goodAt 9 = .ok (.if_icmp .ge 12, 3) := by decide +kernel
theorem dX6_goodAt_12 : decode cX6_goodAt 12 = .ok (.iload_n 1, 1) := by decide +kernel
theorem dX6_goodAt_13 : decode cX6_goodAt 13 = .ok (.aload_n 0, 1) := by decide +kernel
theorem dX6_goodAt_14 : decode cX6_goodAt 14 = .ok (.getfield 11, 3) := by decide +kernel
theorem dX6_goodAt_17 : decode cX6_goodAt 17 = .ok (.arraylength, 1) := by decide +kernel
theorem dX6_goodAt_18 : decode cX6_goodAt 18 = .ok (.if_icmp .lt 7, 3) := by decide +kernel
theorem dX6_goodAt_21 : decode cX6_goodAt 21 = .ok (.aconst_null, 1) := by decide +kernel
theorem dX6_goodAt_22 : decode cX6_goodAt 22 = .ok (.goto 9, 3) := by decide +kernel
theorem dX6_goodAt_25 : decode cX6_goodAt 25 = .ok (.aload_n 0, 1) := by decide +kernel
theorem dX6_goodAt_26 : decode cX6_goodAt 26 = .ok (.getfield 11, 3) := by decide +kernel
theorem dX6_goodAt_29 : decode cX6_goodAt 29 = .ok (.iload_n 1, 1) := by decide +kernel
theorem dX6_goodAt_30 : decode cX6_goodAt 30 = .ok (.aaload, 1) := by decide +kernel
theorem dX6_goodAt_31 : decode cX6_goodAt 31 = .ok (.areturn, 1) := by decide +kernel
theorem dX6_restFrom_0 : decode cX6_restFrom 0 = .ok (.iload_n 1, 1) := by decide +kernel
theorem dX6_restFrom_1 : decode cX6_restFrom 1 = .ok (.ifCond .lt 12, 3) := by decide +kernel
theorem dX6_restFrom_4 : decode cX6_restFrom 4 = .ok (.iload_n 1, 1) := by decide +kernel
theorem dX6_restFrom_5 : decode cX6_restFrom 5 = .ok (.aload_n 0, 1) := by decide +kernel
theorem dX6_restFrom_6 : decode cX6_restFrom 6 = .ok (.getfield 17, 3) := by decide +kernel
theorem dX6_restFrom_9 : decode cX6_restFrom 9 = .ok (.arraylength, 1) := by decide +kernel
theorem dX6_restFrom_10 : decode cX6_restFrom 10 = .ok (.if_icmp .lt 7, 3) := by decide +kernel
theorem dX6_restFrom_13 : decode cX6_restFrom 13 = .ok (.lconst 0, 1) := by decide +kernel
theorem dX6_restFrom_14 : decode cX6_restFrom 14 = .ok (.goto 9, 3) := by decide +kernel
theorem dX6_restFrom_17 : decode cX6_restFrom 17 = .ok (.aload_n 0, 1) := by decide +kernel
theorem dX6_restFrom_18 : decode cX6_restFrom 18 = .ok (.getfield 17, 3) := by decide +kernel
theorem dX6_restFrom_21 : decode cX6_restFrom 21 = .ok (.iload_n 1, 1) := by decide +kernel
theorem dX6_restFrom_22 : decode cX6_restFrom 22 = .ok (.laload, 1) := by decide +kernel
theorem dX6_restFrom_23 : decode cX6_restFrom 23 = .ok (.lreturn, 1) := by decide +kernel
theorem dX6_isBetter_0 : decode cX6_isBetter 0 = .ok (.lload_n 1, 1) := by decide +kernel
theorem dX6_isBetter_1 : decode cX6_isBetter 1 = .ok (.aload_n 0, 1) := by decide +kernel
theorem dX6_isBetter_2 : decode cX6_isBetter 2 = .ok (.getfield 31, 3) := by decide +kernel
theorem dX6_isBetter_5 : decode cX6_isBetter 5 = .ok (.lcmp, 1) := by decide +kernel
theorem dX6_isBetter_6 : decode cX6_isBetter 6 = .ok (.ifCond .gt 23, 3) := by decide +kernel
theorem dX6_isBetter_9 : decode cX6_isBetter 9 = .ok (.lload_n 1, 1) := by decide +kernel
theorem dX6_isBetter_10 : decode cX6_isBetter 10 = .ok (.aload_n 0, 1) := by decide +kernel
theorem dX6_isBetter_11 : decode cX6_isBetter 11 = .ok (.getfield 31, 3) := by decide +kernel
theorem dX6_isBetter_14 : decode cX6_isBetter 14 = .ok (.lcmp, 1) := by decide +kernel
theorem dX6_isBetter_15 : decode cX6_isBetter 15 = .ok (.ifCond .ne 18, 3) := by decide +kernel
theorem dX6_isBetter_18 : decode cX6_isBetter 18 = .ok (.iload_n 3, 1) := by decide +kernel
theorem dX6_isBetter_19 : decode cX6_isBetter 19 = .ok (.invokestatic 35, 3) := by decide +kernel
theorem dX6_isBetter_22 : decode cX6_isBetter 22 = .ok (.aload_n 0, 1) := by decide +kernel
theorem dX6_isBetter_23 : decode cX6_isBetter 23 = .ok (.invokevirtual 76, 3) := by decide +kernel
theorem dX6_isBetter_26 : decode cX6_isBetter 26 = .ok (.if_icmp .ge 7, 3) := by decide +kernel
theorem dX6_isBetter_29 : decode cX6_isBetter 29 = .ok (.iconst 1, 1) := by decide +kernel
theorem dX6_isBetter_30 : decode cX6_isBetter 30 = .ok (.goto 4, 3) := by decide +kernel
theorem dX6_isBetter_33 : decode cX6_isBetter 33 = .ok (.iconst 0, 1) := by decide +kernel
theorem dX6_isBetter_34 : decode cX6_isBetter 34 = .ok (.ireturn, 1) := by decide +kernel
theorem dX6_spend_0 : decode cX6_spend 0 = .ok (.iload_n 1, 1) := by decide +kernel
theorem dX6_spend_1 : decode cX6_spend 1 = .ok (.ifCond .lt 23, 3) := by decide +kernel
theorem dX6_spend_4 : decode cX6_spend 4 = .ok (.iload_n 1, 1) := by decide +kernel
theorem dX6_spend_5 : decode cX6_spend 5 = .ok (.aload_n 0, 1) := by decide +kernel
theorem dX6_spend_6 : decode cX6_spend 6 = .ok (.getfield 21, 3) := by decide +kernel
theorem dX6_spend_9 : decode cX6_spend 9 = .ok (.arraylength, 1) := by decide +kernel
theorem dX6_spend_10 : decode cX6_spend 10 = .ok (.if_icmp .ge 14, 3) := by decide +kernel
theorem dX6_spend_13 : decode cX6_spend 13 = .ok (.aload_n 0, 1) := by decide +kernel
theorem dX6_spend_14 : decode cX6_spend 14 = .ok (.getfield 21, 3) := by decide +kernel
theorem dX6_spend_17 : decode cX6_spend 17 = .ok (.iload_n 1, 1) := by decide +kernel
theorem dX6_spend_18 : decode cX6_spend 18 = .ok (.laload, 1) := by decide +kernel
theorem dX6_spend_19 : decode cX6_spend 19 = .ok (.lload_n 2, 1) := by decide +kernel
theorem dX6_spend_20 : decode cX6_spend 20 = .ok (.lcmp, 1) := by decide +kernel
theorem dX6_spend_21 : decode cX6_spend 21 = .ok (.ifCond .ge 5, 3) := by decide +kernel
theorem dX6_spend_24 : decode cX6_spend 24 = .ok (.iconst 0, 1) := by decide +kernel
theorem dX6_spend_25 : decode cX6_spend 25 = .ok (.ireturn, 1) := by decide +kernel
theorem dX6_spend_26 : decode cX6_spend 26 = .ok (.aload_n 0, 1) := by decide +kernel
theorem dX6_spend_27 : decode cX6_spend 27 = .ok (.getfield 21, 3) := by decide +kernel
theorem dX6_spend_30 : decode cX6_spend 30 = .ok (.iload_n 1, 1) := by decide +kernel
theorem dX6_spend_31 : decode cX6_spend 31 = .ok (.dup2, 1) := by decide +kernel
theorem dX6_spend_32 : decode cX6_spend 32 = .ok (.laload, 1) := by decide +kernel
theorem dX6_spend_33 : decode cX6_spend 33 = .ok (.lload_n 2, 1) := by decide +kernel
theorem dX6_spend_34 : decode cX6_spend 34 = .ok (.lsub, 1) := by decide +kernel
theorem dX6_spend_35 : decode cX6_spend 35 = .ok (.lastore, 1) := by decide +kernel
theorem dX6_spend_36 : decode cX6_spend 36 = .ok (.iconst 1, 1) := by decide +kernel
theorem dX6_spend_37 : decode cX6_spend 37 = .ok (.ireturn, 1) := by decide +kernel
theorem dX8_init_0 : decode cX8_init 0 = .ok (.aload_n 0, 1) := by decide +kernel
theorem dX8_init_1 : decode cX8_init 1 = .ok (.invokespecial 1, 3) := by decide +kernel
theorem dX8_init_4 : decode cX8_init 4 = .ok (.aload_n 0, 1) := by decide +kernel
theorem dX8_init_5 : decode cX8_init 5 = .ok (.bipush 60, 2) := by decide +kernel
theorem dX8_init_7 : decode cX8_init 7 = .ok (.anewarray 9, 3) := by decide +kernel
theorem dX8_init_10 : decode cX8_init 10 = .ok (.putfield 11, 3) := by decide +kernel
theorem dX8_init_13 : decode cX8_init 13 = .ok (.aload_n 0, 1) := by decide +kernel
theorem dX8_init_14 : decode cX8_init 14 = .ok (.bipush 30, 2) := by decide +kernel
theorem dX8_init_16 : decode cX8_init 16 = .ok (.anewarray 15, 3) := by decide +kernel
theorem dX8_init_19 : decode cX8_init 19 = .ok (.putfield 17, 3) := by decide +kernel
theorem dX8_init_22 : decode cX8_init 22 = .ok (.aload_n 0, 1) := by decide +kernel
theorem dX8_init_23 : decode cX8_init 23 = .ok (.bipush 18, 2) := by decide +kernel
theorem dX8_init_25 : decode cX8_init 25 = .ok (.anewarray 21, 3) := by decide +kernel
theorem dX8_init_28 : decode cX8_init 28 = .ok (.putfield 23, 3) := by decide +kernel
theorem dX8_init_31 : decode cX8_init 31 = .ok (.aload_n 0, 1) := by decide +kernel
theorem dX8_init_32 : decode cX8_init 32 = .ok (.new 27, 3) := by decide +kernel
theorem dX8_init_35 : decode cX8_init 35 = .ok (.dup, 1) := by decide +kernel
theorem dX8_init_36 : decode cX8_init 36 = .ok (.invokespecial 29, 3) := by decide +kernel
theorem dX8_init_39 : decode cX8_init 39 = .ok (.putfield 30, 3) := by decide +kernel
theorem dX8_init_42 : decode cX8_init 42 = .ok (.aload_n 0, 1) := by decide +kernel
theorem dX8_init_43 : decode cX8_init 43 = .ok (.new 34, 3) := by decide +kernel
theorem dX8_init_46 : decode cX8_init 46 = .ok (.dup, 1) := by decide +kernel
theorem dX8_init_47 : decode cX8_init 47 = .ok (.invokespecial 36, 3) := by decide +kernel
theorem dX8_init_50 : decode cX8_init 50 = .ok (.putfield 37, 3) := by decide +kernel
theorem dX8_init_53 : decode cX8_init 53 = .ok (.aload_n 0, 1) := by decide +kernel
theorem dX8_init_54 : decode cX8_init 54 = .ok (.new 41, 3) := by decide +kernel
theorem dX8_init_57 : decode cX8_init 57 = .ok (.dup, 1) := by decide +kernel
theorem dX8_init_58 : decode cX8_init 58 = .ok (.invokespecial 43, 3) := by decide +kernel
theorem dX8_init_61 : decode cX8_init 61 = .ok (.putfield 44, 3) := by decide +kernel
theorem dX8_init_64 : decode cX8_init 64 = .ok (.return_, 1) := by decide +kernel
theorem dX8_lot_0 : decode cX8_lot 0 = .ok (.iload_n 1, 1) := by decide +kernel
theorem dX8_lot_1 : decode cX8_lot 1 = .ok (.i2l, 1) := by decide +kernel
theorem dX8_lot_2 : decode cX8_lot 2 = .ok (.lconst 0, 1) := by decide +kernel
theorem dX8_lot_3 : decode cX8_lot 3 = .ok (.ldc2_w 48, 3) := by decide +kernel
theorem dX8_lot_6 : decode cX8_lot 6 = .ok (.invokestatic 50, 3) := by decide +kernel
theorem dX8_lot_9 : decode cX8_lot 9 = .ok (.ifCond .eq 14, 3) := by decide +kernel
theorem dX8_lot_12 : decode cX8_lot 12 = .ok (.lload_n 2, 1) := by decide +kernel
theorem dX8_lot_13 : decode cX8_lot 13 = .ok (.lconst 1, 1) := by decide +kernel
theorem dX8_lot_14 : decode cX8_lot 14 = .ok (.ldc2_w 54, 3) := by decide +kernel
theorem dX8_lot_17 : decode cX8_lot 17 = .ok (.invokestatic 50, 3) := by decide +kernel
theorem dX8_lot_20 : decode cX8_lot 20 = .ok (.ifCond .ne 5, 3) := by decide +kernel
theorem dX8_lot_23 : decode cX8_lot 23 = .ok (.iconst (-1), 1) := by decide +kernel
theorem dX8_lot_24 : decode cX8_lot 24 = .ok (.ireturn, 1) := by decide +kernel
theorem dX8_lot_25 : decode cX8_lot 25 = .ok (.lload 4, 2) := by decide +kernel
theorem dX8_lot_27 : decode cX8_lot 27 = .ok (.lconst 0, 1) := by decide +kernel
theorem dX8_lot_28 : decode cX8_lot 28 = .ok (.ldc2_w 54, 3) := by decide +kernel
theorem dX8_lot_31 : decode cX8_lot 31 = .ok (.invokestatic 50, 3) := by decide +kernel
theorem dX8_lot_34 : decode cX8_lot 34 = .ok (.ifCond .ne 5, 3) := by decide +kernel
theorem dX8_lot_37 : decode cX8_lot 37 = .ok (.iconst (-1), 1) := by decide +kernel
theorem dX8_lot_38 : decode cX8_lot 38 = .ok (.ireturn, 1) := by decide +kernel
theorem dX8_lot_39 : decode cX8_lot 39 = .ok (.aload_n 0, 1) := by decide +kernel
theorem dX8_lot_40 : decode cX8_lot 40 = .ok (.iload_n 1, 1) := by decide +kernel
theorem dX8_lot_41 : decode cX8_lot 41 = .ok (.lload_n 2, 1) := by decide +kernel
theorem dX8_lot_42 : decode cX8_lot 42 = .ok (.lload 4, 2) := by decide +kernel
theorem dX8_lot_44 : decode cX8_lot 44 = .ok (.invokevirtual 56, 3) := by decide +kernel
theorem dX8_lot_47 : decode cX8_lot 47 = .ok (.ireturn, 1) := by decide +kernel
theorem dX8_buyer_0 : decode cX8_buyer 0 = .ok (.aload_n 0, 1) := by decide +kernel
theorem dX8_buyer_1 : decode cX8_buyer 1 = .ok (.getfield 60, 3) := by decide +kernel
theorem dX8_buyer_4 : decode cX8_buyer 4 = .ok (.istore_n 3, 1) := by decide +kernel
theorem dX8_buyer_5 : decode cX8_buyer 5 = .ok (.iload_n 3, 1) := by decide +kernel
theorem dX8_buyer_6 : decode cX8_buyer 6 = .ok (.ifCond .lt 23, 3) := by decide +kernel
theorem dX8_buyer_9 : decode cX8_buyer 9 = .ok (.iload_n 3, 1) := by decide +kernel
theorem dX8_buyer_10 : decode cX8_buyer 10 = .ok (.aload_n 0, 1) := by decide +kernel
theorem dX8_buyer_11 : decode cX8_buyer 11 = .ok (.getfield 17, 3) := by decide +kernel
theorem dX8_buyer_14 : decode cX8_buyer 14 = .ok (.arraylength, 1) := by decide +kernel
theorem dX8_buyer_15 : decode cX8_buyer 15 = .ok (.if_icmp .ge 14, 3) := by decide +kernel
theorem dX8_buyer_18 : decode cX8_buyer 18 = .ok (.lload_n 1, 1) := by decide +kernel
theorem dX8_buyer_19 : decode cX8_buyer 19 = .ok (.lconst 0, 1) := by decide +kernel
theorem dX8_buyer_20 : decode cX8_buyer 20 = .ok (.ldc2_w 64, 3) := by decide +kernel
theorem dX8_buyer_23 : decode cX8_buyer 23 = .ok (.invokestatic 50, 3) := by decide +kernel
theorem dX8_buyer_26 : decode cX8_buyer 26 = .ok (.ifCond .ne 5, 3) := by decide +kernel
theorem dX8_buyer_29 : decode cX8_buyer 29 = .ok (.iconst (-1), 1) := by decide +kernel
theorem dX8_buyer_30 : decode cX8_buyer 30 = .ok (.ireturn, 1) := by decide +kernel
theorem dX8_buyer_31 : decode cX8_buyer 31 = .ok (.aload_n 0, 1) := by decide +kernel
theorem dX8_buyer_32 : decode cX8_buyer 32 = .ok (.getfield 17, 3) := by decide +kernel
theorem dX8_buyer_35 : decode cX8_buyer 35 = .ok (.iload_n 3, 1) := by decide +kernel
theorem dX8_buyer_36 : decode cX8_buyer 36 = .ok (.new 15, 3) := by decide +kernel
theorem dX8_buyer_39 : decode cX8_buyer 39 = .ok (.dup, 1) := by decide +kernel
theorem dX8_buyer_40 : decode cX8_buyer 40 = .ok (.iload_n 3, 1) := by decide +kernel
theorem dX8_buyer_41 : decode cX8_buyer 41 = .ok (.lload_n 1, 1) := by decide +kernel
theorem dX8_buyer_42 : decode cX8_buyer 42 = .ok (.invokespecial 66, 3) := by decide +kernel
theorem dX8_buyer_45 : decode cX8_buyer 45 = .ok (.aastore, 1) := by decide +kernel
theorem dX8_buyer_46 : decode cX8_buyer 46 = .ok (.aload_n 0, 1) := by decide +kernel
theorem dX8_buyer_47 : decode cX8_buyer 47 = .ok (.iload_n 3, 1) := by decide +kernel
theorem dX8_buyer_48 : decode cX8_buyer 48 = .ok (.iconst 1, 1) := by decide +kernel
theorem dX8_buyer_49 : decode cX8_buyer 49 = .ok (.iadd, 1) := by decide +kernel
theorem dX8_buyer_50 : decode cX8_buyer 50 = .ok (.putfield 60, 3) := by decide +kernel
theorem dX8_buyer_53 : decode cX8_buyer 53 = .ok (.iload_n 3, 1) := by decide +kernel
theorem dX8_buyer_54 : decode cX8_buyer 54 = .ok (.ireturn, 1) := by decide +kernel
theorem dX8_winner_0 : decode cX8_winner 0 = .ok (.aload_n 0, 1) := by decide +kernel
theorem dX8_winner_1 : decode cX8_winner 1 = .ok (.iload_n 1, 1) := by decide +kernel
theorem dX8_winner_2 : decode cX8_winner 2 = .ok (.invokevirtual 69, 3) := by decide +kernel
theorem dX8_winner_5 : decode cX8_winner 5 = .ok (.astore_n 2, 1) := by decide +kernel
theorem dX8_winner_6 : decode cX8_winner 6 = .ok (.aload_n 2, 1) := by decide +kernel
theorem dX8_winner_7 : decode cX8_winner 7 = .ok (.ifnull 10, 3) := by decide +kernel
theorem dX8_winner_10 : decode cX8_winner 10 = .ok (.aload_n 2, 1) := by decide +kernel
theorem dX8_winner_11 : decode cX8_winner 11 = .ok (.invokevirtual 73, 3) := by decide +kernel
theorem dX8_winner_14 : decode cX8_winner 14 = .ok (.ifCond .ne 7, 3) := by decide +kernel
theorem dX8_winner_17 : decode cX8_winner 17 = .ok (.iconst (-1), 1) := by decide +kernel
theorem dX8_winner_18 : decode cX8_winner 18 = .ok (.goto 7, 3) := by decide +kernel
theorem dX8_winner_21 : decode cX8_winner 21 = .ok (.aload_n 2, 1) := by decide +kernel
theorem dX8_winner_22 : decode cX8_winner 22 = .ok (.getfield 77, 3) := by decide +kernel
theorem dX8_winner_25 : decode cX8_winner 25 = .ok (.ireturn, 1) := by decide +kernel
theorem dX8_price_0 : decode cX8_price 0 = .ok (.aload_n 0, 1) := by decide +kernel
theorem dX8_price_1 : decode cX8_price 1 = .ok (.iload_n 1, 1) := by decide +kernel
theorem dX8_price_2 : decode cX8_price 2 = .ok (.invokevirtual 69, 3) := by decide +kernel
theorem dX8_price_5 : decode cX8_price 5 = .ok (.astore_n 2, 1) := by decide +kernel
theorem dX8_price_6 : decode cX8_price 6 = .ok (.aload_n 2, 1) := by decide +kernel
theorem dX8_price_7 : decode cX8_price 7 = .ok (.ifnull 10, 3) := by decide +kernel
theorem dX8_price_10 : decode cX8_price 10 = .ok (.aload_n 2, 1) := by decide +kernel
theorem dX8_price_11 : decode cX8_price 11 = .ok (.invokevirtual 73, 3) := by decide +kernel
theorem dX8_price_14 : decode cX8_price 14 = .ok (.ifCond .ne 9, 3) := by decide +kernel
theorem dX8_price_17 : decode cX8_price 17 = .ok (.ldc2_w 80, 3) := by decide +kernel
theorem dX8_price_20 : decode cX8_price 20 = .ok (.goto 7, 3) := by decide +kernel
theorem dX8_price_23 : decode cX8_price 23 = .ok (.aload_n 2, 1) := by decide +kernel
theorem dX8_price_24 : decode cX8_price 24 = .ok (.getfield 82, 3) := by decide +kernel
theorem dX8_price_27 : decode cX8_price 27 = .ok (.lreturn, 1) := by decide +kernel
theorem dX8_left_0 : decode cX8_left 0 = .ok (.aload_n 0, 1) := by decide +kernel
theorem dX8_left_1 : decode cX8_left 1 = .ok (.iload_n 1, 1) := by decide +kernel
theorem dX8_left_2 : decode cX8_left 2 = .ok (.invokevirtual 69, 3) := by decide +kernel
theorem dX8_left_5 : decode cX8_left 5 = .ok (.astore_n 2, 1) := by decide +kernel
theorem dX8_left_6 : decode cX8_left 6 = .ok (.aload_n 2, 1) := by decide +kernel
theorem dX8_left_7 : decode cX8_left 7 = .ok (.ifnonnull 9, 3) := by decide +kernel
theorem dX8_left_10 : decode cX8_left 10 = .ok (.ldc2_w 80, 3) := by decide +kernel
theorem dX8_left_13 : decode cX8_left 13 = .ok (.goto 7, 3) := by decide +kernel
theorem dX8_left_16 : decode cX8_left 16 = .ok (.aload_n 2, 1) := by decide +kernel
theorem dX8_left_17 : decode cX8_left 17 = .ok (.getfield 86, 3) := by decide +kernel
theorem dX8_left_20 : decode cX8_left 20 = .ok (.lreturn, 1) := by decide +kernel
theorem dX8_held_0 : decode cX8_held 0 = .ok (.aload_n 0, 1) := by decide +kernel
theorem dX8_held_1 : decode cX8_held 1 = .ok (.iload_n 1, 1) := by decide +kernel
theorem dX8_held_2 : decode cX8_held 2 = .ok (.invokevirtual 89, 3) := by decide +kernel
theorem dX8_held_5 : decode cX8_held 5 = .ok (.astore_n 2, 1) := by decide +kernel
theorem dX8_held_6 : decode cX8_held 6 = .ok (.aload_n 2, 1) := by decide +kernel
theorem dX8_held_7 : decode cX8_held 7 = .ok (.ifnonnull 9, 3) := by decide +kernel
theorem dX8_held_10 : decode cX8_held 10 = .ok (.ldc2_w 80, 3) := by decide +kernel
theorem dX8_held_13 : decode cX8_held 13 = .ok (.goto 13, 3) := by decide +kernel
theorem dX8_held_16 : decode cX8_held 16 = .ok (.aload_n 2, 1) := by decide +kernel
theorem dX8_held_17 : decode cX8_held 17 = .ok (.getfield 93, 3) := by decide +kernel
theorem dX8_held_20 : decode cX8_held 20 = .ok (.aload_n 0, 1) := by decide +kernel
theorem dX8_held_21 : decode cX8_held 21 = .ok (.aload_n 2, 1) := by decide +kernel
theorem dX8_held_22 : decode cX8_held 22 = .ok (.invokevirtual 96, 3) := by decide +kernel
theorem dX8_held_25 : decode cX8_held 25 = .ok (.lsub, 1) := by decide +kernel
theorem dX8_held_26 : decode cX8_held 26 = .ok (.lreturn, 1) := by decide +kernel
theorem dX8_fee_0 : decode cX8_fee 0 = .ok (.aload_n 0, 1) := by decide +kernel
theorem dX8_fee_1 : decode cX8_fee 1 = .ok (.iload_n 1, 1) := by decide +kernel
theorem dX8_fee_2 : decode cX8_fee 2 = .ok (.invokevirtual 69, 3) := by decide +kernel
theorem dX8_fee_5 : decode cX8_fee 5 = .ok (.astore_n 2, 1) := by decide +kernel
theorem dX8_fee_6 : decode cX8_fee 6 = .ok (.aload_n 2, 1) := by decide +kernel
theorem dX8_fee_7 : decode cX8_fee 7 = .ok (.ifnull 13, 3) := by decide +kernel
theorem dX8_fee_10 : decode cX8_fee 10 = .ok (.aload_n 2, 1) := by decide +kernel
theorem dX8_fee_11 : decode cX8_fee 11 = .ok (.getfield 100, 3) := by decide +kernel
theorem dX8_fee_14 : decode cX8_fee 14 = .ok (.getstatic 104, 3) := by decide +kernel
theorem dX8_fee_17 : decode cX8_fee 17 = .ok (.if_acmp .eq 7, 3) := by decide +kernel
theorem dX8_fee_20 : decode cX8_fee 20 = .ok (.ldc2_w 80, 3) := by decide +kernel
theorem dX8_fee_23 : decode cX8_fee 23 = .ok (.lreturn, 1) := by decide +kernel
theorem dX8_fee_24 : decode cX8_fee 24 = .ok (.aload_n 2, 1) := by decide +kernel
theorem dX8_fee_25 : decode cX8_fee 25 = .ok (.getfield 82, 3) := by decide +kernel
theorem dX8_fee_28 : decode cX8_fee 28 = .ok (.ldc2_w 109, 3) := by decide +kernel
theorem dX8_fee_31 : decode cX8_fee 31 = .ok (.ladd, 1) := by decide +kernel
theorem dX8_fee_32 : decode cX8_fee 32 = .ok (.ldc2_w 111, 3) := by decide +kernel
theorem dX8_fee_35 : decode cX8_fee 35 = .ok (.ldiv, 1) := by decide +kernel
theorem dX8_fee_36 : decode cX8_fee 36 = .ok (.ldc2_w 113, 3) := by decide +kernel
theorem dX8_fee_39 : decode cX8_fee 39 = .ok (.ladd, 1) := by decide +kernel
theorem dX8_fee_40 : decode cX8_fee 40 = .ok (.lreturn, 1) := by decide +kernel
theorem dX8_order_0 : decode cX8_order 0 = .ok (.iload_n 2, 1) := by decide +kernel
theorem dX8_order_1 : decode cX8_order 1 = .ok (.ifCond .ge 5, 3) := by decide +kernel
theorem dX8_order_4 : decode cX8_order 4 = .ok (.iconst (-1), 1) := by decide +kernel
theorem dX8_order_5 : decode cX8_order 5 = .ok (.ireturn, 1) := by decide +kernel
theorem dX8_order_6 : decode cX8_order 6 = .ok (.iconst 0, 1) := by decide +kernel
theorem dX8_order_7 : decode cX8_order 7 = .ok (.istore_n 3, 1) := by decide +kernel
theorem dX8_order_8 : decode cX8_order 8 = .ok (.iload_n 3, 1) := by decide +kernel
theorem dX8_order_9 : decode cX8_order 9 = .ok (.aload_n 0, 1) := by decide +kernel
theorem dX8_order_10 : decode cX8_order 10 = .ok (.getfield 115, 3) := by decide +kernel
theorem dX8_order_13 : decode cX8_order 13 = .ok (.if_icmp .ge 42, 3) := by decide +kernel
theorem dX8_order_16 : decode cX8_order 16 = .ok (.aload_n 0, 1) := by decide +kernel
theorem dX8_order_17 : decode cX8_order 17 = .ok (.iload_n 3, 1) := by decide +kernel
theorem dX8_order_18 : decode cX8_order 18 = .ok (.invokevirtual 69, 3) := by decide +kernel
theorem dX8_order_21 : decode cX8_order 21 = .ok (.astore 4, 2) := by decide +kernel
theorem dX8_order_23 : decode cX8_order 23 = .ok (.aload 4, 2) := by decide +kernel
theorem dX8_order_25 : decode cX8_order 25 = .ok (.ifnull 24, 3) := by decide +kernel
theorem dX8_order_28 : decode cX8_order 28 = .ok (.aload 4, 2) := by decide +kernel
theorem dX8_order_30 : decode cX8_order 30 = .ok (.iload_n 1, 1) := by decide +kernel
theorem dX8_order_31 : decode cX8_order 31 = .ok (.invokevirtual 118, 3) := by decide +kernel
theorem dX8_order_34 : decode cX8_order 34 = .ok (.ifCond .eq 15, 3) := by decide +kernel
theorem dX8_order_37 : decode cX8_order 37 = .ok (.aload_n 0, 1) := by decide +kernel
theorem dX8_order_38 : decode cX8_order 38 = .ok (.aload 4, 2) := by decide +kernel
theorem dX8_order_40 : decode cX8_order 40 = .ok (.invokevirtual 122, 3) := by decide +kernel
theorem dX8_order_43 : decode cX8_order 43 = .ok (.iload_n 2, 1) := by decide +kernel
theorem dX8_order_44 : decode cX8_order 44 = .ok (.if_icmp .ne 5, 3) := by decide +kernel
theorem dX8_order_47 : decode cX8_order 47 = .ok (.iload_n 3, 1) := by decide +kernel
theorem dX8_order_48 : decode cX8_order 48 = .ok (.ireturn, 1) := by decide +kernel
theorem dX8_order_49 : decode cX8_order 49 = .ok (.iinc 3 1, 3) := by decide +kernel
theorem dX8_order_52 : decode cX8_order 52 = .ok (.goto (-44), 3) := by decide +kernel
theorem dX8_order_55 : decode cX8_order 55 = .ok (.iconst (-1), 1) := by decide +kernel
theorem dX8_order_56 : decode cX8_order 56 = .ok (.ireturn, 1) := by decide +kernel
theorem dX8_part_0 : decode cX8_part 0 = .ok (.aload_n 0, 1) := by decide +kernel
theorem dX8_part_1 : decode cX8_part 1 = .ok (.iload_n 1, 1) := by decide +kernel
theorem dX8_part_2 : decode cX8_part 2 = .ok (.invokevirtual 69, 3) := by decide +kernel
theorem dX8_part_5 : decode cX8_part 5 = .ok (.astore 4, 2) := by decide +kernel
theorem dX8_part_7 : decode cX8_part 7 = .ok (.aload 4, 2) := by decide +kernel
theorem dX8_part_9 : decode cX8_part 9 = .ok (.ifnull 28, 3) := by decide +kernel
theorem dX8_part_12 : decode cX8_part 12 = .ok (.aload 4, 2) := by decide +kernel
theorem dX8_part_14 : decode cX8_part 14 = .ok (.getfield 126, 3) := by decide +kernel
theorem dX8_part_17 : decode cX8_part 17 = .ok (.ifCond .eq 20, 3) := by decide +kernel
theorem dX8_part_20 : decode cX8_part 20 = .ok (.aload 4, 2) := by decide +kernel
theorem dX8_part_22 : decode cX8_part 22 = .ok (.getfield 130, 3) := by decide +kernel
theorem dX8_part_25 : decode cX8_part 25 = .ok (.ifCond .ne 12, 3) := by decide +kernel
theorem dX8_part_28 : decode cX8_part 28 = .ok (.aload_n 0, 1) := by decide +kernel
theorem dX8_part_29 : decode cX8_part 29 = .ok (.getfield 115, 3) := by decide +kernel
theorem dX8_part_32 : decode cX8_part 32 = .ok (.bipush 60, 2) := by decide +kernel
theorem dX8_part_34 : decode cX8_part 34 = .ok (.if_icmp .lt 5, 3) := by decide +kernel
theorem dX8_part_37 : decode cX8_part 37 = .ok (.iconst (-1), 1) := by decide +kernel
theorem dX8_part_38 : decode cX8_part 38 = .ok (.ireturn, 1) := by decide +kernel
theorem dX8_part_39 : decode cX8_part 39 = .ok (.aload 4, 2) := by decide +kernel
theorem dX8_part_41 : decode cX8_part 41 = .ok (.getfield 86, 3) := by decide +kernel
theorem dX8_part_44 : decode cX8_part 44 = .ok (.lstore 5, 2) := by decide +kernel
theorem dX8_part_46 : decode cX8_part 46 = .ok (.lload_n 2, 1) := by decide +kernel
theorem dX8_part_47 : decode cX8_part 47 = .ok (.lconst 0, 1) := by decide +kernel
theorem dX8_part_48 : decode cX8_part 48 = .ok (.lcmp, 1) := by decide +kernel
theorem dX8_part_49 : decode cX8_part 49 = .ok (.ifCond .le 10, 3) := by decide +kernel
theorem dX8_part_52 : decode cX8_part 52 = .ok (.lload_n 2, 1) := by decide +kernel
theorem dX8_part_53 : decode cX8_part 53 = .ok (.lload 5, 2) := by decide +kernel
theorem dX8_part_55 : decode cX8_part 55 = .ok (.lcmp, 1) := by decide +kernel
theorem dX8_part_56 : decode cX8_part 56 = .ok (.ifCond .lt 5, 3) := by decide +kernel
theorem dX8_part_59 : decode cX8_part 59 = .ok (.iconst (-1), 1) := by decide +kernel
theorem dX8_part_60 : decode cX8_part 60 = .ok (.ireturn, 1) := by decide +kernel
theorem dX8_part_61 : decode cX8_part 61 = .ok (.aload 4, 2) := by decide +kernel
theorem dX8_part_63 : decode cX8_part 63 = .ok (.iconst 1, 1) := by decide +kernel
theorem dX8_part_64 : decode cX8_part 64 = .ok (.putfield 130, 3) := by decide +kernel
theorem dX8_part_67 : decode cX8_part 67 = .ok (.aload 4, 2) := by decide +kernel
theorem dX8_part_69 : decode cX8_part 69 = .ok (.lload_n 2, 1) := by decide +kernel
theorem dX8_part_70 : decode cX8_part 70 = .ok (.putfield 86, 3) := by decide +kernel
theorem dX8_part_73 : decode cX8_part 73 = .ok (.aload 4, 2) := by decide +kernel
theorem dX8_part_75 : decode cX8_part 75 = .ok (.aload 4, 2) := by decide +kernel
theorem dX8_part_77 : decode cX8_part 77 = .ok (.getfield 82, 3) := by decide +kernel
theorem dX8_part_80 : decode cX8_part 80 = .ok (.lload_n 2, 1) := by decide +kernel
theorem dX8_part_81 : decode cX8_part 81 = .ok (.lload 5, 2) := by decide +kernel
theorem dX8_part_83 : decode cX8_part 83 = .ok (.invokestatic 133, 3) := by decide +kernel
theorem dX8_part_86 : decode cX8_part 86 = .ok (.putfield 82, 3) := by decide +kernel
theorem dX8_part_89 : decode cX8_part 89 = .ok (.aload_n 0, 1) := by decide +kernel
theorem dX8_part_90 : decode cX8_part 90 = .ok (.getfield 37, 3) := by decide +kernel
theorem dX8_part_93 : decode cX8_part 93 = .ok (.iconst 5, 1) := by decide +kernel
theorem dX8_part_94 : decode cX8_part 94 = .ok (.iload_n 1, 1) := by decide +kernel
theorem dX8_part_95 : decode cX8_part 95 = .ok (.aload 4, 2) := by decide +kernel
theorem dX8_part_97 : decode cX8_part 97 = .ok (.getfield 77, 3) := by decide +kernel
theorem dX8_part_100 : decode cX8_part 100 = .ok (.aload 4, 2) := by decide +kernel
theorem dX8_part_102 : decode cX8_part 102 = .ok (.getfield 82, 3) := by decide +kernel
theorem dX8_part_105 : decode cX8_part 105 = .ok (.invokevirtual 137, 3) := by decide +kernel
theorem dX8_part_108 : decode cX8_part 108 = .ok (.aload_n 0, 1) := by decide +kernel
theorem dX8_part_109 : decode cX8_part 109 = .ok (.aload 4, 2) := by decide +kernel
theorem dX8_part_111 : decode cX8_part 111 = .ok (.getfield 141, 3) := by decide +kernel
theorem dX8_part_114 : decode cX8_part 114 = .ok (.lload 5, 2) := by decide +kernel
theorem dX8_part_116 : decode cX8_part 116 = .ok (.lload_n 2, 1) := by decide +kernel
theorem dX8_part_117 : decode cX8_part 117 = .ok (.lsub, 1) := by decide +kernel
theorem dX8_part_118 : decode cX8_part 118 = .ok (.aload 4, 2) := by decide +kernel
theorem dX8_part_120 : decode cX8_part 120 = .ok (.getfield 144, 3) := by decide +kernel
theorem dX8_part_123 : decode cX8_part 123 = .ok (.lload 5, 2) := by decide +kernel
theorem dX8_part_125 : decode cX8_part 125 = .ok (.lload_n 2, 1) := by decide +kernel
theorem dX8_part_126 : decode cX8_part 126 = .ok (.lsub, 1) := by decide +kernel
theorem dX8_part_127 : decode cX8_part 127 = .ok (.lload 5, 2) := by decide +kernel
theorem dX8_part_129 : decode cX8_part 129 = .ok (.invokestatic 133, 3) := by decide +kernel
theorem dX8_part_132 : decode cX8_part 132 = .ok (.invokevirtual 56, 3) := by decide +kernel
theorem dX8_part_135 : decode cX8_part 135 = .ok (.ireturn, 1) := by decide +kernel
theorem dX8_again_0 : decode cX8_again 0 = .ok (.aload_n 0, 1) := by decide +kernel
theorem dX8_again_1 : decode cX8_again 1 = .ok (.iload_n 1, 1) := by decide +kernel
theorem dX8_again_2 : decode cX8_again 2 = .ok (.invokevirtual 69, 3) := by decide +kernel
theorem dX8_again_5 : decode cX8_again 5 = .ok (.astore_n 2, 1) := by decide +kernel
theorem dX8_again_6 : decode cX8_again 6 = .ok (.aload_n 2, 1) := by decide +kernel
theorem dX8_again_7 : decode cX8_again 7 = .ok (.ifnull 20, 3) := by decide +kernel
theorem dX8_again_10 : decode cX8_again 10 = .ok (.aload_n 2, 1) := by decide +kernel
theorem dX8_again_11 : decode cX8_again 11 = .ok (.getfield 100, 3) := by decide +kernel
theorem dX8_again_14 : decode cX8_again 14 = .ok (.getstatic 147, 3) := by decide +kernel
theorem dX8_again_17 : decode cX8_again 17 = .ok (.if_acmp .ne 10, 3) := by decide +kernel
theorem dX8_again_20 : decode cX8_again 20 = .ok (.aload_n 2, 1) := by decide +kernel
theorem dX8_again_21 : decode cX8_again 21 = .ok (.getfield 150, 3) := by decide +kernel
theorem dX8_again_24 : decode cX8_again 24 = .ok (.ifCond .eq 5, 3) := by decide +kernel
theorem dX8_again_27 : decode cX8_again 27 = .ok (.iconst (-1), 1) := by decide +kernel
theorem dX8_again_28 : decode cX8_again 28 = .ok (.ireturn, 1) := by decide +kernel
theorem dX8_again_29 : decode cX8_again 29 = .ok (.aload_n 2, 1) := by decide +kernel
theorem dX8_again_30 : decode cX8_again 30 = .ok (.iconst 1, 1) := by decide +kernel
theorem dX8_again_31 : decode cX8_again 31 = .ok (.putfield 150, 3) := by decide +kernel
theorem dX8_again_34 : decode cX8_again 34 = .ok (.aload_n 2, 1) := by decide +kernel
theorem dX8_again_35 : decode cX8_again 35 = .ok (.dup, 1) := by decide +kernel
theorem dX8_again_36 : decode cX8_again 36 = .ok (.getfield 144, 3) := by decide +kernel
theorem dX8_again_39 : decode cX8_again 39 = .ok (.aload_n 2, 1) := by decide +kernel
theorem dX8_again_40 : decode cX8_again 40 = .ok (.getfield 144, 3) := by decide +kernel
theorem dX8_again_43 : decode cX8_again 43 = .ok (.ldc2_w 153, 3) := by decide +kernel
theorem dX8_again_46 : decode cX8_again 46 = .ok (.ldiv, 1) := by decide +kernel
theorem dX8_again_47 : decode cX8_again 47 = .ok (.lsub, 1) := by decide +kernel
theorem dX8_again_48 : decode cX8_again 48 = .ok (.putfield 144, 3) := by decide +kernel
theorem dX8_again_51 : decode cX8_again 51 = .ok (.aload_n 2, 1) := by decide +kernel
theorem dX8_again_52 : decode cX8_again 52 = .ok (.getstatic 155, 3) := by decide +kernel
theorem dX8_again_55 : decode cX8_again 55 = .ok (.putfield 100, 3) := by decide +kernel
theorem dX8_again_58 : decode cX8_again 58 = .ok (.aload_n 0, 1) := by decide +kernel
theorem dX8_again_59 : decode cX8_again 59 = .ok (.getfield 37, 3) := by decide +kernel
theorem dX8_again_62 : decode cX8_again 62 = .ok (.bipush 6, 2) := by decide +kernel
theorem dX8_again_64 : decode cX8_again 64 = .ok (.iload_n 1, 1) := by decide +kernel
theorem dX8_again_65 : decode cX8_again 65 = .ok (.iconst (-1), 1) := by decide +kernel
theorem dX8_again_66 : decode cX8_again 66 = .ok (.aload_n 2, 1) := by decide +kernel
theorem dX8_again_67 : decode cX8_again 67 = .ok (.getfield 144, 3) := by decide +kernel
theorem dX8_again_70 : decode cX8_again 70 = .ok (.invokevirtual 137, 3) := by decide +kernel
theorem dX8_again_73 : decode cX8_again 73 = .ok (.iconst 1, 1) := by decide +kernel
theorem dX8_again_74 : decode cX8_again 74 = .ok (.ireturn, 1) := by decide +kernel
theorem dX8_back_0 : decode cX8_back 0 = .ok (.aload_n 0, 1) := by decide +kernel
theorem dX8_back_1 : decode cX8_back 1 = .ok (.iload_n 1, 1) := by decide +kernel
theorem dX8_back_2 : decode cX8_back 2 = .ok (.invokevirtual 69, 3) := by decide +kernel
theorem dX8_back_5 : decode cX8_back 5 = .ok (.astore_n 2, 1) := by decide +kernel
theorem dX8_back_6 : decode cX8_back 6 = .ok (.aload_n 2, 1) := by decide +kernel
theorem dX8_back_7 : decode cX8_back 7 = .ok (.ifnull 10, 3) := by decide +kernel
theorem dX8_back_10 : decode cX8_back 10 = .ok (.aload_n 2, 1) := by decide +kernel
theorem dX8_back_11 : decode cX8_back 11 = .ok (.invokevirtual 158, 3) := by decide +kernel
theorem dX8_back_14 : decode cX8_back 14 = .ok (.ifCond .ne 5, 3) := by decide +kernel
theorem dX8_back_17 : decode cX8_back 17 = .ok (.iconst (-1), 1) := by decide +kernel
theorem dX8_back_18 : decode cX8_back 18 = .ok (.ireturn, 1) := by decide +kernel
theorem dX8_back_19 : decode cX8_back 19 = .ok (.aload_n 2, 1) := by decide +kernel
theorem dX8_back_20 : decode cX8_back 20 = .ok (.getstatic 161, 3) := by decide +kernel
theorem dX8_back_23 : decode cX8_back 23 = .ok (.putfield 100, 3) := by decide +kernel
theorem dX8_back_26 : decode cX8_back 26 = .ok (.aload_n 0, 1) := by decide +kernel
theorem dX8_back_27 : decode cX8_back 27 = .ok (.getfield 37, 3) := by decide +kernel
theorem dX8_back_30 : decode cX8_back 30 = .ok (.bipush 7, 2) := by decide +kernel
theorem dX8_back_32 : decode cX8_back 32 = .ok (.iload_n 1, 1) := by decide +kernel
theorem dX8_back_33 : decode cX8_back 33 = .ok (.iconst (-1), 1) := by decide +kernel
theorem dX8_back_34 : decode cX8_back 34 = .ok (.lconst 0, 1) := by decide +kernel
theorem dX8_back_35 : decode cX8_back 35 = .ok (.invokevirtual 137, 3) := by decide +kernel
theorem dX8_back_38 : decode cX8_back 38 = .ok (.iconst 1, 1) := by decide +kernel
theorem dX8_back_39 : decode cX8_back 39 = .ok (.ireturn, 1) := by decide +kernel
theorem dX8_start_0 : decode cX8_start 0 = .ok (.aload_n 0, 1) := by decide +kernel
theorem dX8_start_1 : decode cX8_start 1 = .ok (.iload_n 1, 1) := by decide +kernel
theorem dX8_start_2 : decode cX8_start 2 = .ok (.invokevirtual 69, 3) := by decide +kernel
theorem dX8_start_5 : decode cX8_start 5 = .ok (.astore 6, 2) := by decide +kernel
theorem dX8_start_7 : decode cX8_start 7 = .ok (.aload 6, 2) := by decide +kernel
theorem dX8_start_9 : decode cX8_start 9 = .ok (.ifnull 24, 3) := by decide +kernel
theorem dX8_start_12 : decode cX8_start 12 = .ok (.aload 6, 2) := by decide +kernel
theorem dX8_start_14 : decode cX8_start 14 = .ok (.getfield 100, 3) := by decide +kernel
theorem dX8_start_17 : decode cX8_start 17 = .ok (.getstatic 155, 3) := by decide +kernel
theorem dX8_start_20 : decode cX8_start 20 = .ok (.if_acmp .ne 13, 3) := by decide +kernel
theorem dX8_start_23 : decode cX8_start 23 = .ok (.aload_n 0, 1) := by decide +kernel
theorem dX8_start_24 : decode cX8_start 24 = .ok (.getfield 30, 3) := by decide +kernel
theorem dX8_start_27 : decode cX8_start 27 = .ok (.getfield 164, 3) := by decide +kernel
theorem dX8_start_30 : decode cX8_start 30 = .ok (.ifnull 5, 3) := by decide +kernel
theorem dX8_start_33 : decode cX8_start 33 = .ok (.iconst (-1), 1) := by decide +kernel
theorem dX8_start_34 : decode cX8_start 34 = .ok (.ireturn, 1) := by decide +kernel
theorem dX8_start_35 : decode cX8_start 35 = .ok (.lload_n 2, 1) := by decide +kernel
theorem dX8_start_36 : decode cX8_start 36 = .ok (.aload 6, 2) := by decide +kernel
theorem dX8_start_38 : decode cX8_start 38 = .ok (.getfield 144, 3) := by decide +kernel
theorem dX8_start_41 : decode cX8_start 41 = .ok (.ldc2_w 54, 3) := by decide +kernel
theorem dX8_start_44 : decode cX8_start 44 = .ok (.invokestatic 50, 3) := by decide +kernel
theorem dX8_start_47 : decode cX8_start 47 = .ok (.ifCond .eq 15, 3) := by decide +kernel
theorem dX8_start_50 : decode cX8_start 50 = .ok (.lload 4, 2) := by decide +kernel
theorem dX8_start_52 : decode cX8_start 52 = .ok (.lconst 1, 1) := by decide +kernel
theorem dX8_start_53 : decode cX8_start 53 = .ok (.ldc2_w 168, 3) := by decide +kernel
theorem dX8_start_56 : decode cX8_start 56 = .ok (.invokestatic 50, 3) := by decide +kernel
theorem dX8_start_59 : decode cX8_start 59 = .ok (.ifCond .ne 5, 3) := by decide +kernel
theorem dX8_start_62 : decode cX8_start 62 = .ok (.iconst (-1), 1) := by decide +kernel
theorem dX8_start_63 : decode cX8_start 63 = .ok (.ireturn, 1) := by decide +kernel
theorem dX8_start_64 : decode cX8_start 64 = .ok (.lload_n 2, 1) := by decide +kernel
theorem dX8_start_65 : decode cX8_start 65 = .ok (.aload 6, 2) := by decide +kernel
theorem dX8_start_67 : decode cX8_start 67 = .ok (.getfield 144, 3) := by decide +kernel
theorem dX8_start_70 : decode cX8_start 70 = .ok (.lsub, 1) := by decide +kernel
theorem dX8_start_71 : decode cX8_start 71 = .ok (.lload 4, 2) := by decide +kernel
theorem dX8_start_73 : decode cX8_start 73 = .ok (.invokestatic 170, 3) := by decide +kernel
theorem dX8_start_76 : decode cX8_start 76 = .ok (.lstore 7, 2) := by decide +kernel
theorem dX8_start_78 : decode cX8_start 78 = .ok (.lload 7, 2) := by decide +kernel
theorem dX8_start_80 : decode cX8_start 80 = .ok (.ldc2_w 174, 3) := by decide +kernel
theorem dX8_start_83 : decode cX8_start 83 = .ok (.lcmp, 1) := by decide +kernel
theorem dX8_start_84 : decode cX8_start 84 = .ok (.ifCond .le 5, 3) := by decide +kernel
theorem dX8_start_87 : decode cX8_start 87 = .ok (.iconst (-1), 1) := by decide +kernel
theorem dX8_start_88 : decode cX8_start 88 = .ok (.ireturn, 1) := by decide +kernel
theorem dX8_start_89 : decode cX8_start 89 = .ok (.aload_n 0, 1) := by decide +kernel
theorem dX8_start_90 : decode cX8_start 90 = .ok (.getfield 30, 3) := by decide +kernel
theorem dX8_start_93 : decode cX8_start 93 = .ok (.aload 6, 2) := by decide +kernel
theorem dX8_start_95 : decode cX8_start 95 = .ok (.lload_n 2, 1) := by decide +kernel
theorem dX8_start_96 : decode cX8_start 96 = .ok (.lload 4, 2) := by decide +kernel
theorem dX8_start_98 : decode cX8_start 98 = .ok (.lload 7, 2) := by decide +kernel
theorem dX8_start_100 : decode cX8_start 100 = .ok (.invokevirtual 176, 3) := by decide +kernel
theorem dX8_start_103 : decode cX8_start 103 = .ok (.aload 6, 2) := by decide +kernel
theorem dX8_start_105 : decode cX8_start 105 = .ok (.getstatic 180, 3) := by decide +kernel
theorem dX8_start_108 : decode cX8_start 108 = .ok (.putfield 100, 3) := by decide +kernel
theorem dX8_start_111 : decode cX8_start 111 = .ok (.lload 7, 2) := by decide +kernel
theorem dX8_start_113 : decode cX8_start 113 = .ok (.l2i, 1) := by decide +kernel
theorem dX8_start_114 : decode cX8_start 114 = .ok (.ireturn, 1) := by decide +kernel
theorem dX8_delay_0 : decode cX8_delay 0 = .ok (.aload_n 0, 1) := by decide +kernel
theorem dX8_delay_1 : decode cX8_delay 1 = .ok (.iload_n 1, 1) := by decide +kernel
theorem dX8_delay_2 : decode cX8_delay 2 = .ok (.invokevirtual 89, 3) := by decide +kernel
theorem dX8_delay_5 : decode cX8_delay 5 = .ok (.astore 4, 2) := by decide +kernel
theorem dX8_delay_7 : decode cX8_delay 7 = .ok (.aload 4, 2) := by decide +kernel
theorem dX8_delay_9 : decode cX8_delay 9 = .ok (.ifnull 14, 3) := by decide +kernel
theorem dX8_delay_12 : decode cX8_delay 12 = .ok (.lload_n 2, 1) := by decide +kernel
theorem dX8_delay_13 : decode cX8_delay 13 = .ok (.lconst 0, 1) := by decide +kernel
theorem dX8_delay_14 : decode cX8_delay 14 = .ok (.ldc2_w 183, 3) := by decide +kernel
theorem dX8_delay_17 : decode cX8_delay 17 = .ok (.invokestatic 50, 3) := by decide +kernel
theorem dX8_delay_20 : decode cX8_delay 20 = .ok (.ifCond .ne 5, 3) := by decide +kernel
theorem dX8_delay_23 : decode cX8_delay 23 = .ok (.iconst 0, 1) := by decide +kernel
theorem dX8_delay_24 : decode cX8_delay 24 = .ok (.ireturn, 1) := by decide +kernel
theorem dX8_delay_25 : decode cX8_delay 25 = .ok (.aload 4, 2) := by decide +kernel
theorem dX8_delay_27 : decode cX8_delay 27 = .ok (.lload_n 2, 1) := by decide +kernel
theorem dX8_delay_28 : decode cX8_delay 28 = .ok (.putfield 185, 3) := by decide +kernel
theorem dX8_delay_31 : decode cX8_delay 31 = .ok (.iconst 1, 1) := by decide +kernel
theorem dX8_delay_32 : decode cX8_delay 32 = .ok (.ireturn, 1) := by decide +kernel
theorem dX8_press_0 : decode cX8_press 0 = .ok (.aload_n 0, 1) := by decide +kernel
theorem dX8_press_1 : decode cX8_press 1 = .ok (.iload_n 1, 1) := by decide +kernel
theorem dX8_press_2 : decode cX8_press 2 = .ok (.invokevirtual 89, 3) := by decide +kernel
theorem dX8_press_5 : decode cX8_press 5 = .ok (.astore 4, 2) := by decide +kernel
theorem dX8_press_7 : decode cX8_press 7 = .ok (.aload 4, 2) := by decide +kernel
theorem dX8_press_9 : decode cX8_press 9 = .ok (.ifnull 34, 3) := by decide +kernel
theorem dX8_press_12 : decode cX8_press 12 = .ok (.aload_n 0, 1) := by decide +kernel
theorem dX8_press_13 : decode cX8_press 13 = .ok (.getfield 30, 3) := by decide +kernel
theorem dX8_press_16 : decode cX8_press 16 = .ok (.getfield 164, 3) := by decide +kernel
theorem dX8_press_19 : decode cX8_press 19 = .ok (.ifnull 24, 3) := by decide +kernel
theorem dX8_press_22 : decode cX8_press 22 = .ok (.aload_n 0, 1) := by decide +kernel
theorem dX8_press_23 : decode cX8_press 23 = .ok (.getfield 30, 3) := by decide +kernel
theorem dX8_press_26 : decode cX8_press 26 = .ok (.getfield 188, 3) := by decide +kernel
theorem dX8_press_29 : decode cX8_press 29 = .ok (.ifCond .ne 14, 3) := by decide +kernel
theorem dX8_press_32 : decode cX8_press 32 = .ok (.lload_n 2, 1) := by decide +kernel
theorem dX8_press_33 : decode cX8_press 33 = .ok (.lconst 0, 1) := by decide +kernel
theorem dX8_press_34 : decode cX8_press 34 = .ok (.ldc2_w 191, 3) := by decide +kernel
theorem dX8_press_37 : decode cX8_press 37 = .ok (.invokestatic 50, 3) := by decide +kernel
theorem dX8_press_40 : decode cX8_press 40 = .ok (.ifCond .ne 5, 3) := by decide +kernel
theorem dX8_press_43 : decode cX8_press 43 = .ok (.iconst 0, 1) := by decide +kernel
theorem dX8_press_44 : decode cX8_press 44 = .ok (.ireturn, 1) := by decide +kernel
theorem dX8_press_45 : decode cX8_press 45 = .ok (.lconst 0, 1) := by decide +kernel
theorem dX8_press_46 : decode cX8_press 46 = .ok (.lload_n 2, 1) := by decide +kernel
theorem dX8_press_47 : decode cX8_press 47 = .ok (.aload 4, 2) := by decide +kernel
theorem dX8_press_49 : decode cX8_press 49 = .ok (.getfield 185, 3) := by decide +kernel
theorem dX8_press_52 : decode cX8_press 52 = .ok (.lsub, 1) := by decide +kernel
theorem dX8_press_53 : decode cX8_press 53 = .ok (.invokestatic 193, 3) := by decide +kernel
theorem dX8_press_56 : decode cX8_press 56 = .ok (.lstore 5, 2) := by decide +kernel
theorem dX8_press_58 : decode cX8_press 58 = .ok (.lload 5, 2) := by decide +kernel
theorem dX8_press_60 : decode cX8_press 60 = .ok (.aload_n 0, 1) := by decide +kernel
theorem dX8_press_61 : decode cX8_press 61 = .ok (.getfield 30, 3) := by decide +kernel
theorem dX8_press_64 : decode cX8_press 64 = .ok (.getfield 198, 3) := by decide +kernel
theorem dX8_press_67 : decode cX8_press 67 = .ok (.lcmp, 1) := by decide +kernel
theorem dX8_press_68 : decode cX8_press 68 = .ok (.ifCond .ge 13, 3) := by decide +kernel
theorem dX8_press_71 : decode cX8_press 71 = .ok (.aload 4, 2) := by decide +kernel
theorem dX8_press_73 : decode cX8_press 73 = .ok (.lload 5, 2) := by decide +kernel
theorem dX8_press_75 : decode cX8_press 75 = .ok (.invokevirtual 201, 3) := by decide +kernel
theorem dX8_press_78 : decode cX8_press 78 = .ok (.ifCond .eq 5, 3) := by decide +kernel
theorem dX8_press_81 : decode cX8_press 81 = .ok (.iconst 0, 1) := by decide +kernel
theorem dX8_press_82 : decode cX8_press 82 = .ok (.ireturn, 1) := by decide +kernel
theorem dX8_press_83 : decode cX8_press 83 = .ok (.aload 4, 2) := by decide +kernel
theorem dX8_press_85 : decode cX8_press 85 = .ok (.lload 5, 2) := by decide +kernel
theorem dX8_press_87 : decode cX8_press 87 = .ok (.putfield 205, 3) := by decide +kernel
theorem dX8_press_90 : decode cX8_press 90 = .ok (.iconst 1, 1) := by decide +kernel
theorem dX8_press_91 : decode cX8_press 91 = .ok (.ireturn, 1) := by decide +kernel
theorem dX8_tick_0 : decode cX8_tick 0 = .ok (.lload_n 1, 1) := by decide +kernel
theorem dX8_tick_1 : decode cX8_tick 1 = .ok (.lconst 1, 1) := by decide +kernel
theorem dX8_tick_2 : decode cX8_tick 2 = .ok (.ldc2_w 168, 3) := by decide +kernel
theorem dX8_tick_5 : decode cX8_tick 5 = .ok (.invokestatic 50, 3) := by decide +kernel
theorem dX8_tick_8 : decode cX8_tick 8 = .ok (.ifCond .ne 5, 3) := by decide +kernel
theorem dX8_tick_11 : decode cX8_tick 11 = .ok (.iconst (-1), 1) := by decide +kernel
theorem dX8_tick_12 : decode cX8_tick 12 = .ok (.ireturn, 1) := by decide +kernel
theorem dX8_tick_13 : decode cX8_tick 13 = .ok (.aload_n 0, 1) := by decide +kernel
theorem dX8_tick_14 : decode cX8_tick 14 = .ok (.dup, 1) := by decide +kernel
theorem dX8_tick_15 : decode cX8_tick 15 = .ok (.getfield 208, 3) := by decide +kernel
theorem dX8_tick_18 : decode cX8_tick 18 = .ok (.lload_n 1, 1) := by decide +kernel
theorem dX8_tick_19 : decode cX8_tick 19 = .ok (.ladd, 1) := by decide +kernel
theorem dX8_tick_20 : decode cX8_tick 20 = .ok (.putfield 208, 3) := by decide +kernel
theorem dX8_tick_23 : decode cX8_tick 23 = .ok (.aload_n 0, 1) := by decide +kernel
theorem dX8_tick_24 : decode cX8_tick 24 = .ok (.lload_n 1, 1) := by decide +kernel
theorem dX8_tick_25 : decode cX8_tick 25 = .ok (.invokevirtual 211, 3) := by decide +kernel
theorem dX8_tick_28 : decode cX8_tick 28 = .ok (.istore_n 3, 1) := by decide +kernel
theorem dX8_tick_29 : decode cX8_tick 29 = .ok (.aload_n 0, 1) := by decide +kernel
theorem dX8_tick_30 : decode cX8_tick 30 = .ok (.invokevirtual 215, 3) := by decide +kernel
theorem dX8_tick_33 : decode cX8_tick 33 = .ok (.iload_n 3, 1) := by decide +kernel
theorem dX8_tick_34 : decode cX8_tick 34 = .ok (.ireturn, 1) := by decide +kernel
theorem dX8_outage_0 : decode cX8_outage 0 = .ok (.aload_n 0, 1) := by decide +kernel
theorem dX8_outage_1 : decode cX8_outage 1 = .ok (.getfield 30, 3) := by decide +kernel
theorem dX8_outage_4 : decode cX8_outage 4 = .ok (.getfield 164, 3) := by decide +kernel
theorem dX8_outage_7 : decode cX8_outage 7 = .ok (.ifnull 14, 3) := by decide +kernel
theorem dX8_outage_10 : decode cX8_outage 10 = .ok (.aload_n 0, 1) := by decide +kernel
theorem dX8_outage_11 : decode cX8_outage 11 = .ok (.getfield 30, 3) := by decide +kernel
theorem dX8_outage_14 : decode cX8_outage 14 = .ok (.getfield 188, 3) := by decide +kernel
theorem dX8_outage_17 : decode cX8_outage 17 = .ok (.iload_n 3, 1) := by decide +kernel
theorem dX8_outage_18 : decode cX8_outage 18 = .ok (.if_icmp .ne 5, 3) := by decide +kernel
theorem dX8_outage_21 : decode cX8_outage 21 = .ok (.iconst 0, 1) := by decide +kernel
theorem dX8_outage_22 : decode cX8_outage 22 = .ok (.ireturn, 1) := by decide +kernel
theorem dX8_outage_23 : decode cX8_outage 23 = .ok (.lload_n 1, 1) := by decide +kernel
theorem dX8_outage_24 : decode cX8_outage 24 = .ok (.lconst 0, 1) := by decide +kernel
theorem dX8_outage_25 : decode cX8_outage 25 = .ok (.iload_n 3, 1) := by decide +kernel
theorem dX8_outage_26 : decode cX8_outage 26 = .ok (.ifCond .eq 13, 3) := by decide +kernel
theorem dX8_outage_29 : decode cX8_outage 29 = .ok (.aload_n 0, 1) := by decide +kernel
theorem dX8_outage_30 : decode cX8_outage 30 = .ok (.getfield 30, 3) := by decide +kernel
theorem dX8_outage_33 : decode cX8_outage 33 = .ok (.getfield 218, 3) := by decide +kernel
theorem dX8_outage_36 : decode cX8_outage 36 = .ok (.goto 4, 3) := by decide +kernel
theorem dX8_outage_39 : decode cX8_outage 39 = .ok (.lconst 0, 1) := by decide +kernel
theorem dX8_outage_40 : decode cX8_outage 40 = .ok (.invokestatic 50, 3) := by decide +kernel
theorem dX8_outage_43 : decode cX8_outage 43 = .ok (.ifCond .ne 5, 3) := by decide +kernel
theorem dX8_outage_46 : decode cX8_outage 46 = .ok (.iconst 0, 1) := by decide +kernel
theorem dX8_outage_47 : decode cX8_outage 47 = .ok (.ireturn, 1) := by decide +kernel
theorem dX8_outage_48 : decode cX8_outage 48 = .ok (.aload_n 0, 1) := by decide +kernel
theorem dX8_outage_49 : decode cX8_outage 49 = .ok (.getfield 30, 3) := by decide +kernel
theorem dX8_outage_52 : decode cX8_outage 52 = .ok (.iload_n 3, 1) := by decide +kernel
theorem dX8_outage_53 : decode cX8_outage 53 = .ok (.putfield 188, 3) := by decide +kernel
theorem dX8_outage_56 : decode cX8_outage 56 = .ok (.iload_n 3, 1) := by decide +kernel
theorem dX8_outage_57 : decode cX8_outage 57 = .ok (.ifCond .eq 30, 3) := by decide +kernel
theorem dX8_outage_60 : decode cX8_outage 60 = .ok (.aload_n 0, 1) := by decide +kernel
theorem dX8_outage_61 : decode cX8_outage 61 = .ok (.getfield 30, 3) := by decide +kernel
theorem dX8_outage_64 : decode cX8_outage 64 = .ok (.aload_n 0, 1) := by decide +kernel
theorem dX8_outage_65 : decode cX8_outage 65 = .ok (.getfield 30, 3) := by decide +kernel
theorem dX8_outage_68 : decode cX8_outage 68 = .ok (.getfield 218, 3) := by decide +kernel
theorem dX8_outage_71 : decode cX8_outage 71 = .ok (.lload_n 1, 1) := by decide +kernel
theorem dX8_outage_72 : decode cX8_outage 72 = .ok (.lsub, 1) := by decide +kernel
theorem dX8_outage_73 : decode cX8_outage 73 = .ok (.invokevirtual 221, 3) := by decide +kernel
theorem dX8_outage_76 : decode cX8_outage 76 = .ok (.aload_n 0, 1) := by decide +kernel
theorem dX8_outage_77 : decode cX8_outage 77 = .ok (.aload_n 0, 1) := by decide +kernel
theorem dX8_outage_78 : decode cX8_outage 78 = .ok (.getfield 30, 3) := by decide +kernel
theorem dX8_outage_81 : decode cX8_outage 81 = .ok (.getfield 218, 3) := by decide +kernel
theorem dX8_outage_84 : decode cX8_outage 84 = .ok (.invokevirtual 225, 3) := by decide +kernel
theorem dX8_outage_87 : decode cX8_outage 87 = .ok (.iconst 1, 1) := by decide +kernel
theorem dX8_outage_88 : decode cX8_outage 88 = .ok (.ireturn, 1) := by decide +kernel
theorem dX8_clock_0 : decode cX8_clock 0 = .ok (.aload_n 0, 1) := by decide +kernel
theorem dX8_clock_1 : decode cX8_clock 1 = .ok (.getfield 30, 3) := by decide +kernel
theorem dX8_clock_4 : decode cX8_clock 4 = .ok (.getfield 164, 3) := by decide +kernel
theorem dX8_clock_7 : decode cX8_clock 7 = .ok (.ifnonnull 9, 3) := by decide +kernel
theorem dX8_clock_10 : decode cX8_clock 10 = .ok (.ldc2_w 80, 3) := by decide +kernel
theorem dX8_clock_13 : decode cX8_clock 13 = .ok (.goto 17, 3) := by decide +kernel
theorem dX8_clock_16 : decode cX8_clock 16 = .ok (.aload_n 0, 1) := by decide +kernel
theorem dX8_clock_17 : decode cX8_clock 17 = .ok (.getfield 30, 3) := by decide +kernel
theorem dX8_clock_20 : decode cX8_clock 20 = .ok (.aload_n 0, 1) := by decide +kernel
theorem dX8_clock_21 : decode cX8_clock 21 = .ok (.getfield 30, 3) := by decide +kernel
theorem dX8_clock_24 : decode cX8_clock 24 = .ok (.getfield 218, 3) := by decide +kernel
theorem dX8_clock_27 : decode cX8_clock 27 = .ok (.invokevirtual 228, 3) := by decide +kernel
theorem dX8_clock_30 : decode cX8_clock 30 = .ok (.lreturn, 1) := by decide +kernel
theorem dX8_tie_0 : decode cX8_tie 0 = .ok (.aload_n 0, 1) := by decide +kernel
theorem dX8_tie_1 : decode cX8_tie 1 = .ok (.iload_n 1, 1) := by decide +kernel
theorem dX8_tie_2 : decode cX8_tie 2 = .ok (.invokevirtual 69, 3) := by decide +kernel
theorem dX8_tie_5 : decode cX8_tie 5 = .ok (.astore_n 3, 1) := by decide +kernel
theorem dX8_tie_6 : decode cX8_tie 6 = .ok (.aload_n 3, 1) := by decide +kernel
theorem dX8_tie_7 : decode cX8_tie 7 = .ok (.ifnull 7, 3) := by decide +kernel
theorem dX8_tie_10 : decode cX8_tie 10 = .ok (.iload_n 2, 1) := by decide +kernel
theorem dX8_tie_11 : decode cX8_tie 11 = .ok (.ifCond .ge 5, 3) := by decide +kernel
theorem dX8_tie_14 : decode cX8_tie 14 = .ok (.iconst (-1), 1) := by decide +kernel
theorem dX8_tie_15 : decode cX8_tie 15 = .ok (.ireturn, 1) := by decide +kernel
theorem dX8_tie_16 : decode cX8_tie 16 = .ok (.iconst 0, 1) := by decide +kernel
theorem dX8_tie_17 : decode cX8_tie 17 = .ok (.istore 4, 2) := by decide +kernel
theorem dX8_tie_19 : decode cX8_tie 19 = .ok (.iconst 0, 1) := by decide +kernel
theorem dX8_tie_20 : decode cX8_tie 20 = .ok (.istore 5, 2) := by decide +kernel
theorem dX8_tie_22 : decode cX8_tie 22 = .ok (.iload 5, 2) := by decide +kernel
theorem dX8_tie_24 : decode cX8_tie 24 = .ok (.aload_n 0, 1) := by decide +kernel
theorem dX8_tie_25 : decode cX8_tie 25 = .ok (.getfield 60, 3) := by decide +kernel
theorem dX8_tie_28 : decode cX8_tie 28 = .ok (.if_icmp .ge 30, 3) := by decide +kernel
theorem dX8_tie_31 : decode cX8_tie 31 = .ok (.aload_n 3, 1) := by decide +kernel
theorem dX8_tie_32 : decode cX8_tie 32 = .ok (.iload 5, 2) := by decide +kernel
theorem dX8_tie_34 : decode cX8_tie 34 = .ok (.invokevirtual 232, 3) := by decide +kernel
theorem dX8_tie_37 : decode cX8_tie 37 = .ok (.ifCond .eq 15, 3) := by decide +kernel
theorem dX8_tie_40 : decode cX8_tie 40 = .ok (.iload 4, 2) := by decide +kernel
theorem dX8_tie_42 : decode cX8_tie 42 = .ok (.iload_n 2, 1) := by decide +kernel
theorem dX8_tie_43 : decode cX8_tie 43 = .ok (.if_icmp .ne 6, 3) := by decide +kernel
theorem dX8_tie_46 : decode cX8_tie 46 = .ok (.iload 5, 2) := by decide +kernel
theorem dX8_tie_48 : decode cX8_tie 48 = .ok (.ireturn, 1) := by decide +kernel
theorem dX8_tie_49 : decode cX8_tie 49 = .ok (.iinc 4 1, 3) := by decide +kernel
theorem dX8_tie_52 : decode cX8_tie 52 = .ok (.iinc 5 1, 3) := by decide +kernel
theorem dX8_tie_55 : decode cX8_tie 55 = .ok (.goto (-33), 3) := by decide +kernel
theorem dX8_tie_58 : decode cX8_tie 58 = .ok (.iconst (-1), 1) := by decide +kernel
theorem dX8_tie_59 : decode cX8_tie 59 = .ok (.ireturn, 1) := by decide +kernel
theorem dX8_rise_0 : decode cX8_rise 0 = .ok (.aload_n 0, 1) := by decide +kernel
theorem dX8_rise_1 : decode cX8_rise 1 = .ok (.iload_n 1, 1) := by decide +kernel
theorem dX8_rise_2 : decode cX8_rise 2 = .ok (.invokevirtual 69, 3) := by decide +kernel
theorem dX8_rise_5 : decode cX8_rise 5 = .ok (.astore 5, 2) := by decide +kernel
theorem dX8_rise_7 : decode cX8_rise 7 = .ok (.aload_n 0, 1) := by decide +kernel
theorem dX8_rise_8 : decode cX8_rise 8 = .ok (.iload_n 2, 1) := by decide +kernel
theorem dX8_rise_9 : decode cX8_rise 9 = .ok (.invokevirtual 89, 3) := by decide +kernel
theorem dX8_rise_12 : decode cX8_rise 12 = .ok (.astore 6, 2) := by decide +kernel
theorem dX8_rise_14 : decode cX8_rise 14 = .ok (.aload 5, 2) := by decide +kernel
theorem dX8_rise_16 : decode cX8_rise 16 = .ok (.ifnull 8, 3) := by decide +kernel
theorem dX8_rise_19 : decode cX8_rise 19 = .ok (.aload 6, 2) := by decide +kernel
theorem dX8_rise_21 : decode cX8_rise 21 = .ok (.ifnonnull 5, 3) := by decide +kernel
theorem dX8_rise_24 : decode cX8_rise 24 = .ok (.iconst 1, 1) := by decide +kernel
theorem dX8_rise_25 : decode cX8_rise 25 = .ok (.ireturn, 1) := by decide +kernel
theorem dX8_rise_26 : decode cX8_rise 26 = .ok (.aload 5, 2) := by decide +kernel
theorem dX8_rise_28 : decode cX8_rise 28 = .ok (.getfield 100, 3) := by decide +kernel
theorem dX8_rise_31 : decode cX8_rise 31 = .ok (.getstatic 155, 3) := by decide +kernel
theorem dX8_rise_34 : decode cX8_rise 34 = .ok (.if_acmp .eq 16, 3) := by decide +kernel
theorem dX8_rise_37 : decode cX8_rise 37 = .ok (.aload 5, 2) := by decide +kernel
theorem dX8_rise_39 : decode cX8_rise 39 = .ok (.getfield 100, 3) := by decide +kernel
theorem dX8_rise_42 : decode cX8_rise 42 = .ok (.getstatic 235, 3) := by decide +kernel
theorem dX8_rise_45 : decode cX8_rise 45 = .ok (.if_acmp .eq 5, 3) := by decide +kernel
theorem dX8_rise_48 : decode cX8_rise 48 = .ok (.iconst 2, 1) := by decide +kernel
theorem dX8_rise_49 : decode cX8_rise 49 = .ok (.ireturn, 1) := by decide +kernel
theorem dX8_rise_50 : decode cX8_rise 50 = .ok (.lload_n 3, 1) := by decide +kernel
theorem dX8_rise_51 : decode cX8_rise 51 = .ok (.aload 5, 2) := by decide +kernel
theorem dX8_rise_53 : decode cX8_rise 53 = .ok (.invokevirtual 238, 3) := by decide +kernel
theorem dX8_rise_56 : decode cX8_rise 56 = .ok (.lcmp, 1) := by decide +kernel
theorem dX8_rise_57 : decode cX8_rise 57 = .ok (.ifCond .ge 5, 3) := by decide +kernel
theorem dX8_rise_60 : decode cX8_rise 60 = .ok (.iconst 3, 1) := by decide +kernel
theorem dX8_rise_61 : decode cX8_rise 61 = .ok (.ireturn, 1) := by decide +kernel
theorem dX8_rise_62 : decode cX8_rise 62 = .ok (.lload_n 3, 1) := by decide +kernel
theorem dX8_rise_63 : decode cX8_rise 63 = .ok (.aload_n 0, 1) := by decide +kernel
theorem dX8_rise_64 : decode cX8_rise 64 = .ok (.aload 6, 2) := by decide +kernel
theorem dX8_rise_66 : decode cX8_rise 66 = .ok (.invokevirtual 96, 3) := by decide +kernel
theorem dX8_rise_69 : decode cX8_rise 69 = .ok (.aload 5, 2) := by decide +kernel
theorem dX8_rise_71 : decode cX8_rise 71 = .ok (.iload_n 2, 1) := by decide +kernel
theorem dX8_rise_72 : decode cX8_rise 72 = .ok (.invokevirtual 242, 3) := by decide +kernel
theorem dX8_rise_75 : decode cX8_rise 75 = .ok (.ladd, 1) := by decide +kernel
theorem dX8_rise_76 : decode cX8_rise 76 = .ok (.lcmp, 1) := by decide +kernel
theorem dX8_rise_77 : decode cX8_rise 77 = .ok (.ifCond .le 5, 3) := by decide +kernel
theorem dX8_rise_80 : decode cX8_rise 80 = .ok (.iconst 4, 1) := by decide +kernel
theorem dX8_rise_81 : decode cX8_rise 81 = .ok (.ireturn, 1) := by decide +kernel
theorem dX8_rise_82 : decode cX8_rise 82 = .ok (.aload 5, 2) := by decide +kernel
theorem dX8_rise_84 : decode cX8_rise 84 = .ok (.getstatic 235, 3) := by decide +kernel
theorem dX8_rise_87 : decode cX8_rise 87 = .ok (.putfield 100, 3) := by decide +kernel
theorem dX8_rise_90 : decode cX8_rise 90 = .ok (.aload 5, 2) := by decide +kernel
theorem dX8_rise_92 : decode cX8_rise 92 = .ok (.iload_n 2, 1) := by decide +kernel
theorem dX8_rise_93 : decode cX8_rise 93 = .ok (.putfield 77, 3) := by decide +kernel
theorem dX8_rise_96 : decode cX8_rise 96 = .ok (.aload 5, 2) := by decide +kernel
theorem dX8_rise_98 : decode cX8_rise 98 = .ok (.lload_n 3, 1) := by decide +kernel
theorem dX8_rise_99 : decode cX8_rise 99 = .ok (.putfield 82, 3) := by decide +kernel
theorem dX8_rise_102 : decode cX8_rise 102 = .ok (.aload 5, 2) := by decide +kernel
theorem dX8_rise_104 : decode cX8_rise 104 = .ok (.aload_n 0, 1) := by decide +kernel
theorem dX8_rise_105 : decode cX8_rise 105 = .ok (.getfield 208, 3) := by decide +kernel
theorem dX8_rise_108 : decode cX8_rise 108 = .ok (.putfield 246, 3) := by decide +kernel
theorem dX8_rise_111 : decode cX8_rise 111 = .ok (.iconst 0, 1) := by decide +kernel
theorem dX8_rise_112 : decode cX8_rise 112 = .ok (.ireturn, 1) := by decide +kernel
theorem dX8_bid_0 : decode cX8_bid 0 = .ok (.aload_n 0, 1) := by decide +kernel
theorem dX8_bid_1 : decode cX8_bid 1 = .ok (.getfield 249, 3) := by decide +kernel
theorem dX8_bid_4 : decode cX8_bid 4 = .ok (.istore 4, 2) := by decide +kernel
theorem dX8_bid_6 : decode cX8_bid 6 = .ok (.aload_n 0, 1) := by decide +kernel
theorem dX8_bid_7 : decode cX8_bid 7 = .ok (.iload_n 1, 1) := by decide +kernel
theorem dX8_bid_8 : decode cX8_bid 8 = .ok (.invokevirtual 89, 3) := by decide +kernel
theorem dX8_bid_11 : decode cX8_bid 11 = .ok (.ifnull 18, 3) := by decide +kernel
theorem dX8_bid_14 : decode cX8_bid 14 = .ok (.iload 4, 2) := by decide +kernel
theorem dX8_bid_16 : decode cX8_bid 16 = .ok (.ifCond .lt 13, 3) := by decide +kernel
theorem dX8_bid_19 : decode cX8_bid 19 = .ok (.iload 4, 2) := by decide +kernel
theorem dX8_bid_21 : decode cX8_bid 21 = .ok (.aload_n 0, 1) := by decide +kernel
theorem dX8_bid_22 : decode cX8_bid 22 = .ok (.getfield 23, 3) := by decide +kernel
theorem dX8_bid_25 : decode cX8_bid 25 = .ok (.arraylength, 1) := by decide +kernel
theorem dX8_bid_26 : decode cX8_bid 26 = .ok (.if_icmp .lt 5, 3) := by decide +kernel
theorem dX8_bid_29 : decode cX8_bid 29 = .ok (.iconst (-1), 1) := by decide +kernel
theorem dX8_bid_30 : decode cX8_bid 30 = .ok (.ireturn, 1) := by decide +kernel
theorem dX8_bid_31 : decode cX8_bid 31 = .ok (.lload_n 2, 1) := by decide +kernel
theorem dX8_bid_32 : decode cX8_bid 32 = .ok (.lconst 0, 1) := by decide +kernel
theorem dX8_bid_33 : decode cX8_bid 33 = .ok (.ldc2_w 64, 3) := by decide +kernel
theorem dX8_bid_36 : decode cX8_bid 36 = .ok (.invokestatic 50, 3) := by decide +kernel
theorem dX8_bid_39 : decode cX8_bid 39 = .ok (.ifCond .ne 5, 3) := by decide +kernel
theorem dX8_bid_42 : decode cX8_bid 42 = .ok (.iconst (-1), 1) := by decide +kernel
theorem dX8_bid_43 : decode cX8_bid 43 = .ok (.ireturn, 1) := by decide +kernel
theorem dX8_bid_44 : decode cX8_bid 44 = .ok (.aload_n 0, 1) := by decide +kernel
theorem dX8_bid_45 : decode cX8_bid 45 = .ok (.getfield 23, 3) := by decide +kernel
theorem dX8_bid_48 : decode cX8_bid 48 = .ok (.iload 4, 2) := by decide +kernel
theorem dX8_bid_50 : decode cX8_bid 50 = .ok (.new 21, 3) := by decide +kernel
theorem dX8_bid_53 : decode cX8_bid 53 = .ok (.dup, 1) := by decide +kernel
theorem dX8_bid_54 : decode cX8_bid 54 = .ok (.iload 4, 2) := by decide +kernel
theorem dX8_bid_56 : decode cX8_bid 56 = .ok (.iload_n 1, 1) := by decide +kernel
theorem dX8_bid_57 : decode cX8_bid 57 = .ok (.lload_n 2, 1) := by decide +kernel
theorem dX8_bid_58 : decode cX8_bid 58 = .ok (.invokespecial 252, 3) := by decide +kernel
theorem dX8_bid_61 : decode cX8_bid 61 = .ok (.aastore, 1) := by decide +kernel
theorem dX8_bid_62 : decode cX8_bid 62 = .ok (.aload_n 0, 1) := by decide +kernel
theorem dX8_bid_63 : decode cX8_bid 63 = .ok (.iload 4, 2) := by decide +kernel
theorem dX8_bid_65 : decode cX8_bid 65 = .ok (.iconst 1, 1) := by decide +kernel
theorem dX8_bid_66 : decode cX8_bid 66 = .ok (.iadd, 1) := by decide +kernel
theorem dX8_bid_67 : decode cX8_bid 67 = .ok (.putfield 249, 3) := by decide +kernel
theorem dX8_bid_70 : decode cX8_bid 70 = .ok (.iload 4, 2) := by decide +kernel
theorem dX8_bid_72 : decode cX8_bid 72 = .ok (.ireturn, 1) := by decide +kernel
theorem dX8_on_0 : decode cX8_on 0 = .ok (.aload_n 0, 1) := by decide +kernel
theorem dX8_on_1 : decode cX8_on 1 = .ok (.iload_n 1, 1) := by decide +kernel
theorem dX8_on_2 : decode cX8_on 2 = .ok (.invokevirtual 255, 3) := by decide +kernel
theorem dX8_on_5 : decode cX8_on 5 = .ok (.astore_n 3, 1) := by decide +kernel
theorem dX8_on_6 : decode cX8_on 6 = .ok (.aload_n 0, 1) := by decide +kernel
theorem dX8_on_7 : decode cX8_on 7 = .ok (.iload_n 2, 1) := by decide +kernel
theorem dX8_on_8 : decode cX8_on 8 = .ok (.invokevirtual 69, 3) := by decide +kernel
theorem dX8_on_11 : decode cX8_on 11 = .ok (.astore 4, 2) := by decide +kernel
theorem dX8_on_13 : decode cX8_on 13 = .ok (.aload_n 3, 1) := by decide +kernel
theorem dX8_on_14 : decode cX8_on 14 = .ok (.ifnull 27, 3) := by decide +kernel
theorem dX8_on_17 : decode cX8_on 17 = .ok (.aload 4, 2) := by decide +kernel
theorem dX8_on_19 : decode cX8_on 19 = .ok (.ifnull 22, 3) := by decide +kernel
theorem dX8_on_22 : decode cX8_on 22 = .ok (.aload_n 3, 1) := by decide +kernel
theorem dX8_on_23 : decode cX8_on 23 = .ok (.iload_n 2, 1) := by decide +kernel
theorem dX8_on_24 : decode cX8_on 24 = .ok (.invokevirtual 259, 3) := by decide +kernel
theorem dX8_on_27 : decode cX8_on 27 = .ok (.ifCond .ne 14, 3) := by decide +kernel
theorem dX8_on_30 : decode cX8_on 30 = .ok (.aload 4, 2) := by decide +kernel
theorem dX8_on_32 : decode cX8_on 32 = .ok (.getfield 100, 3) := by decide +kernel
theorem dX8_on_35 : decode cX8_on 35 = .ok (.getstatic 155, 3) := by decide +kernel
theorem dX8_on_38 : decode cX8_on 38 = .ok (.if_acmp .eq 5, 3) := by decide +kernel
theorem dX8_on_41 : decode cX8_on 41 = .ok (.iconst 0, 1) := by decide +kernel
theorem dX8_on_42 : decode cX8_on 42 = .ok (.ireturn, 1) := by decide +kernel
theorem dX8_on_43 : decode cX8_on 43 = .ok (.aload_n 3, 1) := by decide +kernel
theorem dX8_on_44 : decode cX8_on 44 = .ok (.iload_n 2, 1) := by decide +kernel
theorem dX8_on_45 : decode cX8_on 45 = .ok (.invokevirtual 262, 3) := by decide +kernel
theorem dX8_on_48 : decode cX8_on 48 = .ok (.iconst 1, 1) := by decide +kernel
theorem dX8_on_49 : decode cX8_on 49 = .ok (.ireturn, 1) := by decide +kernel
theorem dX8_sets_0 : decode cX8_sets 0 = .ok (.aload_n 0, 1) := by decide +kernel
theorem dX8_sets_1 : decode cX8_sets 1 = .ok (.aload_n 0, 1) := by decide +kernel
theorem dX8_sets_2 : decode cX8_sets 2 = .ok (.getfield 249, 3) := by decide +kernel
theorem dX8_sets_5 : decode cX8_sets 5 = .ok (.ifCond .le 27, 3) := by decide +kernel
theorem dX8_sets_8 : decode cX8_sets 8 = .ok (.aload_n 0, 1) := by decide +kernel
theorem dX8_sets_9 : decode cX8_sets 9 = .ok (.getfield 249, 3) := by decide +kernel
theorem dX8_sets_12 : decode cX8_sets 12 = .ok (.bipush 18, 2) := by decide +kernel
theorem dX8_sets_14 : decode cX8_sets 14 = .ok (.if_icmp .gt 18, 3) := by decide +kernel
theorem dX8_sets_17 : decode cX8_sets 17 = .ok (.lconst 1, 1) := by decide +kernel
theorem dX8_sets_18 : decode cX8_sets 18 = .ok (.aload_n 0, 1) := by decide +kernel
theorem dX8_sets_19 : decode cX8_sets 19 = .ok (.getfield 249, 3) := by decide +kernel
theorem dX8_sets_22 : decode cX8_sets 22 = .ok (.lshl, 1) := by decide +kernel
theorem dX8_sets_23 : decode cX8_sets 23 = .ok (.lload_n 1, 1) := by decide +kernel
theorem dX8_sets_24 : decode cX8_sets 24 = .ok (.lcmp, 1) := by decide +kernel
theorem dX8_sets_25 : decode cX8_sets 25 = .ok (.ifCond .gt 7, 3) := by decide +kernel
theorem dX8_sets_28 : decode cX8_sets 28 = .ok (.iconst 1, 1) := by decide +kernel
theorem dX8_sets_29 : decode cX8_sets 29 = .ok (.goto 4, 3) := by decide +kernel
theorem dX8_sets_32 : decode cX8_sets 32 = .ok (.iconst 0, 1) := by decide +kernel
theorem dX8_sets_33 : decode cX8_sets 33 = .ok (.putfield 265, 3) := by decide +kernel
theorem dX8_sets_36 : decode cX8_sets 36 = .ok (.aload_n 0, 1) := by decide +kernel
theorem dX8_sets_37 : decode cX8_sets 37 = .ok (.getfield 265, 3) := by decide +kernel
theorem dX8_sets_40 : decode cX8_sets 40 = .ok (.ifCond .ne 5, 3) := by decide +kernel
theorem dX8_sets_43 : decode cX8_sets 43 = .ok (.iconst (-1), 1) := by decide +kernel
theorem dX8_sets_44 : decode cX8_sets 44 = .ok (.ireturn, 1) := by decide +kernel
theorem dX8_sets_45 : decode cX8_sets 45 = .ok (.aload_n 0, 1) := by decide +kernel
theorem dX8_sets_46 : decode cX8_sets 46 = .ok (.invokevirtual 268, 3) := by decide +kernel
theorem dX8_sets_49 : decode cX8_sets 49 = .ok (.iconst 0, 1) := by decide +kernel
theorem dX8_sets_50 : decode cX8_sets 50 = .ok (.istore_n 3, 1) := by decide +kernel
theorem dX8_sets_51 : decode cX8_sets 51 = .ok (.iload_n 3, 1) := by decide +kernel
theorem dX8_sets_52 : decode cX8_sets 52 = .ok (.aload_n 0, 1) := by decide +kernel
theorem dX8_sets_53 : decode cX8_sets 53 = .ok (.getfield 249, 3) := by decide +kernel
theorem dX8_sets_56 : decode cX8_sets 56 = .ok (.if_icmp .ge 38, 3) := by decide +kernel
theorem dX8_sets_59 : decode cX8_sets 59 = .ok (.aload_n 0, 1) := by decide +kernel
theorem dX8_sets_60 : decode cX8_sets 60 = .ok (.iload_n 3, 1) := by decide +kernel
theorem dX8_sets_61 : decode cX8_sets 61 = .ok (.invokevirtual 255, 3) := by decide +kernel
theorem dX8_sets_64 : decode cX8_sets 64 = .ok (.astore 4, 2) := by decide +kernel
theorem dX8_sets_66 : decode cX8_sets 66 = .ok (.aload 4, 2) := by decide +kernel
theorem dX8_sets_68 : decode cX8_sets 68 = .ok (.ifnull 20, 3) := by decide +kernel
theorem dX8_sets_71 : decode cX8_sets 71 = .ok (.aload_n 0, 1) := by decide +kernel
theorem dX8_sets_72 : decode cX8_sets 72 = .ok (.getfield 44, 3) := by decide +kernel
theorem dX8_sets_75 : decode cX8_sets 75 = .ok (.iload_n 3, 1) := by decide +kernel
theorem dX8_sets_76 : decode cX8_sets 76 = .ok (.invokevirtual 271, 3) := by decide +kernel
theorem dX8_sets_79 : decode cX8_sets 79 = .ok (.ifCond .eq 9, 3) := by decide +kernel
theorem dX8_sets_82 : decode cX8_sets 82 = .ok (.aload_n 0, 1) := by decide +kernel
theorem dX8_sets_83 : decode cX8_sets 83 = .ok (.aload 4, 2) := by decide +kernel
theorem dX8_sets_85 : decode cX8_sets 85 = .ok (.invokevirtual 274, 3) := by decide +kernel
theorem dX8_sets_88 : decode cX8_sets 88 = .ok (.iinc 3 1, 3) := by decide +kernel
theorem dX8_sets_91 : decode cX8_sets 91 = .ok (.goto (-40), 3) := by decide +kernel
theorem dX8_sets_94 : decode cX8_sets 94 = .ok (.aload_n 0, 1) := by decide +kernel
theorem dX8_sets_95 : decode cX8_sets 95 = .ok (.iconst 0, 1) := by decide +kernel
theorem dX8_sets_96 : decode cX8_sets 96 = .ok (.putfield 249, 3) := by decide +kernel
theorem dX8_sets_99 : decode cX8_sets 99 = .ok (.aload_n 0, 1) := by decide +kernel
theorem dX8_sets_100 : decode cX8_sets 100 = .ok (.getfield 44, 3) := by decide +kernel
theorem dX8_sets_103 : decode cX8_sets 103 = .ok (.invokevirtual 278, 3) := by decide +kernel
theorem dX8_sets_106 : decode cX8_sets 106 = .ok (.ireturn, 1) := by decide +kernel
theorem dX8_wins_0 : decode cX8_wins 0 = .ok (.aload_n 0, 1) := by decide +kernel
theorem dX8_wins_1 : decode cX8_wins 1 = .ok (.getfield 44, 3) := by decide +kernel
theorem dX8_wins_4 : decode cX8_wins 4 = .ok (.iload_n 1, 1) := by decide +kernel
theorem dX8_wins_5 : decode cX8_wins 5 = .ok (.invokevirtual 271, 3) := by decide +kernel
theorem dX8_wins_8 : decode cX8_wins 8 = .ok (.ireturn, 1) := by decide +kernel
theorem dX8_sum_0 : decode cX8_sum 0 = .ok (.aload_n 0, 1) := by decide +kernel
theorem dX8_sum_1 : decode cX8_sum 1 = .ok (.getfield 44, 3) := by decide +kernel
theorem dX8_sum_4 : decode cX8_sum 4 = .ok (.getfield 282, 3) := by decide +kernel
theorem dX8_sum_7 : decode cX8_sum 7 = .ok (.lreturn, 1) := by decide +kernel
theorem dX8_proved_0 : decode cX8_proved 0 = .ok (.aload_n 0, 1) := by decide +kernel
theorem dX8_proved_1 : decode cX8_proved 1 = .ok (.getfield 265, 3) := by decide +kernel
theorem dX8_proved_4 : decode cX8_proved 4 = .ok (.ireturn, 1) := by decide +kernel
theorem dX8_record_0 : decode cX8_record 0 = .ok (.aload_n 0, 1) := by decide +kernel
theorem dX8_record_1 : decode cX8_record 1 = .ok (.getfield 37, 3) := by decide +kernel
theorem dX8_record_4 : decode cX8_record 4 = .ok (.iload_n 1, 1) := by decide +kernel
theorem dX8_record_5 : decode cX8_record 5 = .ok (.invokevirtual 285, 3) := by decide +kernel
theorem dX8_record_8 : decode cX8_record 8 = .ok (.astore_n 3, 1) := by decide +kernel
theorem dX8_record_9 : decode cX8_record 9 = .ok (.aload_n 3, 1) := by decide +kernel
theorem dX8_record_10 : decode cX8_record 10 = .ok (.ifnonnull 5, 3) := by decide +kernel
theorem dX8_record_13 : decode cX8_record 13 = .ok (.iconst (-1), 1) := by decide +kernel
theorem dX8_record_14 : decode cX8_record 14 = .ok (.ireturn, 1) := by decide +kernel
theorem dX8_record_15 : decode cX8_record 15 = .ok (.iload_n 2, 1) := by decide +kernel
theorem dX8_record_16 : decode cX8_record 16 = .ok (.tableswitch 66 0 4 #[36, 41, 46, 51, 61], 36) := by decide +kernel
theorem dX8_record_52 : decode cX8_record 52 = .ok (.aload_n 3, 1) := by decide +kernel
theorem dX8_record_53 : decode cX8_record 53 = .ok (.getfield 289, 3) := by decide +kernel
theorem dX8_record_56 : decode cX8_record 56 = .ok (.ireturn, 1) := by decide +kernel
theorem dX8_record_57 : decode cX8_record 57 = .ok (.aload_n 3, 1) := by decide +kernel
theorem dX8_record_58 : decode cX8_record 58 = .ok (.getfield 294, 3) := by decide +kernel
theorem dX8_record_61 : decode cX8_record 61 = .ok (.ireturn, 1) := by decide +kernel
theorem dX8_record_62 : decode cX8_record 62 = .ok (.aload_n 3, 1) := by decide +kernel
theorem dX8_record_63 : decode cX8_record 63 = .ok (.getfield 296, 3) := by decide +kernel
theorem dX8_record_66 : decode cX8_record 66 = .ok (.ireturn, 1) := by decide +kernel
theorem dX8_record_67 : decode cX8_record 67 = .ok (.aload_n 3, 1) := by decide +kernel
theorem dX8_record_68 : decode cX8_record 68 = .ok (.getfield 299, 3) := by decide +kernel
theorem dX8_record_71 : decode cX8_record 71 = .ok (.ldc2_w 54, 3) := by decide +kernel
theorem dX8_record_74 : decode cX8_record 74 = .ok (.lrem, 1) := by decide +kernel
theorem dX8_record_75 : decode cX8_record 75 = .ok (.l2i, 1) := by decide +kernel
theorem dX8_record_76 : decode cX8_record 76 = .ok (.ireturn, 1) := by decide +kernel
theorem dX8_record_77 : decode cX8_record 77 = .ok (.aload_n 3, 1) := by decide +kernel
theorem dX8_record_78 : decode cX8_record 78 = .ok (.getfield 300, 3) := by decide +kernel
theorem dX8_record_81 : decode cX8_record 81 = .ok (.ireturn, 1) := by decide +kernel
theorem dX8_record_82 : decode cX8_record 82 = .ok (.iconst (-1), 1) := by decide +kernel
theorem dX8_record_83 : decode cX8_record 83 = .ok (.ireturn, 1) := by decide +kernel
theorem dX8_chained_0 : decode cX8_chained 0 = .ok (.aload_n 0, 1) := by decide +kernel
theorem dX8_chained_1 : decode cX8_chained 1 = .ok (.getfield 37, 3) := by decide +kernel
theorem dX8_chained_4 : decode cX8_chained 4 = .ok (.invokevirtual 303, 3) := by decide +kernel
theorem dX8_chained_7 : decode cX8_chained 7 = .ok (.ireturn, 1) := by decide +kernel
theorem dX8_play_0 : decode cX8_play 0 = .ok (.iload_n 3, 1) := by decide +kernel
theorem dX8_play_1 : decode cX8_play 1 = .ok (.i2l, 1) := by decide +kernel
theorem dX8_play_2 : decode cX8_play 2 = .ok (.lconst 1, 1) := by decide +kernel
theorem dX8_play_3 : decode cX8_play 3 = .ok (.ldc2_w 306, 3) := by decide +kernel
theorem dX8_play_6 : decode cX8_play 6 = .ok (.invokestatic 50, 3) := by decide +kernel
theorem dX8_play_9 : decode cX8_play 9 = .ok (.ifCond .ne 5, 3) := by decide +kernel
theorem dX8_play_12 : decode cX8_play 12 = .ok (.iconst (-1), 1) := by decide +kernel
theorem dX8_play_13 : decode cX8_play 13 = .ok (.ireturn, 1) := by decide +kernel
theorem dX8_play_14 : decode cX8_play 14 = .ok (.lload_n 1, 1) := by decide +kernel
theorem dX8_play_15 : decode cX8_play 15 = .ok (.lconst 0, 1) := by decide +kernel
theorem dX8_play_16 : decode cX8_play 16 = .ok (.lcmp, 1) := by decide +kernel
theorem dX8_play_17 : decode cX8_play 17 = .ok (.ifCond .ne 9, 3) := by decide +kernel
theorem dX8_play_20 : decode cX8_play 20 = .ok (.ldc2_w 308, 3) := by decide +kernel
theorem dX8_play_23 : decode cX8_play 23 = .ok (.goto 4, 3) := by decide +kernel
theorem dX8_play_26 : decode cX8_play 26 = .ok (.lload_n 1, 1) := by decide +kernel
theorem dX8_play_27 : decode cX8_play 27 = .ok (.lstore 4, 2) := by decide +kernel
theorem dX8_play_29 : decode cX8_play 29 = .ok (.iconst 0, 1) := by decide +kernel
theorem dX8_play_30 : decode cX8_play 30 = .ok (.istore 6, 2) := by decide +kernel
theorem dX8_play_32 : decode cX8_play 32 = .ok (.iload 6, 2) := by decide +kernel
theorem dX8_play_34 : decode cX8_play 34 = .ok (.iload_n 3, 1) := by decide +kernel
theorem dX8_play_35 : decode cX8_play 35 = .ok (.if_icmp .ge 47, 3) := by decide +kernel
theorem dX8_play_38 : decode cX8_play 38 = .ok (.lload 4, 2) := by decide +kernel
theorem dX8_play_40 : decode cX8_play 40 = .ok (.lload 4, 2) := by decide +kernel
theorem dX8_play_42 : decode cX8_play 42 = .ok (.bipush 13, 2) := by decide +kernel
theorem dX8_play_44 : decode cX8_play 44 = .ok (.lshl, 1) := by decide +kernel
theorem dX8_play_45 : decode cX8_play 45 = .ok (.lxor, 1) := by decide +kernel
theorem dX8_play_46 : decode cX8_play 46 = .ok (.lstore 4, 2) := by decide +kernel
theorem dX8_play_48 : decode cX8_play 48 = .ok (.lload 4, 2) := by decide +kernel
theorem dX8_play_50 : decode cX8_play 50 = .ok (.lload 4, 2) := by decide +kernel
theorem dX8_play_52 : decode cX8_play 52 = .ok (.bipush 7, 2) := by decide +kernel
theorem dX8_play_54 : decode cX8_play 54 = .ok (.lushr, 1) := by decide +kernel
theorem dX8_play_55 : decode cX8_play 55 = .ok (.lxor, 1) := by decide +kernel
theorem dX8_play_56 : decode cX8_play 56 = .ok (.lstore 4, 2) := by decide +kernel
theorem dX8_play_58 : decode cX8_play 58 = .ok (.lload 4, 2) := by decide +kernel
theorem dX8_play_60 : decode cX8_play 60 = .ok (.lload 4, 2) := by decide +kernel
theorem dX8_play_62 : decode cX8_play 62 = .ok (.bipush 17, 2) := by decide +kernel
theorem dX8_play_64 : decode cX8_play 64 = .ok (.lshl, 1) := by decide +kernel
theorem dX8_play_65 : decode cX8_play 65 = .ok (.lxor, 1) := by decide +kernel
theorem dX8_play_66 : decode cX8_play 66 = .ok (.lstore 4, 2) := by decide +kernel
theorem dX8_play_68 : decode cX8_play 68 = .ok (.aload_n 0, 1) := by decide +kernel
theorem dX8_play_69 : decode cX8_play 69 = .ok (.lload 4, 2) := by decide +kernel
theorem dX8_play_71 : decode cX8_play 71 = .ok (.iconst 1, 1) := by decide +kernel
theorem dX8_play_72 : decode cX8_play 72 = .ok (.lushr, 1) := by decide +kernel
theorem dX8_play_73 : decode cX8_play 73 = .ok (.invokevirtual 310, 3) := by decide +kernel
theorem dX8_play_76 : decode cX8_play 76 = .ok (.iinc 6 1, 3) := by decide +kernel
theorem dX8_play_79 : decode cX8_play 79 = .ok (.goto (-47), 3) := by decide +kernel
theorem dX8_play_82 : decode cX8_play 82 = .ok (.aload_n 0, 1) := by decide +kernel
theorem dX8_play_83 : decode cX8_play 83 = .ok (.invokevirtual 313, 3) := by decide +kernel
theorem dX8_play_86 : decode cX8_play 86 = .ok (.ireturn, 1) := by decide +kernel
theorem dX8_playTurn_0 : decode cX8_playTurn 0 = .ok (.lload_n 1, 1) := by decide +kernel
theorem dX8_playTurn_1 : decode cX8_playTurn 1 = .ok (.ldc2_w 316, 3) := by decide +kernel
theorem dX8_playTurn_4 : decode cX8_playTurn 4 = .ok (.ldiv, 1) := by decide +kernel
theorem dX8_playTurn_5 : decode cX8_playTurn 5 = .ok (.ldc2_w 318, 3) := by decide +kernel
theorem dX8_playTurn_8 : decode cX8_playTurn 8 = .ok (.lrem, 1) := by decide +kernel
theorem dX8_playTurn_9 : decode cX8_playTurn 9 = .ok (.l2i, 1) := by decide +kernel
theorem dX8_playTurn_10 : decode cX8_playTurn 10 = .ok (.istore_n 3, 1) := by decide +kernel
theorem dX8_playTurn_11 : decode cX8_playTurn 11 = .ok (.lload_n 1, 1) := by decide +kernel
theorem dX8_playTurn_12 : decode cX8_playTurn 12 = .ok (.ldc2_w 320, 3) := by decide +kernel
theorem dX8_playTurn_15 : decode cX8_playTurn 15 = .ok (.ldiv, 1) := by decide +kernel
theorem dX8_playTurn_16 : decode cX8_playTurn 16 = .ok (.ldc2_w 322, 3) := by decide +kernel
theorem dX8_playTurn_19 : decode cX8_playTurn 19 = .ok (.lrem, 1) := by decide +kernel
theorem dX8_playTurn_20 : decode cX8_playTurn 20 = .ok (.lstore 4, 2) := by decide +kernel
theorem dX8_playTurn_22 : decode cX8_playTurn 22 = .ok (.lload_n 1, 1) := by decide +kernel
theorem dX8_playTurn_23 : decode cX8_playTurn 23 = .ok (.ldc2_w 316, 3) := by decide +kernel
theorem dX8_playTurn_26 : decode cX8_playTurn 26 = .ok (.lrem, 1) := by decide +kernel
theorem dX8_playTurn_27 : decode cX8_playTurn 27 = .ok (.l2i, 1) := by decide +kernel
theorem dX8_playTurn_28 : decode cX8_playTurn 28 = .ok (.tableswitch 130 0 4 #[36, 54, 70, 93, 111], 36) := by decide +kernel
theorem dX8_playTurn_64 : decode cX8_playTurn 64 = .ok (.aload_n 0, 1) := by decide +kernel
theorem dX8_playTurn_65 : decode cX8_playTurn 65 = .ok (.iload_n 3, 1) := by decide +kernel
theorem dX8_playTurn_66 : decode cX8_playTurn 66 = .ok (.bipush 32, 2) := by decide +kernel
theorem dX8_playTurn_68 : decode cX8_playTurn 68 = .ok (.irem, 1) := by decide +kernel
theorem dX8_playTurn_69 : decode cX8_playTurn 69 = .ok (.lload 4, 2) := by decide +kernel
theorem dX8_playTurn_71 : decode cX8_playTurn 71 = .ok (.ldc2_w 324, 3) := by decide +kernel
theorem dX8_playTurn_74 : decode cX8_playTurn 74 = .ok (.lrem, 1) := by decide +kernel
theorem dX8_playTurn_75 : decode cX8_playTurn 75 = .ok (.invokevirtual 326, 3) := by decide +kernel
theorem dX8_playTurn_78 : decode cX8_playTurn 78 = .ok (.pop, 1) := by decide +kernel
theorem dX8_playTurn_79 : decode cX8_playTurn 79 = .ok (.goto 85, 3) := by decide +kernel
theorem dX8_playTurn_82 : decode cX8_playTurn 82 = .ok (.aload_n 0, 1) := by decide +kernel
theorem dX8_playTurn_83 : decode cX8_playTurn 83 = .ok (.lconst 1, 1) := by decide +kernel
theorem dX8_playTurn_84 : decode cX8_playTurn 84 = .ok (.lload 4, 2) := by decide +kernel
theorem dX8_playTurn_86 : decode cX8_playTurn 86 = .ok (.ldc2_w 330, 3) := by decide +kernel
theorem dX8_playTurn_89 : decode cX8_playTurn 89 = .ok (.lrem, 1) := by decide +kernel
theorem dX8_playTurn_90 : decode cX8_playTurn 90 = .ok (.ladd, 1) := by decide +kernel
theorem dX8_playTurn_91 : decode cX8_playTurn 91 = .ok (.invokevirtual 332, 3) := by decide +kernel
theorem dX8_playTurn_94 : decode cX8_playTurn 94 = .ok (.pop, 1) := by decide +kernel
theorem dX8_playTurn_95 : decode cX8_playTurn 95 = .ok (.goto 69, 3) := by decide +kernel
theorem dX8_playTurn_98 : decode cX8_playTurn 98 = .ok (.aload_n 0, 1) := by decide +kernel
theorem dX8_playTurn_99 : decode cX8_playTurn 99 = .ok (.iload_n 3, 1) := by decide +kernel
theorem dX8_playTurn_100 : decode cX8_playTurn 100 = .ok (.lload 4, 2) := by decide +kernel
theorem dX8_playTurn_102 : decode cX8_playTurn 102 = .ok (.lconst 1, 1) := by decide +kernel
theorem dX8_playTurn_103 : decode cX8_playTurn 103 = .ok (.lload 4, 2) := by decide +kernel
theorem dX8_playTurn_105 : decode cX8_playTurn 105 = .ok (.ldc2_w 335, 3) := by decide +kernel
theorem dX8_playTurn_108 : decode cX8_playTurn 108 = .ok (.lrem, 1) := by decide +kernel
theorem dX8_playTurn_109 : decode cX8_playTurn 109 = .ok (.ldc2_w 337, 3) := by decide +kernel
theorem dX8_playTurn_112 : decode cX8_playTurn 112 = .ok (.lmul, 1) := by decide +kernel
theorem dX8_playTurn_113 : decode cX8_playTurn 113 = .ok (.ladd, 1) := by decide +kernel
theorem dX8_playTurn_114 : decode cX8_playTurn 114 = .ok (.invokevirtual 339, 3) := by decide +kernel
theorem dX8_playTurn_117 : decode cX8_playTurn 117 = .ok (.pop, 1) := by decide +kernel
theorem dX8_playTurn_118 : decode cX8_playTurn 118 = .ok (.goto 46, 3) := by decide +kernel
theorem dX8_playTurn_121 : decode cX8_playTurn 121 = .ok (.aload_n 0, 1) := by decide +kernel
theorem dX8_playTurn_122 : decode cX8_playTurn 122 = .ok (.iload_n 3, 1) := by decide +kernel
theorem dX8_playTurn_123 : decode cX8_playTurn 123 = .ok (.lload 4, 2) := by decide +kernel
theorem dX8_playTurn_125 : decode cX8_playTurn 125 = .ok (.ldc2_w 342, 3) := by decide +kernel
theorem dX8_playTurn_128 : decode cX8_playTurn 128 = .ok (.lrem, 1) := by decide +kernel
theorem dX8_playTurn_129 : decode cX8_playTurn 129 = .ok (.l2i, 1) := by decide +kernel
theorem dX8_playTurn_130 : decode cX8_playTurn 130 = .ok (.lload 4, 2) := by decide +kernel
theorem dX8_playTurn_132 : decode cX8_playTurn 132 = .ok (.invokevirtual 344, 3) := by decide +kernel
theorem dX8_playTurn_135 : decode cX8_playTurn 135 = .ok (.pop, 1) := by decide +kernel
theorem dX8_playTurn_136 : decode cX8_playTurn 136 = .ok (.goto 28, 3) := by decide +kernel
theorem dX8_playTurn_139 : decode cX8_playTurn 139 = .ok (.aload_n 0, 1) := by decide +kernel
theorem dX8_playTurn_140 : decode cX8_playTurn 140 = .ok (.lconst 0, 1) := by decide +kernel
theorem dX8_playTurn_141 : decode cX8_playTurn 141 = .ok (.iconst 1, 1) := by decide +kernel
theorem dX8_playTurn_142 : decode cX8_playTurn 142 = .ok (.invokevirtual 348, 3) := by decide +kernel
theorem dX8_playTurn_145 : decode cX8_playTurn 145 = .ok (.ifCond .ne 19, 3) := by decide +kernel
theorem dX8_playTurn_148 : decode cX8_playTurn 148 = .ok (.aload_n 0, 1) := by decide +kernel
theorem dX8_playTurn_149 : decode cX8_playTurn 149 = .ok (.lconst 0, 1) := by decide +kernel
theorem dX8_playTurn_150 : decode cX8_playTurn 150 = .ok (.iconst 0, 1) := by decide +kernel
theorem dX8_playTurn_151 : decode cX8_playTurn 151 = .ok (.invokevirtual 348, 3) := by decide +kernel
theorem dX8_playTurn_154 : decode cX8_playTurn 154 = .ok (.pop, 1) := by decide +kernel
theorem dX8_playTurn_155 : decode cX8_playTurn 155 = .ok (.goto 9, 3) := by decide +kernel
theorem dX8_playTurn_158 : decode cX8_playTurn 158 = .ok (.aload_n 0, 1) := by decide +kernel
theorem dX8_playTurn_159 : decode cX8_playTurn 159 = .ok (.iload_n 3, 1) := by decide +kernel
theorem dX8_playTurn_160 : decode cX8_playTurn 160 = .ok (.invokevirtual 352, 3) := by decide +kernel
theorem dX8_playTurn_163 : decode cX8_playTurn 163 = .ok (.pop, 1) := by decide +kernel
theorem dX8_playTurn_164 : decode cX8_playTurn 164 = .ok (.return_, 1) := by decide +kernel
theorem dX8_soldCount_0 : decode cX8_soldCount 0 = .ok (.iconst 0, 1) := by decide +kernel
theorem dX8_soldCount_1 : decode cX8_soldCount 1 = .ok (.istore_n 1, 1) := by decide +kernel
theorem dX8_soldCount_2 : decode cX8_soldCount 2 = .ok (.iconst 0, 1) := by decide +kernel
theorem dX8_soldCount_3 : decode cX8_soldCount 3 = .ok (.istore_n 2, 1) := by decide +kernel
theorem dX8_soldCount_4 : decode cX8_soldCount 4 = .ok (.iload_n 2, 1) := by decide +kernel
theorem dX8_soldCount_5 : decode cX8_soldCount 5 = .ok (.aload_n 0, 1) := by decide +kernel
theorem dX8_soldCount_6 : decode cX8_soldCount 6 = .ok (.getfield 115, 3) := by decide +kernel
theorem dX8_soldCount_9 : decode cX8_soldCount 9 = .ok (.if_icmp .ge 32, 3) := by decide +kernel
theorem dX8_soldCount_12 : decode cX8_soldCount 12 = .ok (.aload_n 0, 1) := by decide +kernel
theorem dX8_soldCount_13 : decode cX8_soldCount 13 = .ok (.iload_n 2, 1) := by decide +kernel
theorem dX8_soldCount_14 : decode cX8_soldCount 14 = .ok (.invokevirtual 69, 3) := by decide +kernel
theorem dX8_soldCount_17 : decode cX8_soldCount 17 = .ok (.astore_n 3, 1) := by decide +kernel
theorem dX8_soldCount_18 : decode cX8_soldCount 18 = .ok (.aload_n 3, 1) := by decide +kernel
theorem dX8_soldCount_19 : decode cX8_soldCount 19 = .ok (.ifnull 16, 3) := by decide +kernel
theorem dX8_soldCount_22 : decode cX8_soldCount 22 = .ok (.aload_n 3, 1) := by decide +kernel
theorem dX8_soldCount_23 : decode cX8_soldCount 23 = .ok (.getfield 100, 3) := by decide +kernel
theorem dX8_soldCount_26 : decode cX8_soldCount 26 = .ok (.getstatic 104, 3) := by decide +kernel
theorem dX8_soldCount_29 : decode cX8_soldCount 29 = .ok (.if_acmp .ne 6, 3) := by decide +kernel
theorem dX8_soldCount_32 : decode cX8_soldCount 32 = .ok (.iinc 1 1, 3) := by decide +kernel
theorem dX8_soldCount_35 : decode cX8_soldCount 35 = .ok (.iinc 2 1, 3) := by decide +kernel
theorem dX8_soldCount_38 : decode cX8_soldCount 38 = .ok (.goto (-34), 3) := by decide +kernel
theorem dX8_soldCount_41 : decode cX8_soldCount 41 = .ok (.iload_n 1, 1) := by decide +kernel
theorem dX8_soldCount_42 : decode cX8_soldCount 42 = .ok (.ireturn, 1) := by decide +kernel
theorem dX8_isWithin_0 : decode cX8_isWithin 0 = .ok (.lload_n 0, 1) := by decide +kernel
theorem dX8_isWithin_1 : decode cX8_isWithin 1 = .ok (.lload_n 2, 1) := by decide +kernel
theorem dX8_isWithin_2 : decode cX8_isWithin 2 = .ok (.lcmp, 1) := by decide +kernel
theorem dX8_isWithin_3 : decode cX8_isWithin 3 = .ok (.ifCond .lt 14, 3) := by decide +kernel
theorem dX8_isWithin_6 : decode cX8_isWithin 6 = .ok (.lload_n 0, 1) := by decide +kernel
theorem dX8_isWithin_7 : decode cX8_isWithin 7 = .ok (.lload 4, 2) := by decide +kernel
theorem dX8_isWithin_9 : decode cX8_isWithin 9 = .ok (.lcmp, 1) := by decide +kernel
theorem dX8_isWithin_10 : decode cX8_isWithin 10 = .ok (.ifCond .gt 7, 3) := by decide +kernel
theorem dX8_isWithin_13 : decode cX8_isWithin 13 = .ok (.iconst 1, 1) := by decide +kernel
theorem dX8_isWithin_14 : decode cX8_isWithin 14 = .ok (.goto 4, 3) := by decide +kernel
theorem dX8_isWithin_17 : decode cX8_isWithin 17 = .ok (.iconst 0, 1) := by decide +kernel
theorem dX8_isWithin_18 : decode cX8_isWithin 18 = .ok (.ireturn, 1) := by decide +kernel
theorem dX8_shareOf_0 : decode cX8_shareOf 0 = .ok (.lload 4, 2) := by decide +kernel
theorem dX8_shareOf_2 : decode cX8_shareOf 2 = .ok (.lconst 0, 1) := by decide +kernel
theorem dX8_shareOf_3 : decode cX8_shareOf 3 = .ok (.lcmp, 1) := by decide +kernel
theorem dX8_shareOf_4 : decode cX8_shareOf 4 = .ok (.ifCond .gt 7, 3) := by decide +kernel
theorem dX8_shareOf_7 : decode cX8_shareOf 7 = .ok (.lconst 0, 1) := by decide +kernel
theorem dX8_shareOf_8 : decode cX8_shareOf 8 = .ok (.goto 14, 3) := by decide +kernel
theorem dX8_shareOf_11 : decode cX8_shareOf 11 = .ok (.lload_n 0, 1) := by decide +kernel
theorem dX8_shareOf_12 : decode cX8_shareOf 12 = .ok (.lload_n 2, 1) := by decide +kernel
theorem dX8_shareOf_13 : decode cX8_shareOf 13 = .ok (.lmul, 1) := by decide +kernel
theorem dX8_shareOf_14 : decode cX8_shareOf 14 = .ok (.lload 4, 2) := by decide +kernel
theorem dX8_shareOf_16 : decode cX8_shareOf 16 = .ok (.ladd, 1) := by decide +kernel
theorem dX8_shareOf_17 : decode cX8_shareOf 17 = .ok (.lconst 1, 1) := by decide +kernel
theorem dX8_shareOf_18 : decode cX8_shareOf 18 = .ok (.lsub, 1) := by decide +kernel
theorem dX8_shareOf_19 : decode cX8_shareOf 19 = .ok (.lload 4, 2) := by decide +kernel
theorem dX8_shareOf_21 : decode cX8_shareOf 21 = .ok (.ldiv, 1) := by decide +kernel
theorem dX8_shareOf_22 : decode cX8_shareOf 22 = .ok (.lreturn, 1) := by decide +kernel
theorem dX8_lotAt_0 : decode cX8_lotAt 0 = .ok (.iload_n 1, 1) := by decide +kernel
theorem dX8_lotAt_1 : decode cX8_lotAt 1 = .ok (.ifCond .lt 20, 3) := by decide +kernel
theorem dX8_lotAt_4 : decode cX8_lotAt 4 = .ok (.iload_n 1, 1) := by decide +kernel
theorem dX8_lotAt_5 : decode cX8_lotAt 5 = .ok (.aload_n 0, 1) := by decide +kernel
theorem dX8_lotAt_6 : decode cX8_lotAt 6 = .ok (.getfield 115, 3) := by decide +kernel
theorem dX8_lotAt_9 : decode cX8_lotAt 9 = .ok (.if_icmp .ge 12, 3) := by decide +kernel
theorem dX8_lotAt_12 : decode cX8_lotAt 12 = .ok (.iload_n 1, 1) := by decide +kernel
theorem dX8_lotAt_13 : decode cX8_lotAt 13 = .ok (.aload_n 0, 1) := by decide +kernel
theorem dX8_lotAt_14 : decode cX8_lotAt 14 = .ok (.getfield 11, 3) := by decide +kernel
theorem dX8_lotAt_17 : decode cX8_lotAt 17 = .ok (.arraylength, 1) := by decide +kernel
theorem dX8_lotAt_18 : decode cX8_lotAt 18 = .ok (.if_icmp .lt 7, 3) := by decide +kernel
theorem dX8_lotAt_21 : decode cX8_lotAt 21 = .ok (.aconst_null, 1) := by decide +kernel
theorem dX8_lotAt_22 : decode cX8_lotAt 22 = .ok (.goto 9, 3) := by decide +kernel
theorem dX8_lotAt_25 : decode cX8_lotAt 25 = .ok (.aload_n 0, 1) := by decide +kernel
theorem dX8_lotAt_26 : decode cX8_lotAt 26 = .ok (.getfield 11, 3) := by decide +kernel
theorem dX8_lotAt_29 : decode cX8_lotAt 29 = .ok (.iload_n 1, 1) := by decide +kernel
theorem dX8_lotAt_30 : decode cX8_lotAt 30 = .ok (.aaload, 1) := by decide +kernel
theorem dX8_lotAt_31 : decode cX8_lotAt 31 = .ok (.areturn, 1) := by decide +kernel
theorem dX8_buyerAt_0 : decode cX8_buyerAt 0 = .ok (.iload_n 1, 1) := by decide +kernel
theorem dX8_buyerAt_1 : decode cX8_buyerAt 1 = .ok (.ifCond .lt 20, 3) := by decide +kernel
theorem dX8_buyerAt_4 : decode cX8_buyerAt 4 = .ok (.iload_n 1, 1) := by decide +kernel
theorem dX8_buyerAt_5 : decode cX8_buyerAt 5 = .ok (.aload_n 0, 1) := by decide +kernel
theorem dX8_buyerAt_6 : decode cX8_buyerAt 6 = .ok (.getfield 60, 3) := by decide +kernel
theorem dX8_buyerAt_9 : decode cX8_buyerAt 9 = .ok (.if_icmp .ge 12, 3) := by decide +kernel
theorem dX8_buyerAt_12 : decode cX8_buyerAt 12 = .ok (.iload_n 1, 1) := by decide +kernel
theorem dX8_buyerAt_13 : decode cX8_buyerAt 13 = .ok (.aload_n 0, 1) := by decide +kernel
theorem dX8_buyerAt_14 : decode cX8_buyerAt 14 = .ok (.getfield 17, 3) := by decide +kernel
theorem dX8_buyerAt_17 : decode cX8_buyerAt 17 = .ok (.arraylength, 1) := by decide +kernel
theorem dX8_buyerAt_18 : decode cX8_buyerAt 18 = .ok (.if_icmp .lt 7, 3) := by decide +kernel
theorem dX8_buyerAt_21 : decode cX8_buyerAt 21 = .ok (.aconst_null, 1) := by decide +kernel
theorem dX8_buyerAt_22 : decode cX8_buyerAt 22 = .ok (.goto 9, 3) := by decide +kernel
theorem dX8_buyerAt_25 : decode cX8_buyerAt 25 = .ok (.aload_n 0, 1) := by decide +kernel
theorem dX8_buyerAt_26 : decode cX8_buyerAt 26 = .ok (.getfield 17, 3) := by decide +kernel
theorem dX8_buyerAt_29 : decode cX8_buyerAt 29 = .ok (.iload_n 1, 1) := by decide +kernel
theorem dX8_buyerAt_30 : decode cX8_buyerAt 30 = .ok (.aaload, 1) := by decide +kernel
theorem dX8_buyerAt_31 : decode cX8_buyerAt 31 = .ok (.areturn, 1) := by decide +kernel
theorem dX8_bidAt_0 : decode cX8_bidAt 0 = .ok (.iload_n 1, 1) := by decide +kernel
theorem dX8_bidAt_1 : decode cX8_bidAt 1 = .ok (.ifCond .lt 20, 3) := by decide +kernel
theorem dX8_bidAt_4 : decode cX8_bidAt 4 = .ok (.iload_n 1, 1) := by decide +kernel
theorem dX8_bidAt_5 : decode cX8_bidAt 5 = .ok (.aload_n 0, 1) := by decide +kernel
theorem dX8_bidAt_6 : decode cX8_bidAt 6 = .ok (.getfield 249, 3) := by decide +kernel
theorem dX8_bidAt_9 : decode cX8_bidAt 9 = .ok (.if_icmp .ge 12, 3) := by decide +kernel
theorem dX8_bidAt_12 : decode cX8_bidAt 12 = .ok (.iload_n 1, 1) := by decide +kernel
theorem dX8_bidAt_13 : decode cX8_bidAt 13 = .ok (.aload_n 0, 1) := by decide +kernel
theorem dX8_bidAt_14 : decode cX8_bidAt 14 = .ok (.getfield 23, 3) := by decide +kernel
theorem dX8_bidAt_17 : decode cX8_bidAt 17 = .ok (.arraylength, 1) := by decide +kernel
theorem dX8_bidAt_18 : decode cX8_bidAt 18 = .ok (.if_icmp .lt 7, 3) := by decide +kernel
theorem dX8_bidAt_21 : decode cX8_bidAt 21 = .ok (.aconst_null, 1) := by decide +kernel
theorem dX8_bidAt_22 : decode cX8_bidAt 22 = .ok (.goto 9, 3) := by decide +kernel
theorem dX8_bidAt_25 : decode cX8_bidAt 25 = .ok (.aload_n 0, 1) := by decide +kernel
theorem dX8_bidAt_26 : decode cX8_bidAt 26 = .ok (.getfield 23, 3) := by decide +kernel
theorem dX8_bidAt_29 : decode cX8_bidAt 29 = .ok (.iload_n 1, 1) := by decide +kernel
theorem dX8_bidAt_30 : decode cX8_bidAt 30 = .ok (.aaload, 1) := by decide +kernel
theorem dX8_bidAt_31 : decode cX8_bidAt 31 = .ok (.areturn, 1) := by decide +kernel
theorem dX8_addLot_0 : decode cX8_addLot 0 = .ok (.aload_n 0, 1) := by decide +kernel
theorem dX8_addLot_1 : decode cX8_addLot 1 = .ok (.getfield 115, 3) := by decide +kernel
theorem dX8_addLot_4 : decode cX8_addLot 4 = .ok (.istore 6, 2) := by decide +kernel
theorem dX8_addLot_6 : decode cX8_addLot 6 = .ok (.iload 6, 2) := by decide +kernel
theorem dX8_addLot_8 : decode cX8_addLot 8 = .ok (.ifCond .lt 13, 3) := by decide +kernel
theorem dX8_addLot_11 : decode cX8_addLot 11 = .ok (.iload 6, 2) := by decide +kernel
theorem dX8_addLot_13 : decode cX8_addLot 13 = .ok (.aload_n 0, 1) := by decide +kernel
theorem dX8_addLot_14 : decode cX8_addLot 14 = .ok (.getfield 11, 3) := by decide +kernel
theorem dX8_addLot_17 : decode cX8_addLot 17 = .ok (.arraylength, 1) := by decide +kernel
theorem dX8_addLot_18 : decode cX8_addLot 18 = .ok (.if_icmp .lt 5, 3) := by decide +kernel
theorem dX8_addLot_21 : decode cX8_addLot 21 = .ok (.iconst (-1), 1) := by decide +kernel
theorem dX8_addLot_22 : decode cX8_addLot 22 = .ok (.ireturn, 1) := by decide +kernel
theorem dX8_addLot_23 : decode cX8_addLot 23 = .ok (.aload_n 0, 1) := by decide +kernel
theorem dX8_addLot_24 : decode cX8_addLot 24 = .ok (.getfield 11, 3) := by decide +kernel
theorem dX8_addLot_27 : decode cX8_addLot 27 = .ok (.iload 6, 2) := by decide +kernel
theorem dX8_addLot_29 : decode cX8_addLot 29 = .ok (.new 9, 3) := by decide +kernel
theorem dX8_addLot_32 : decode cX8_addLot 32 = .ok (.dup, 1) := by decide +kernel
theorem dX8_addLot_33 : decode cX8_addLot 33 = .ok (.iload 6, 2) := by decide +kernel
theorem dX8_addLot_35 : decode cX8_addLot 35 = .ok (.iload_n 1, 1) := by decide +kernel
theorem dX8_addLot_36 : decode cX8_addLot 36 = .ok (.lload_n 2, 1) := by decide +kernel
theorem dX8_addLot_37 : decode cX8_addLot 37 = .ok (.lload 4, 2) := by decide +kernel
theorem dX8_addLot_39 : decode cX8_addLot 39 = .ok (.invokespecial 356, 3) := by decide +kernel
theorem dX8_addLot_42 : decode cX8_addLot 42 = .ok (.aastore, 1) := by decide +kernel
theorem dX8_addLot_43 : decode cX8_addLot 43 = .ok (.aload_n 0, 1) := by decide +kernel
theorem dX8_addLot_44 : decode cX8_addLot 44 = .ok (.iload 6, 2) := by decide +kernel
theorem dX8_addLot_46 : decode cX8_addLot 46 = .ok (.iconst 1, 1) := by decide +kernel
theorem dX8_addLot_47 : decode cX8_addLot 47 = .ok (.iadd, 1) := by decide +kernel
theorem dX8_addLot_48 : decode cX8_addLot 48 = .ok (.putfield 115, 3) := by decide +kernel
theorem dX8_addLot_51 : decode cX8_addLot 51 = .ok (.iload 6, 2) := by decide +kernel
theorem dX8_addLot_53 : decode cX8_addLot 53 = .ok (.ireturn, 1) := by decide +kernel
theorem dX8_freeOf_0 : decode cX8_freeOf 0 = .ok (.aload_n 1, 1) := by decide +kernel
theorem dX8_freeOf_1 : decode cX8_freeOf 1 = .ok (.getfield 93, 3) := by decide +kernel
theorem dX8_freeOf_4 : decode cX8_freeOf 4 = .ok (.lstore_n 2, 1) := by decide +kernel
theorem dX8_freeOf_5 : decode cX8_freeOf 5 = .ok (.iconst 0, 1) := by decide +kernel
theorem dX8_freeOf_6 : decode cX8_freeOf 6 = .ok (.istore 4, 2) := by decide +kernel
theorem dX8_freeOf_8 : decode cX8_freeOf 8 = .ok (.iload 4, 2) := by decide +kernel
theorem dX8_freeOf_10 : decode cX8_freeOf 10 = .ok (.aload_n 0, 1) := by decide +kernel
theorem dX8_freeOf_11 : decode cX8_freeOf 11 = .ok (.getfield 115, 3) := by decide +kernel
theorem dX8_freeOf_14 : decode cX8_freeOf 14 = .ok (.if_icmp .ge 50, 3) := by decide +kernel
theorem dX8_freeOf_17 : decode cX8_freeOf 17 = .ok (.aload_n 0, 1) := by decide +kernel
theorem dX8_freeOf_18 : decode cX8_freeOf 18 = .ok (.iload 4, 2) := by decide +kernel
theorem dX8_freeOf_20 : decode cX8_freeOf 20 = .ok (.invokevirtual 69, 3) := by decide +kernel
theorem dX8_freeOf_23 : decode cX8_freeOf 23 = .ok (.astore 5, 2) := by decide +kernel
theorem dX8_freeOf_25 : decode cX8_freeOf 25 = .ok (.aload 5, 2) := by decide +kernel
theorem dX8_freeOf_27 : decode cX8_freeOf 27 = .ok (.ifnull 31, 3) := by decide +kernel
theorem dX8_freeOf_30 : decode cX8_freeOf 30 = .ok (.aload 5, 2) := by decide +kernel
theorem dX8_freeOf_32 : decode cX8_freeOf 32 = .ok (.invokevirtual 73, 3) := by decide +kernel
theorem dX8_freeOf_35 : decode cX8_freeOf 35 = .ok (.ifCond .eq 23, 3) := by decide +kernel
theorem dX8_freeOf_38 : decode cX8_freeOf 38 = .ok (.aload 5, 2) := by decide +kernel
theorem dX8_freeOf_40 : decode cX8_freeOf 40 = .ok (.getfield 77, 3) := by decide +kernel
theorem dX8_freeOf_43 : decode cX8_freeOf 43 = .ok (.aload_n 1, 1) := by decide +kernel
theorem dX8_freeOf_44 : decode cX8_freeOf 44 = .ok (.getfield 359, 3) := by decide +kernel
theorem dX8_freeOf_47 : decode cX8_freeOf 47 = .ok (.if_icmp .ne 11, 3) := by decide +kernel
theorem dX8_freeOf_50 : decode cX8_freeOf 50 = .ok (.lload_n 2, 1) := by decide +kernel
theorem dX8_freeOf_51 : decode cX8_freeOf 51 = .ok (.aload 5, 2) := by decide +kernel
theorem dX8_freeOf_53 : decode cX8_freeOf 53 = .ok (.getfield 82, 3) := by decide +kernel
theorem dX8_freeOf_56 : decode cX8_freeOf 56 = .ok (.lsub, 1) := by decide +kernel
theorem dX8_freeOf_57 : decode cX8_freeOf 57 = .ok (.lstore_n 2, 1) := by decide +kernel
theorem dX8_freeOf_58 : decode cX8_freeOf 58 = .ok (.iinc 4 1, 3) := by decide +kernel
theorem dX8_freeOf_61 : decode cX8_freeOf 61 = .ok (.goto (-53), 3) := by decide +kernel
theorem dX8_freeOf_64 : decode cX8_freeOf 64 = .ok (.lload_n 2, 1) := by decide +kernel
theorem dX8_freeOf_65 : decode cX8_freeOf 65 = .ok (.lreturn, 1) := by decide +kernel
theorem dX8_lotsAhead_0 : decode cX8_lotsAhead 0 = .ok (.iconst 0, 1) := by decide +kernel
theorem dX8_lotsAhead_1 : decode cX8_lotsAhead 1 = .ok (.istore_n 2, 1) := by decide +kernel
theorem dX8_lotsAhead_2 : decode cX8_lotsAhead 2 = .ok (.iconst 0, 1) := by decide +kernel
theorem dX8_lotsAhead_3 : decode cX8_lotsAhead 3 = .ok (.istore_n 3, 1) := by decide +kernel
theorem dX8_lotsAhead_4 : decode cX8_lotsAhead 4 = .ok (.iload_n 3, 1) := by decide +kernel
theorem dX8_lotsAhead_5 : decode cX8_lotsAhead 5 = .ok (.aload_n 0, 1) := by decide +kernel
theorem dX8_lotsAhead_6 : decode cX8_lotsAhead 6 = .ok (.getfield 115, 3) := by decide +kernel
theorem dX8_lotsAhead_9 : decode cX8_lotsAhead 9 = .ok (.if_icmp .ge 45, 3) := by decide +kernel
theorem dX8_lotsAhead_12 : decode cX8_lotsAhead 12 = .ok (.aload_n 0, 1) := by decide +kernel
theorem dX8_lotsAhead_13 : decode cX8_lotsAhead 13 = .ok (.iload_n 3, 1) := by decide +kernel
theorem dX8_lotsAhead_14 : decode cX8_lotsAhead 14 = .ok (.invokevirtual 69, 3) := by decide +kernel
theorem dX8_lotsAhead_17 : decode cX8_lotsAhead 17 = .ok (.astore 4, 2) := by decide +kernel
theorem dX8_lotsAhead_19 : decode cX8_lotsAhead 19 = .ok (.aload 4, 2) := by decide +kernel
theorem dX8_lotsAhead_21 : decode cX8_lotsAhead 21 = .ok (.ifnull 27, 3) := by decide +kernel
theorem dX8_lotsAhead_24 : decode cX8_lotsAhead 24 = .ok (.aload 4, 2) := by decide +kernel
theorem dX8_lotsAhead_26 : decode cX8_lotsAhead 26 = .ok (.aload_n 1, 1) := by decide +kernel
theorem dX8_lotsAhead_27 : decode cX8_lotsAhead 27 = .ok (.getfield 141, 3) := by decide +kernel
theorem dX8_lotsAhead_30 : decode cX8_lotsAhead 30 = .ok (.invokevirtual 118, 3) := by decide +kernel
theorem dX8_lotsAhead_33 : decode cX8_lotsAhead 33 = .ok (.ifCond .eq 15, 3) := by decide +kernel
theorem dX8_lotsAhead_36 : decode cX8_lotsAhead 36 = .ok (.aload 4, 2) := by decide +kernel
theorem dX8_lotsAhead_38 : decode cX8_lotsAhead 38 = .ok (.aload_n 1, 1) := by decide +kernel
theorem dX8_lotsAhead_39 : decode cX8_lotsAhead 39 = .ok (.invokevirtual 362, 3) := by decide +kernel
theorem dX8_lotsAhead_42 : decode cX8_lotsAhead 42 = .ok (.ifCond .eq 6, 3) := by decide +kernel
theorem dX8_lotsAhead_45 : decode cX8_lotsAhead 45 = .ok (.iinc 2 1, 3) := by decide +kernel
theorem dX8_lotsAhead_48 : decode cX8_lotsAhead 48 = .ok (.iinc 3 1, 3) := by decide +kernel
theorem dX8_lotsAhead_51 : decode cX8_lotsAhead 51 = .ok (.goto (-47), 3) := by decide +kernel
theorem dX8_lotsAhead_54 : decode cX8_lotsAhead 54 = .ok (.iload_n 2, 1) := by decide +kernel
theorem dX8_lotsAhead_55 : decode cX8_lotsAhead 55 = .ok (.ireturn, 1) := by decide +kernel
theorem dX8_runClock_0 : decode cX8_runClock 0 = .ok (.aload_n 0, 1) := by decide +kernel
theorem dX8_runClock_1 : decode cX8_runClock 1 = .ok (.getfield 30, 3) := by decide +kernel
theorem dX8_runClock_4 : decode cX8_runClock 4 = .ok (.getfield 164, 3) := by decide +kernel
theorem dX8_runClock_7 : decode cX8_runClock 7 = .ok (.astore_n 3, 1) := by decide +kernel
theorem dX8_runClock_8 : decode cX8_runClock 8 = .ok (.aload_n 3, 1) := by decide +kernel
theorem dX8_runClock_9 : decode cX8_runClock 9 = .ok (.ifnonnull 5, 3) := by decide +kernel
theorem dX8_runClock_12 : decode cX8_runClock 12 = .ok (.iconst (-1), 1) := by decide +kernel
theorem dX8_runClock_13 : decode cX8_runClock 13 = .ok (.ireturn, 1) := by decide +kernel
theorem dX8_runClock_14 : decode cX8_runClock 14 = .ok (.aload_n 0, 1) := by decide +kernel
theorem dX8_runClock_15 : decode cX8_runClock 15 = .ok (.getfield 30, 3) := by decide +kernel
theorem dX8_runClock_18 : decode cX8_runClock 18 = .ok (.getfield 188, 3) := by decide +kernel
theorem dX8_runClock_21 : decode cX8_runClock 21 = .ok (.ifCond .eq 5, 3) := by decide +kernel
theorem dX8_runClock_24 : decode cX8_runClock 24 = .ok (.iconst 0, 1) := by decide +kernel
theorem dX8_runClock_25 : decode cX8_runClock 25 = .ok (.ireturn, 1) := by decide +kernel
theorem dX8_runClock_26 : decode cX8_runClock 26 = .ok (.aload_n 0, 1) := by decide +kernel
theorem dX8_runClock_27 : decode cX8_runClock 27 = .ok (.getfield 30, 3) := by decide +kernel
theorem dX8_runClock_30 : decode cX8_runClock 30 = .ok (.lload_n 1, 1) := by decide +kernel
theorem dX8_runClock_31 : decode cX8_runClock 31 = .ok (.invokevirtual 366, 3) := by decide +kernel
theorem dX8_runClock_34 : decode cX8_runClock 34 = .ok (.aload_n 0, 1) := by decide +kernel
theorem dX8_runClock_35 : decode cX8_runClock 35 = .ok (.invokevirtual 369, 3) := by decide +kernel
theorem dX8_runClock_38 : decode cX8_runClock 38 = .ok (.aload_n 0, 1) := by decide +kernel
theorem dX8_runClock_39 : decode cX8_runClock 39 = .ok (.invokevirtual 372, 3) := by decide +kernel
theorem dX8_runClock_42 : decode cX8_runClock 42 = .ok (.astore 4, 2) := by decide +kernel
theorem dX8_runClock_44 : decode cX8_runClock 44 = .ok (.aload 4, 2) := by decide +kernel
theorem dX8_runClock_46 : decode cX8_runClock 46 = .ok (.ifnull 12, 3) := by decide +kernel
theorem dX8_runClock_49 : decode cX8_runClock 49 = .ok (.aload_n 0, 1) := by decide +kernel
theorem dX8_runClock_50 : decode cX8_runClock 50 = .ok (.aload_n 3, 1) := by decide +kernel
theorem dX8_runClock_51 : decode cX8_runClock 51 = .ok (.aload 4, 2) := by decide +kernel
theorem dX8_runClock_53 : decode cX8_runClock 53 = .ok (.invokevirtual 376, 3) := by decide +kernel
theorem dX8_runClock_56 : decode cX8_runClock 56 = .ok (.iconst 1, 1) := by decide +kernel
theorem dX8_runClock_57 : decode cX8_runClock 57 = .ok (.ireturn, 1) := by decide +kernel
theorem dX8_runClock_58 : decode cX8_runClock 58 = .ok (.aload_n 0, 1) := by decide +kernel
theorem dX8_runClock_59 : decode cX8_runClock 59 = .ok (.getfield 30, 3) := by decide +kernel
theorem dX8_runClock_62 : decode cX8_runClock 62 = .ok (.getfield 218, 3) := by decide +kernel
theorem dX8_runClock_65 : decode cX8_runClock 65 = .ok (.aload_n 0, 1) := by decide +kernel
theorem dX8_runClock_66 : decode cX8_runClock 66 = .ok (.getfield 30, 3) := by decide +kernel
theorem dX8_runClock_69 : decode cX8_runClock 69 = .ok (.getfield 198, 3) := by decide +kernel
theorem dX8_runClock_72 : decode cX8_runClock 72 = .ok (.lcmp, 1) := by decide +kernel
theorem dX8_runClock_73 : decode cX8_runClock 73 = .ok (.ifCond .ge 5, 3) := by decide +kernel
theorem dX8_runClock_76 : decode cX8_runClock 76 = .ok (.iconst 0, 1) := by decide +kernel
theorem dX8_runClock_77 : decode cX8_runClock 77 = .ok (.ireturn, 1) := by decide +kernel
theorem dX8_runClock_78 : decode cX8_runClock 78 = .ok (.aload_n 3, 1) := by decide +kernel
theorem dX8_runClock_79 : decode cX8_runClock 79 = .ok (.getstatic 147, 3) := by decide +kernel
theorem dX8_runClock_82 : decode cX8_runClock 82 = .ok (.putfield 100, 3) := by decide +kernel
theorem dX8_runClock_85 : decode cX8_runClock 85 = .ok (.aload_n 0, 1) := by decide +kernel
theorem dX8_runClock_86 : decode cX8_runClock 86 = .ok (.invokevirtual 380, 3) := by decide +kernel
theorem dX8_runClock_89 : decode cX8_runClock 89 = .ok (.aload_n 0, 1) := by decide +kernel
theorem dX8_runClock_90 : decode cX8_runClock 90 = .ok (.getfield 37, 3) := by decide +kernel
theorem dX8_runClock_93 : decode cX8_runClock 93 = .ok (.iconst 2, 1) := by decide +kernel
theorem dX8_runClock_94 : decode cX8_runClock 94 = .ok (.aload_n 3, 1) := by decide +kernel
theorem dX8_runClock_95 : decode cX8_runClock 95 = .ok (.getfield 383, 3) := by decide +kernel
theorem dX8_runClock_98 : decode cX8_runClock 98 = .ok (.iconst (-1), 1) := by decide +kernel
theorem dX8_runClock_99 : decode cX8_runClock 99 = .ok (.lconst 0, 1) := by decide +kernel
theorem dX8_runClock_100 : decode cX8_runClock 100 = .ok (.invokevirtual 137, 3) := by decide +kernel
theorem dX8_runClock_103 : decode cX8_runClock 103 = .ok (.iconst 2, 1) := by decide +kernel
theorem dX8_runClock_104 : decode cX8_runClock 104 = .ok (.ireturn, 1) := by decide +kernel
theorem dX8_dropPressesThatCannotPay_0 : decode cX8_dropPressesThatCannotPay 0 = .ok (.iconst 0, 1) := by decide +kernel
theorem dX8_dropPressesThatCannotPay_1 : decode cX8_dropPressesThatCannotPay 1 = .ok (.istore_n 1, 1) := by decide +kernel
theorem dX8_dropPressesThatCannotPay_2 : decode cX8_dropPressesThatCannotPay 2 = .ok (.iload_n 1, 1) := by decide +kernel
theorem dX8_dropPressesThatCannotPay_3 : decode cX8_dropPressesThatCannotPay 3 = .ok (.aload_n 0, 1) := by decide +kernel
theorem dX8_dropPressesThatCannotPay_4 : decode cX8_dropPressesThatCannotPay 4 = .ok (.getfield 60, 3) := by decide +kernel
theorem dX8_dropPressesThatCannotPay_7 : decode cX8_dropPressesThatCannotPay 7 = .ok (.if_icmp .ge 57, 3) := by decide +kernel
theorem dX8_dropPressesThatCannotPay_10 : decode cX8_dropPressesThatCannotPay 10 = .ok (.aload_n 0, 1) := by decide +kernel
theorem dX8_dropPressesThatCannotPay_11 : decode cX8_dropPressesThatCannotPay 11 = .ok (.iload_n 1, 1) := by decide +kernel
theorem dX8_dropPressesThatCannotPay_12 : decode cX8_dropPressesThatCannotPay 12 = .ok (.invokevirtual 89, 3) := by decide +kernel
theorem dX8_dropPressesThatCannotPay_15 : decode cX8_dropPressesThatCannotPay 15 = .ok (.astore_n 2, 1) := by decide +kernel
theorem dX8_dropPressesThatCannotPay_16 : decode cX8_dropPressesThatCannotPay 16 = .ok (.aload_n 2, 1) := by decide +kernel
theorem dX8_dropPressesThatCannotPay_17 : decode cX8_dropPressesThatCannotPay 17 = .ok (.ifnull 41, 3) := by decide +kernel
theorem dX8_dropPressesThatCannotPay_20 : decode cX8_dropPressesThatCannotPay 20 = .ok (.aload_n 2, 1) := by decide +kernel
theorem dX8_dropPressesThatCannotPay_21 : decode cX8_dropPressesThatCannotPay 21 = .ok (.aload_n 0, 1) := by decide +kernel
theorem dX8_dropPressesThatCannotPay_22 : decode cX8_dropPressesThatCannotPay 22 = .ok (.getfield 30, 3) := by decide +kernel
theorem dX8_dropPressesThatCannotPay_25 : decode cX8_dropPressesThatCannotPay 25 = .ok (.getfield 218, 3) := by decide +kernel
theorem dX8_dropPressesThatCannotPay_28 : decode cX8_dropPressesThatCannotPay 28 = .ok (.invokevirtual 201, 3) := by decide +kernel
theorem dX8_dropPressesThatCannotPay_31 : decode cX8_dropPressesThatCannotPay 31 = .ok (.ifCond .eq 27, 3) := by decide +kernel
theorem dX8_dropPressesThatCannotPay_34 : decode cX8_dropPressesThatCannotPay 34 = .ok (.aload_n 0, 1) := by decide +kernel
theorem dX8_dropPressesThatCannotPay_35 : decode cX8_dropPressesThatCannotPay 35 = .ok (.getfield 30, 3) := by decide +kernel
theorem dX8_dropPressesThatCannotPay_38 : decode cX8_dropPressesThatCannotPay 38 = .ok (.aload_n 2, 1) := by decide +kernel
theorem dX8_dropPressesThatCannotPay_39 : decode cX8_dropPressesThatCannotPay 39 = .ok (.getfield 205, 3) := by decide +kernel
theorem dX8_dropPressesThatCannotPay_42 : decode cX8_dropPressesThatCannotPay 42 = .ok (.invokevirtual 228, 3) := by decide +kernel
theorem dX8_dropPressesThatCannotPay_45 : decode cX8_dropPressesThatCannotPay 45 = .ok (.aload_n 0, 1) := by decide +kernel
theorem dX8_dropPressesThatCannotPay_46 : decode cX8_dropPressesThatCannotPay 46 = .ok (.aload_n 2, 1) := by decide +kernel
theorem dX8_dropPressesThatCannotPay_47 : decode cX8_dropPressesThatCannotPay 47 = .ok (.invokevirtual 96, 3) := by decide +kernel
theorem dX8_dropPressesThatCannotPay_50 : decode cX8_dropPressesThatCannotPay 50 = .ok (.lcmp, 1) := by decide +kernel
theorem dX8_dropPressesThatCannotPay_51 : decode cX8_dropPressesThatCannotPay 51 = .ok (.ifCond .le 7, 3) := by decide +kernel
theorem dX8_dropPressesThatCannotPay_54 : decode cX8_dropPressesThatCannotPay 54 = .ok (.aload_n 2, 1) := by decide +kernel
theorem dX8_dropPressesThatCannotPay_55 : decode cX8_dropPressesThatCannotPay 55 = .ok (.invokevirtual 384, 3) := by decide +kernel
theorem dX8_dropPressesThatCannotPay_58 : decode cX8_dropPressesThatCannotPay 58 = .ok (.iinc 1 1, 3) := by decide +kernel
theorem dX8_dropPressesThatCannotPay_61 : decode cX8_dropPressesThatCannotPay 61 = .ok (.goto (-59), 3) := by decide +kernel
theorem dX8_dropPressesThatCannotPay_64 : decode cX8_dropPressesThatCannotPay 64 = .ok (.return_, 1) := by decide +kernel
theorem dX8_firstDuePress_0 : decode cX8_firstDuePress 0 = .ok (.aconst_null, 1) := by decide +kernel
theorem dX8_firstDuePress_1 : decode cX8_firstDuePress 1 = .ok (.astore_n 1, 1) := by decide +kernel
theorem dX8_firstDuePress_2 : decode cX8_firstDuePress 2 = .ok (.iconst 0, 1) := by decide +kernel
theorem dX8_firstDuePress_3 : decode cX8_firstDuePress 3 = .ok (.istore_n 2, 1) := by decide +kernel
theorem dX8_firstDuePress_4 : decode cX8_firstDuePress 4 = .ok (.iload_n 2, 1) := by decide +kernel
theorem dX8_firstDuePress_5 : decode cX8_firstDuePress 5 = .ok (.aload_n 0, 1) := by decide +kernel
theorem dX8_firstDuePress_6 : decode cX8_firstDuePress 6 = .ok (.getfield 60, 3) := by decide +kernel
theorem dX8_firstDuePress_9 : decode cX8_firstDuePress 9 = .ok (.if_icmp .ge 51, 3) := by decide +kernel
theorem dX8_firstDuePress_12 : decode cX8_firstDuePress 12 = .ok (.aload_n 0, 1) := by decide +kernel
theorem dX8_firstDuePress_13 : decode cX8_firstDuePress 13 = .ok (.iload_n 2, 1) := by decide +kernel
theorem dX8_firstDuePress_14 : decode cX8_firstDuePress 14 = .ok (.invokevirtual 89, 3) := by decide +kernel
theorem dX8_firstDuePress_17 : decode cX8_firstDuePress 17 = .ok (.astore_n 3, 1) := by decide +kernel
theorem dX8_firstDuePress_18 : decode cX8_firstDuePress 18 = .ok (.aload_n 3, 1) := by decide +kernel
theorem dX8_firstDuePress_19 : decode cX8_firstDuePress 19 = .ok (.ifnull 35, 3) := by decide +kernel
theorem dX8_firstDuePress_22 : decode cX8_firstDuePress 22 = .ok (.aload_n 3, 1) := by decide +kernel
theorem dX8_firstDuePress_23 : decode cX8_firstDuePress 23 = .ok (.aload_n 0, 1) := by decide +kernel
theorem dX8_firstDuePress_24 : decode cX8_firstDuePress 24 = .ok (.getfield 30, 3) := by decide +kernel
theorem dX8_firstDuePress_27 : decode cX8_firstDuePress 27 = .ok (.getfield 218, 3) := by decide +kernel
theorem dX8_firstDuePress_30 : decode cX8_firstDuePress 30 = .ok (.invokevirtual 201, 3) := by decide +kernel
theorem dX8_firstDuePress_33 : decode cX8_firstDuePress 33 = .ok (.ifCond .eq 21, 3) := by decide +kernel
theorem dX8_firstDuePress_36 : decode cX8_firstDuePress 36 = .ok (.aload_n 1, 1) := by decide +kernel
theorem dX8_firstDuePress_37 : decode cX8_firstDuePress 37 = .ok (.ifnull 15, 3) := by decide +kernel
theorem dX8_firstDuePress_40 : decode cX8_firstDuePress 40 = .ok (.aload_n 3, 1) := by decide +kernel
theorem dX8_firstDuePress_41 : decode cX8_firstDuePress 41 = .ok (.getfield 205, 3) := by decide +kernel
theorem dX8_firstDuePress_44 : decode cX8_firstDuePress 44 = .ok (.aload_n 1, 1) := by decide +kernel
theorem dX8_firstDuePress_45 : decode cX8_firstDuePress 45 = .ok (.getfield 205, 3) := by decide +kernel
theorem dX8_firstDuePress_48 : decode cX8_firstDuePress 48 = .ok (.lcmp, 1) := by decide +kernel
theorem dX8_firstDuePress_49 : decode cX8_firstDuePress 49 = .ok (.ifCond .ge 5, 3) := by decide +kernel
theorem dX8_firstDuePress_52 : decode cX8_firstDuePress 52 = .ok (.aload_n 3, 1) := by decide +kernel
theorem dX8_firstDuePress_53 : decode cX8_firstDuePress 53 = .ok (.astore_n 1, 1) := by decide +kernel
theorem dX8_firstDuePress_54 : decode cX8_firstDuePress 54 = .ok (.iinc 2 1, 3) := by decide +kernel
theorem dX8_firstDuePress_57 : decode cX8_firstDuePress 57 = .ok (.goto (-53), 3) := by decide +kernel
theorem dX8_firstDuePress_60 : decode cX8_firstDuePress 60 = .ok (.aload_n 1, 1) := by decide +kernel
theorem dX8_firstDuePress_61 : decode cX8_firstDuePress 61 = .ok (.areturn, 1) := by decide +kernel
theorem dX8_sellByClock_0 : decode cX8_sellByClock 0 = .ok (.aload_n 1, 1) := by decide +kernel
theorem dX8_sellByClock_1 : decode cX8_sellByClock 1 = .ok (.aload_n 0, 1) := by decide +kernel
theorem dX8_sellByClock_2 : decode cX8_sellByClock 2 = .ok (.aload_n 2, 1) := by decide +kernel
theorem dX8_sellByClock_3 : decode cX8_sellByClock 3 = .ok (.invokevirtual 387, 3) := by decide +kernel
theorem dX8_sellByClock_6 : decode cX8_sellByClock 6 = .ok (.putfield 391, 3) := by decide +kernel
theorem dX8_sellByClock_9 : decode cX8_sellByClock 9 = .ok (.aload_n 1, 1) := by decide +kernel
theorem dX8_sellByClock_10 : decode cX8_sellByClock 10 = .ok (.iconst 1, 1) := by decide +kernel
theorem dX8_sellByClock_11 : decode cX8_sellByClock 11 = .ok (.putfield 126, 3) := by decide +kernel
theorem dX8_sellByClock_14 : decode cX8_sellByClock 14 = .ok (.aload_n 1, 1) := by decide +kernel
theorem dX8_sellByClock_15 : decode cX8_sellByClock 15 = .ok (.aload_n 2, 1) := by decide +kernel
theorem dX8_sellByClock_16 : decode cX8_sellByClock 16 = .ok (.getfield 359, 3) := by decide +kernel
theorem dX8_sellByClock_19 : decode cX8_sellByClock 19 = .ok (.aload_n 0, 1) := by decide +kernel
theorem dX8_sellByClock_20 : decode cX8_sellByClock 20 = .ok (.getfield 30, 3) := by decide +kernel
theorem dX8_sellByClock_23 : decode cX8_sellByClock 23 = .ok (.aload_n 2, 1) := by decide +kernel
theorem dX8_sellByClock_24 : decode cX8_sellByClock 24 = .ok (.getfield 205, 3) := by decide +kernel
theorem dX8_sellByClock_27 : decode cX8_sellByClock 27 = .ok (.invokevirtual 228, 3) := by decide +kernel
theorem dX8_sellByClock_30 : decode cX8_sellByClock 30 = .ok (.invokevirtual 394, 3) := by decide +kernel
theorem dX8_sellByClock_33 : decode cX8_sellByClock 33 = .ok (.aload_n 0, 1) := by decide +kernel
theorem dX8_sellByClock_34 : decode cX8_sellByClock 34 = .ok (.invokevirtual 380, 3) := by decide +kernel
theorem dX8_sellByClock_37 : decode cX8_sellByClock 37 = .ok (.aload_n 0, 1) := by decide +kernel
theorem dX8_sellByClock_38 : decode cX8_sellByClock 38 = .ok (.getfield 37, 3) := by decide +kernel
theorem dX8_sellByClock_41 : decode cX8_sellByClock 41 = .ok (.iconst 1, 1) := by decide +kernel
theorem dX8_sellByClock_42 : decode cX8_sellByClock 42 = .ok (.aload_n 1, 1) := by decide +kernel
theorem dX8_sellByClock_43 : decode cX8_sellByClock 43 = .ok (.getfield 383, 3) := by decide +kernel
theorem dX8_sellByClock_46 : decode cX8_sellByClock 46 = .ok (.aload_n 1, 1) := by decide +kernel
theorem dX8_sellByClock_47 : decode cX8_sellByClock 47 = .ok (.getfield 77, 3) := by decide +kernel
theorem dX8_sellByClock_50 : decode cX8_sellByClock 50 = .ok (.aload_n 1, 1) := by decide +kernel
theorem dX8_sellByClock_51 : decode cX8_sellByClock 51 = .ok (.getfield 82, 3) := by decide +kernel
theorem dX8_sellByClock_54 : decode cX8_sellByClock 54 = .ok (.invokevirtual 137, 3) := by decide +kernel
theorem dX8_sellByClock_57 : decode cX8_sellByClock 57 = .ok (.return_, 1) := by decide +kernel
theorem dX8_pressesTiedWith_0 : decode cX8_pressesTiedWith 0 = .ok (.iconst 0, 1) := by decide +kernel
theorem dX8_pressesTiedWith_1 : decode cX8_pressesTiedWith 1 = .ok (.istore_n 2, 1) := by decide +kernel
theorem dX8_pressesTiedWith_2 : decode cX8_pressesTiedWith 2 = .ok (.iconst 0, 1) := by decide +kernel
theorem dX8_pressesTiedWith_3 : decode cX8_pressesTiedWith 3 = .ok (.istore_n 3, 1) := by decide +kernel
theorem dX8_pressesTiedWith_4 : decode cX8_pressesTiedWith 4 = .ok (.iload_n 3, 1) := by decide +kernel
theorem dX8_pressesTiedWith_5 : decode cX8_pressesTiedWith 5 = .ok (.aload_n 0, 1) := by decide +kernel
theorem dX8_pressesTiedWith_6 : decode cX8_pressesTiedWith 6 = .ok (.getfield 60, 3) := by decide +kernel
theorem dX8_pressesTiedWith_9 : decode cX8_pressesTiedWith 9 = .ok (.if_icmp .ge 48, 3) := by decide +kernel
theorem dX8_pressesTiedWith_12 : decode cX8_pressesTiedWith 12 = .ok (.aload_n 0, 1) := by decide +kernel
theorem dX8_pressesTiedWith_13 : decode cX8_pressesTiedWith 13 = .ok (.iload_n 3, 1) := by decide +kernel
theorem dX8_pressesTiedWith_14 : decode cX8_pressesTiedWith 14 = .ok (.invokevirtual 89, 3) := by decide +kernel
theorem dX8_pressesTiedWith_17 : decode cX8_pressesTiedWith 17 = .ok (.astore 4, 2) := by decide +kernel
theorem dX8_pressesTiedWith_19 : decode cX8_pressesTiedWith 19 = .ok (.aload 4, 2) := by decide +kernel
theorem dX8_pressesTiedWith_21 : decode cX8_pressesTiedWith 21 = .ok (.ifnull 30, 3) := by decide +kernel
theorem dX8_pressesTiedWith_24 : decode cX8_pressesTiedWith 24 = .ok (.iload_n 3, 1) := by decide +kernel
theorem dX8_pressesTiedWith_25 : decode cX8_pressesTiedWith 25 = .ok (.aload_n 1, 1) := by decide +kernel
theorem dX8_pressesTiedWith_26 : decode cX8_pressesTiedWith 26 = .ok (.getfield 359, 3) := by decide +kernel
theorem dX8_pressesTiedWith_29 : decode cX8_pressesTiedWith 29 = .ok (.if_icmp .eq 22, 3) := by decide +kernel
theorem dX8_pressesTiedWith_32 : decode cX8_pressesTiedWith 32 = .ok (.aload 4, 2) := by decide +kernel
theorem dX8_pressesTiedWith_34 : decode cX8_pressesTiedWith 34 = .ok (.getfield 205, 3) := by decide +kernel
theorem dX8_pressesTiedWith_37 : decode cX8_pressesTiedWith 37 = .ok (.aload_n 1, 1) := by decide +kernel
theorem dX8_pressesTiedWith_38 : decode cX8_pressesTiedWith 38 = .ok (.getfield 205, 3) := by decide +kernel
theorem dX8_pressesTiedWith_41 : decode cX8_pressesTiedWith 41 = .ok (.lcmp, 1) := by decide +kernel
theorem dX8_pressesTiedWith_42 : decode cX8_pressesTiedWith 42 = .ok (.ifCond .ne 9, 3) := by decide +kernel
theorem dX8_pressesTiedWith_45 : decode cX8_pressesTiedWith 45 = .ok (.iload_n 2, 1) := by decide +kernel
theorem dX8_pressesTiedWith_46 : decode cX8_pressesTiedWith 46 = .ok (.iconst 1, 1) := by decide +kernel
theorem dX8_pressesTiedWith_47 : decode cX8_pressesTiedWith 47 = .ok (.iload_n 3, 1) := by decide +kernel
theorem dX8_pressesTiedWith_48 : decode cX8_pressesTiedWith 48 = .ok (.ishl, 1) := by decide +kernel
theorem dX8_pressesTiedWith_49 : decode cX8_pressesTiedWith 49 = .ok (.ior, 1) := by decide +kernel
theorem dX8_pressesTiedWith_50 : decode cX8_pressesTiedWith 50 = .ok (.istore_n 2, 1) := by decide +kernel
theorem dX8_pressesTiedWith_51 : decode cX8_pressesTiedWith 51 = .ok (.iinc 3 1, 3) := by decide +kernel
theorem dX8_pressesTiedWith_54 : decode cX8_pressesTiedWith 54 = .ok (.goto (-50), 3) := by decide +kernel
theorem dX8_pressesTiedWith_57 : decode cX8_pressesTiedWith 57 = .ok (.iload_n 2, 1) := by decide +kernel
theorem dX8_pressesTiedWith_58 : decode cX8_pressesTiedWith 58 = .ok (.ireturn, 1) := by decide +kernel
theorem dX8_stopClock_0 : decode cX8_stopClock 0 = .ok (.aload_n 0, 1) := by decide +kernel
theorem dX8_stopClock_1 : decode cX8_stopClock 1 = .ok (.getfield 30, 3) := by decide +kernel
theorem dX8_stopClock_4 : decode cX8_stopClock 4 = .ok (.aconst_null, 1) := by decide +kernel
theorem dX8_stopClock_5 : decode cX8_stopClock 5 = .ok (.putfield 164, 3) := by decide +kernel
theorem dX8_stopClock_8 : decode cX8_stopClock 8 = .ok (.aload_n 0, 1) := by decide +kernel
theorem dX8_stopClock_9 : decode cX8_stopClock 9 = .ok (.lconst 0, 1) := by decide +kernel
theorem dX8_stopClock_10 : decode cX8_stopClock 10 = .ok (.invokevirtual 225, 3) := by decide +kernel
theorem dX8_stopClock_13 : decode cX8_stopClock 13 = .ok (.return_, 1) := by decide +kernel
theorem dX8_dropPressesFrom_0 : decode cX8_dropPressesFrom 0 = .ok (.iconst 0, 1) := by decide +kernel
theorem dX8_dropPressesFrom_1 : decode cX8_dropPressesFrom 1 = .ok (.istore_n 3, 1) := by decide +kernel
theorem dX8_dropPressesFrom_2 : decode cX8_dropPressesFrom 2 = .ok (.iload_n 3, 1) := by decide +kernel
theorem dX8_dropPressesFrom_3 : decode cX8_dropPressesFrom 3 = .ok (.aload_n 0, 1) := by decide +kernel
theorem dX8_dropPressesFrom_4 : decode cX8_dropPressesFrom 4 = .ok (.getfield 60, 3) := by decide +kernel
theorem dX8_dropPressesFrom_7 : decode cX8_dropPressesFrom 7 = .ok (.if_icmp .ge 36, 3) := by decide +kernel
theorem dX8_dropPressesFrom_10 : decode cX8_dropPressesFrom 10 = .ok (.aload_n 0, 1) := by decide +kernel
theorem dX8_dropPressesFrom_11 : decode cX8_dropPressesFrom 11 = .ok (.iload_n 3, 1) := by decide +kernel
theorem dX8_dropPressesFrom_12 : decode cX8_dropPressesFrom 12 = .ok (.invokevirtual 89, 3) := by decide +kernel
theorem dX8_dropPressesFrom_15 : decode cX8_dropPressesFrom 15 = .ok (.astore 4, 2) := by decide +kernel
theorem dX8_dropPressesFrom_17 : decode cX8_dropPressesFrom 17 = .ok (.aload 4, 2) := by decide +kernel
theorem dX8_dropPressesFrom_19 : decode cX8_dropPressesFrom 19 = .ok (.ifnull 18, 3) := by decide +kernel
theorem dX8_dropPressesFrom_22 : decode cX8_dropPressesFrom 22 = .ok (.aload 4, 2) := by decide +kernel
theorem dX8_dropPressesFrom_24 : decode cX8_dropPressesFrom 24 = .ok (.getfield 205, 3) := by decide +kernel
theorem dX8_dropPressesFrom_27 : decode cX8_dropPressesFrom 27 = .ok (.lload_n 1, 1) := by decide +kernel
theorem dX8_dropPressesFrom_28 : decode cX8_dropPressesFrom 28 = .ok (.lcmp, 1) := by decide +kernel
theorem dX8_dropPressesFrom_29 : decode cX8_dropPressesFrom 29 = .ok (.ifCond .lt 8, 3) := by decide +kernel
theorem dX8_dropPressesFrom_32 : decode cX8_dropPressesFrom 32 = .ok (.aload 4, 2) := by decide +kernel
theorem dX8_dropPressesFrom_34 : decode cX8_dropPressesFrom 34 = .ok (.invokevirtual 384, 3) := by decide +kernel
theorem dX8_dropPressesFrom_37 : decode cX8_dropPressesFrom 37 = .ok (.iinc 3 1, 3) := by decide +kernel
theorem dX8_dropPressesFrom_40 : decode cX8_dropPressesFrom 40 = .ok (.goto (-38), 3) := by decide +kernel
theorem dX8_dropPressesFrom_43 : decode cX8_dropPressesFrom 43 = .ok (.return_, 1) := by decide +kernel
theorem dX8_sellRipeOffers_0 : decode cX8_sellRipeOffers 0 = .ok (.iconst 0, 1) := by decide +kernel
theorem dX8_sellRipeOffers_1 : decode cX8_sellRipeOffers 1 = .ok (.istore_n 1, 1) := by decide +kernel
theorem dX8_sellRipeOffers_2 : decode cX8_sellRipeOffers 2 = .ok (.iload_n 1, 1) := by decide +kernel
theorem dX8_sellRipeOffers_3 : decode cX8_sellRipeOffers 3 = .ok (.aload_n 0, 1) := by decide +kernel
theorem dX8_sellRipeOffers_4 : decode cX8_sellRipeOffers 4 = .ok (.getfield 115, 3) := by decide +kernel
theorem dX8_sellRipeOffers_7 : decode cX8_sellRipeOffers 7 = .ok (.if_icmp .ge 74, 3) := by decide +kernel
theorem dX8_sellRipeOffers_10 : decode cX8_sellRipeOffers 10 = .ok (.aload_n 0, 1) := by decide +kernel
theorem dX8_sellRipeOffers_11 : decode cX8_sellRipeOffers 11 = .ok (.iload_n 1, 1) := by decide +kernel
theorem dX8_sellRipeOffers_12 : decode cX8_sellRipeOffers 12 = .ok (.invokevirtual 69, 3) := by decide +kernel
theorem dX8_sellRipeOffers_15 : decode cX8_sellRipeOffers 15 = .ok (.astore_n 2, 1) := by decide +kernel
theorem dX8_sellRipeOffers_16 : decode cX8_sellRipeOffers 16 = .ok (.aload_n 2, 1) := by decide +kernel
theorem dX8_sellRipeOffers_17 : decode cX8_sellRipeOffers 17 = .ok (.ifnull 58, 3) := by decide +kernel
theorem dX8_sellRipeOffers_20 : decode cX8_sellRipeOffers 20 = .ok (.aload_n 2, 1) := by decide +kernel
theorem dX8_sellRipeOffers_21 : decode cX8_sellRipeOffers 21 = .ok (.getfield 100, 3) := by decide +kernel
theorem dX8_sellRipeOffers_24 : decode cX8_sellRipeOffers 24 = .ok (.getstatic 235, 3) := by decide +kernel
theorem dX8_sellRipeOffers_27 : decode cX8_sellRipeOffers 27 = .ok (.if_acmp .ne 48, 3) := by decide +kernel
theorem dX8_sellRipeOffers_30 : decode cX8_sellRipeOffers 30 = .ok (.aload_n 0, 1) := by decide +kernel
theorem dX8_sellRipeOffers_31 : decode cX8_sellRipeOffers 31 = .ok (.getfield 208, 3) := by decide +kernel
theorem dX8_sellRipeOffers_34 : decode cX8_sellRipeOffers 34 = .ok (.aload_n 2, 1) := by decide +kernel
theorem dX8_sellRipeOffers_35 : decode cX8_sellRipeOffers 35 = .ok (.getfield 246, 3) := by decide +kernel
theorem dX8_sellRipeOffers_38 : decode cX8_sellRipeOffers 38 = .ok (.lsub, 1) := by decide +kernel
theorem dX8_sellRipeOffers_39 : decode cX8_sellRipeOffers 39 = .ok (.ldc2_w 397, 3) := by decide +kernel
theorem dX8_sellRipeOffers_42 : decode cX8_sellRipeOffers 42 = .ok (.lcmp, 1) := by decide +kernel
theorem dX8_sellRipeOffers_43 : decode cX8_sellRipeOffers 43 = .ok (.ifCond .lt 32, 3) := by decide +kernel
theorem dX8_sellRipeOffers_46 : decode cX8_sellRipeOffers 46 = .ok (.aload_n 2, 1) := by decide +kernel
theorem dX8_sellRipeOffers_47 : decode cX8_sellRipeOffers 47 = .ok (.aload_n 2, 1) := by decide +kernel
theorem dX8_sellRipeOffers_48 : decode cX8_sellRipeOffers 48 = .ok (.getfield 77, 3) := by decide +kernel
theorem dX8_sellRipeOffers_51 : decode cX8_sellRipeOffers 51 = .ok (.aload_n 2, 1) := by decide +kernel
theorem dX8_sellRipeOffers_52 : decode cX8_sellRipeOffers 52 = .ok (.getfield 82, 3) := by decide +kernel
theorem dX8_sellRipeOffers_55 : decode cX8_sellRipeOffers 55 = .ok (.invokevirtual 394, 3) := by decide +kernel
theorem dX8_sellRipeOffers_58 : decode cX8_sellRipeOffers 58 = .ok (.aload_n 0, 1) := by decide +kernel
theorem dX8_sellRipeOffers_59 : decode cX8_sellRipeOffers 59 = .ok (.getfield 37, 3) := by decide +kernel
theorem dX8_sellRipeOffers_62 : decode cX8_sellRipeOffers 62 = .ok (.iconst 3, 1) := by decide +kernel
theorem dX8_sellRipeOffers_63 : decode cX8_sellRipeOffers 63 = .ok (.iload_n 1, 1) := by decide +kernel
theorem dX8_sellRipeOffers_64 : decode cX8_sellRipeOffers 64 = .ok (.aload_n 2, 1) := by decide +kernel
theorem dX8_sellRipeOffers_65 : decode cX8_sellRipeOffers 65 = .ok (.getfield 77, 3) := by decide +kernel
theorem dX8_sellRipeOffers_68 : decode cX8_sellRipeOffers 68 = .ok (.aload_n 2, 1) := by decide +kernel
theorem dX8_sellRipeOffers_69 : decode cX8_sellRipeOffers 69 = .ok (.getfield 82, 3) := by decide +kernel
theorem dX8_sellRipeOffers_72 : decode cX8_sellRipeOffers 72 = .ok (.invokevirtual 137, 3) := by decide +kernel
theorem dX8_sellRipeOffers_75 : decode cX8_sellRipeOffers 75 = .ok (.iinc 1 1, 3) := by decide +kernel
theorem dX8_sellRipeOffers_78 : decode cX8_sellRipeOffers 78 = .ok (.goto (-76), 3) := by decide +kernel
theorem dX8_sellRipeOffers_81 : decode cX8_sellRipeOffers 81 = .ok (.return_, 1) := by decide +kernel
theorem dX8_findWinners_0 : decode cX8_findWinners 0 = .ok (.aload_n 0, 1) := by decide +kernel
theorem dX8_findWinners_1 : decode cX8_findWinners 1 = .ok (.getfield 44, 3) := by decide +kernel
theorem dX8_findWinners_4 : decode cX8_findWinners 4 = .ok (.invokevirtual 399, 3) := by decide +kernel
theorem dX8_findWinners_7 : decode cX8_findWinners 7 = .ok (.iconst 0, 1) := by decide +kernel
theorem dX8_findWinners_8 : decode cX8_findWinners 8 = .ok (.istore_n 1, 1) := by decide +kernel
theorem dX8_findWinners_9 : decode cX8_findWinners 9 = .ok (.iload_n 1, 1) := by decide +kernel
theorem dX8_findWinners_10 : decode cX8_findWinners 10 = .ok (.aload_n 0, 1) := by decide +kernel
theorem dX8_findWinners_11 : decode cX8_findWinners 11 = .ok (.getfield 60, 3) := by decide +kernel
theorem dX8_findWinners_14 : decode cX8_findWinners 14 = .ok (.if_icmp .ge 32, 3) := by decide +kernel
theorem dX8_findWinners_17 : decode cX8_findWinners 17 = .ok (.aload_n 0, 1) := by decide +kernel
theorem dX8_findWinners_18 : decode cX8_findWinners 18 = .ok (.iload_n 1, 1) := by decide +kernel
theorem dX8_findWinners_19 : decode cX8_findWinners 19 = .ok (.invokevirtual 89, 3) := by decide +kernel
theorem dX8_findWinners_22 : decode cX8_findWinners 22 = .ok (.astore_n 2, 1) := by decide +kernel
theorem dX8_findWinners_23 : decode cX8_findWinners 23 = .ok (.aload_n 2, 1) := by decide +kernel
theorem dX8_findWinners_24 : decode cX8_findWinners 24 = .ok (.ifnull 16, 3) := by decide +kernel
theorem dX8_findWinners_27 : decode cX8_findWinners 27 = .ok (.aload_n 0, 1) := by decide +kernel
theorem dX8_findWinners_28 : decode cX8_findWinners 28 = .ok (.getfield 44, 3) := by decide +kernel
theorem dX8_findWinners_31 : decode cX8_findWinners 31 = .ok (.iload_n 1, 1) := by decide +kernel
theorem dX8_findWinners_32 : decode cX8_findWinners 32 = .ok (.aload_n 0, 1) := by decide +kernel
theorem dX8_findWinners_33 : decode cX8_findWinners 33 = .ok (.aload_n 2, 1) := by decide +kernel
theorem dX8_findWinners_34 : decode cX8_findWinners 34 = .ok (.invokevirtual 96, 3) := by decide +kernel
theorem dX8_findWinners_37 : decode cX8_findWinners 37 = .ok (.invokevirtual 402, 3) := by decide +kernel
theorem dX8_findWinners_40 : decode cX8_findWinners 40 = .ok (.iinc 1 1, 3) := by decide +kernel
theorem dX8_findWinners_43 : decode cX8_findWinners 43 = .ok (.goto (-34), 3) := by decide +kernel
theorem dX8_findWinners_46 : decode cX8_findWinners 46 = .ok (.iconst 0, 1) := by decide +kernel
theorem dX8_findWinners_47 : decode cX8_findWinners 47 = .ok (.istore_n 1, 1) := by decide +kernel
theorem dX8_findWinners_48 : decode cX8_findWinners 48 = .ok (.iload_n 1, 1) := by decide +kernel
theorem dX8_findWinners_49 : decode cX8_findWinners 49 = .ok (.aload_n 0, 1) := by decide +kernel
theorem dX8_findWinners_50 : decode cX8_findWinners 50 = .ok (.getfield 249, 3) := by decide +kernel
theorem dX8_findWinners_53 : decode cX8_findWinners 53 = .ok (.if_icmp .ge 35, 3) := by decide +kernel
theorem dX8_findWinners_56 : decode cX8_findWinners 56 = .ok (.aload_n 0, 1) := by decide +kernel
theorem dX8_findWinners_57 : decode cX8_findWinners 57 = .ok (.iload_n 1, 1) := by decide +kernel
theorem dX8_findWinners_58 : decode cX8_findWinners 58 = .ok (.invokevirtual 255, 3) := by decide +kernel
theorem dX8_findWinners_61 : decode cX8_findWinners 61 = .ok (.astore_n 2, 1) := by decide +kernel
theorem dX8_findWinners_62 : decode cX8_findWinners 62 = .ok (.aload_n 2, 1) := by decide +kernel
theorem dX8_findWinners_63 : decode cX8_findWinners 63 = .ok (.ifnull 19, 3) := by decide +kernel
theorem dX8_findWinners_66 : decode cX8_findWinners 66 = .ok (.aload_n 0, 1) := by decide +kernel
theorem dX8_findWinners_67 : decode cX8_findWinners 67 = .ok (.aload_n 2, 1) := by decide +kernel
theorem dX8_findWinners_68 : decode cX8_findWinners 68 = .ok (.invokevirtual 405, 3) := by decide +kernel
theorem dX8_findWinners_71 : decode cX8_findWinners 71 = .ok (.ifCond .eq 11, 3) := by decide +kernel
theorem dX8_findWinners_74 : decode cX8_findWinners 74 = .ok (.aload_n 0, 1) := by decide +kernel
theorem dX8_findWinners_75 : decode cX8_findWinners 75 = .ok (.getfield 44, 3) := by decide +kernel
theorem dX8_findWinners_78 : decode cX8_findWinners 78 = .ok (.aload_n 2, 1) := by decide +kernel
theorem dX8_findWinners_79 : decode cX8_findWinners 79 = .ok (.invokevirtual 409, 3) := by decide +kernel
theorem dX8_findWinners_82 : decode cX8_findWinners 82 = .ok (.iinc 1 1, 3) := by decide +kernel
theorem dX8_findWinners_85 : decode cX8_findWinners 85 = .ok (.goto (-37), 3) := by decide +kernel
theorem dX8_findWinners_88 : decode cX8_findWinners 88 = .ok (.aload_n 0, 1) := by decide +kernel
theorem dX8_findWinners_89 : decode cX8_findWinners 89 = .ok (.getfield 44, 3) := by decide +kernel
theorem dX8_findWinners_92 : decode cX8_findWinners 92 = .ok (.invokevirtual 411, 3) := by decide +kernel
theorem dX8_findWinners_95 : decode cX8_findWinners 95 = .ok (.return_, 1) := by decide +kernel
theorem dX8_isGood_0 : decode cX8_isGood 0 = .ok (.lconst 0, 1) := by decide +kernel
theorem dX8_isGood_1 : decode cX8_isGood 1 = .ok (.lstore_n 2, 1) := by decide +kernel
theorem dX8_isGood_2 : decode cX8_isGood 2 = .ok (.iconst 0, 1) := by decide +kernel
theorem dX8_isGood_3 : decode cX8_isGood 3 = .ok (.istore 4, 2) := by decide +kernel
theorem dX8_isGood_5 : decode cX8_isGood 5 = .ok (.iload 4, 2) := by decide +kernel
theorem dX8_isGood_7 : decode cX8_isGood 7 = .ok (.aload_n 0, 1) := by decide +kernel
theorem dX8_isGood_8 : decode cX8_isGood 8 = .ok (.getfield 115, 3) := by decide +kernel
theorem dX8_isGood_11 : decode cX8_isGood 11 = .ok (.if_icmp .ge 52, 3) := by decide +kernel
theorem dX8_isGood_14 : decode cX8_isGood 14 = .ok (.aload_n 0, 1) := by decide +kernel
theorem dX8_isGood_15 : decode cX8_isGood 15 = .ok (.iload 4, 2) := by decide +kernel
theorem dX8_isGood_17 : decode cX8_isGood 17 = .ok (.invokevirtual 69, 3) := by decide +kernel
theorem dX8_isGood_20 : decode cX8_isGood 20 = .ok (.astore 5, 2) := by decide +kernel
theorem dX8_isGood_22 : decode cX8_isGood 22 = .ok (.aload 5, 2) := by decide +kernel
theorem dX8_isGood_24 : decode cX8_isGood 24 = .ok (.ifnull 33, 3) := by decide +kernel
theorem dX8_isGood_27 : decode cX8_isGood 27 = .ok (.aload_n 1, 1) := by decide +kernel
theorem dX8_isGood_28 : decode cX8_isGood 28 = .ok (.iload 4, 2) := by decide +kernel
theorem dX8_isGood_30 : decode cX8_isGood 30 = .ok (.invokevirtual 259, 3) := by decide +kernel
theorem dX8_isGood_33 : decode cX8_isGood 33 = .ok (.ifCond .eq 24, 3) := by decide +kernel
theorem dX8_isGood_36 : decode cX8_isGood 36 = .ok (.aload 5, 2) := by decide +kernel
theorem dX8_isGood_38 : decode cX8_isGood 38 = .ok (.getfield 100, 3) := by decide +kernel
theorem dX8_isGood_41 : decode cX8_isGood 41 = .ok (.getstatic 155, 3) := by decide +kernel
theorem dX8_isGood_44 : decode cX8_isGood 44 = .ok (.if_acmp .eq 5, 3) := by decide +kernel
theorem dX8_isGood_47 : decode cX8_isGood 47 = .ok (.iconst 0, 1) := by decide +kernel
theorem dX8_isGood_48 : decode cX8_isGood 48 = .ok (.ireturn, 1) := by decide +kernel
theorem dX8_isGood_49 : decode cX8_isGood 49 = .ok (.lload_n 2, 1) := by decide +kernel
theorem dX8_isGood_50 : decode cX8_isGood 50 = .ok (.aload 5, 2) := by decide +kernel
theorem dX8_isGood_52 : decode cX8_isGood 52 = .ok (.getfield 144, 3) := by decide +kernel
theorem dX8_isGood_55 : decode cX8_isGood 55 = .ok (.ladd, 1) := by decide +kernel
theorem dX8_isGood_56 : decode cX8_isGood 56 = .ok (.lstore_n 2, 1) := by decide +kernel
theorem dX8_isGood_57 : decode cX8_isGood 57 = .ok (.iinc 4 1, 3) := by decide +kernel
theorem dX8_isGood_60 : decode cX8_isGood 60 = .ok (.goto (-55), 3) := by decide +kernel
theorem dX8_isGood_63 : decode cX8_isGood 63 = .ok (.aload_n 1, 1) := by decide +kernel
theorem dX8_isGood_64 : decode cX8_isGood 64 = .ok (.getfield 414, 3) := by decide +kernel
theorem dX8_isGood_67 : decode cX8_isGood 67 = .ok (.lconst 0, 1) := by decide +kernel
theorem dX8_isGood_68 : decode cX8_isGood 68 = .ok (.lcmp, 1) := by decide +kernel
theorem dX8_isGood_69 : decode cX8_isGood 69 = .ok (.ifCond .eq 16, 3) := by decide +kernel
theorem dX8_isGood_72 : decode cX8_isGood 72 = .ok (.aload_n 1, 1) := by decide +kernel
theorem dX8_isGood_73 : decode cX8_isGood 73 = .ok (.getfield 417, 3) := by decide +kernel
theorem dX8_isGood_76 : decode cX8_isGood 76 = .ok (.lload_n 2, 1) := by decide +kernel
theorem dX8_isGood_77 : decode cX8_isGood 77 = .ok (.lcmp, 1) := by decide +kernel
theorem dX8_isGood_78 : decode cX8_isGood 78 = .ok (.ifCond .lt 7, 3) := by decide +kernel
theorem dX8_isGood_81 : decode cX8_isGood 81 = .ok (.iconst 1, 1) := by decide +kernel
theorem dX8_isGood_82 : decode cX8_isGood 82 = .ok (.goto 4, 3) := by decide +kernel
theorem dX8_isGood_85 : decode cX8_isGood 85 = .ok (.iconst 0, 1) := by decide +kernel
theorem dX8_isGood_86 : decode cX8_isGood 86 = .ok (.ireturn, 1) := by decide +kernel
theorem dX8_sellSet_0 : decode cX8_sellSet 0 = .ok (.aload_n 1, 1) := by decide +kernel
theorem dX8_sellSet_1 : decode cX8_sellSet 1 = .ok (.getfield 417, 3) := by decide +kernel
theorem dX8_sellSet_4 : decode cX8_sellSet 4 = .ok (.lstore_n 2, 1) := by decide +kernel
theorem dX8_sellSet_5 : decode cX8_sellSet 5 = .ok (.iconst 0, 1) := by decide +kernel
theorem dX8_sellSet_6 : decode cX8_sellSet 6 = .ok (.istore 4, 2) := by decide +kernel
theorem dX8_sellSet_8 : decode cX8_sellSet 8 = .ok (.iload 4, 2) := by decide +kernel
theorem dX8_sellSet_10 : decode cX8_sellSet 10 = .ok (.aload_n 0, 1) := by decide +kernel
theorem dX8_sellSet_11 : decode cX8_sellSet 11 = .ok (.getfield 115, 3) := by decide +kernel
theorem dX8_sellSet_14 : decode cX8_sellSet 14 = .ok (.if_icmp .ge 58, 3) := by decide +kernel
theorem dX8_sellSet_17 : decode cX8_sellSet 17 = .ok (.aload_n 0, 1) := by decide +kernel
theorem dX8_sellSet_18 : decode cX8_sellSet 18 = .ok (.iload 4, 2) := by decide +kernel
theorem dX8_sellSet_20 : decode cX8_sellSet 20 = .ok (.invokevirtual 69, 3) := by decide +kernel
theorem dX8_sellSet_23 : decode cX8_sellSet 23 = .ok (.astore 5, 2) := by decide +kernel
theorem dX8_sellSet_25 : decode cX8_sellSet 25 = .ok (.aload 5, 2) := by decide +kernel
theorem dX8_sellSet_27 : decode cX8_sellSet 27 = .ok (.ifnull 39, 3) := by decide +kernel
theorem dX8_sellSet_30 : decode cX8_sellSet 30 = .ok (.aload_n 1, 1) := by decide +kernel
theorem dX8_sellSet_31 : decode cX8_sellSet 31 = .ok (.iload 4, 2) := by decide +kernel
theorem dX8_sellSet_33 : decode cX8_sellSet 33 = .ok (.invokevirtual 259, 3) := by decide +kernel
theorem dX8_sellSet_36 : decode cX8_sellSet 36 = .ok (.ifCond .eq 30, 3) := by decide +kernel
theorem dX8_sellSet_39 : decode cX8_sellSet 39 = .ok (.aload 5, 2) := by decide +kernel
theorem dX8_sellSet_41 : decode cX8_sellSet 41 = .ok (.aload_n 1, 1) := by decide +kernel
theorem dX8_sellSet_42 : decode cX8_sellSet 42 = .ok (.getfield 418, 3) := by decide +kernel
theorem dX8_sellSet_45 : decode cX8_sellSet 45 = .ok (.lload_n 2, 1) := by decide +kernel
theorem dX8_sellSet_46 : decode cX8_sellSet 46 = .ok (.invokevirtual 394, 3) := by decide +kernel
theorem dX8_sellSet_49 : decode cX8_sellSet 49 = .ok (.aload_n 0, 1) := by decide +kernel
theorem dX8_sellSet_50 : decode cX8_sellSet 50 = .ok (.getfield 37, 3) := by decide +kernel
theorem dX8_sellSet_53 : decode cX8_sellSet 53 = .ok (.iconst 4, 1) := by decide +kernel
theorem dX8_sellSet_54 : decode cX8_sellSet 54 = .ok (.iload 4, 2) := by decide +kernel
theorem dX8_sellSet_56 : decode cX8_sellSet 56 = .ok (.aload_n 1, 1) := by decide +kernel
theorem dX8_sellSet_57 : decode cX8_sellSet 57 = .ok (.getfield 418, 3) := by decide +kernel
theorem dX8_sellSet_60 : decode cX8_sellSet 60 = .ok (.lload_n 2, 1) := by decide +kernel
theorem dX8_sellSet_61 : decode cX8_sellSet 61 = .ok (.invokevirtual 137, 3) := by decide +kernel
theorem dX8_sellSet_64 : decode cX8_sellSet 64 = .ok (.lconst 0, 1) := by decide +kernel
theorem dX8_sellSet_65 : decode cX8_sellSet 65 = .ok (.lstore_n 2, 1) := by decide +kernel
theorem dX8_sellSet_66 : decode cX8_sellSet 66 = .ok (.iinc 4 1, 3) := by decide +kernel
theorem dX8_sellSet_69 : decode cX8_sellSet 69 = .ok (.goto (-61), 3) := by decide +kernel
theorem dX8_sellSet_72 : decode cX8_sellSet 72 = .ok (.return_, 1) := by decide +kernel
theorem dJ6_bitCount_0f7a4_0 : decode cJ6_bitCount_0f7a4 0 = .ok (.iload_n 0, 1) := by decide +kernel
theorem dJ6_bitCount_0f7a4_1 : decode cJ6_bitCount_0f7a4 1 = .ok (.iload_n 0, 1) := by decide +kernel
theorem dJ6_bitCount_0f7a4_2 : decode cJ6_bitCount_0f7a4 2 = .ok (.iconst 1, 1) := by decide +kernel
theorem dJ6_bitCount_0f7a4_3 : decode cJ6_bitCount_0f7a4 3 = .ok (.iushr, 1) := by decide +kernel
theorem dJ6_bitCount_0f7a4_4 : decode cJ6_bitCount_0f7a4 4 = .ok (.ldc_w 265, 3) := by decide +kernel
theorem dJ6_bitCount_0f7a4_7 : decode cJ6_bitCount_0f7a4 7 = .ok (.iand, 1) := by decide +kernel
theorem dJ6_bitCount_0f7a4_8 : decode cJ6_bitCount_0f7a4 8 = .ok (.isub, 1) := by decide +kernel
theorem dJ6_bitCount_0f7a4_9 : decode cJ6_bitCount_0f7a4 9 = .ok (.istore_n 0, 1) := by decide +kernel
theorem dJ6_bitCount_0f7a4_10 : decode cJ6_bitCount_0f7a4 10 = .ok (.iload_n 0, 1) := by decide +kernel
theorem dJ6_bitCount_0f7a4_11 : decode cJ6_bitCount_0f7a4 11 = .ok (.ldc_w 266, 3) := by decide +kernel
theorem dJ6_bitCount_0f7a4_14 : decode cJ6_bitCount_0f7a4 14 = .ok (.iand, 1) := by decide +kernel
theorem dJ6_bitCount_0f7a4_15 : decode cJ6_bitCount_0f7a4 15 = .ok (.iload_n 0, 1) := by decide +kernel
theorem dJ6_bitCount_0f7a4_16 : decode cJ6_bitCount_0f7a4 16 = .ok (.iconst 2, 1) := by decide +kernel
theorem dJ6_bitCount_0f7a4_17 : decode cJ6_bitCount_0f7a4 17 = .ok (.iushr, 1) := by decide +kernel
theorem dJ6_bitCount_0f7a4_18 : decode cJ6_bitCount_0f7a4 18 = .ok (.ldc_w 266, 3) := by decide +kernel
theorem dJ6_bitCount_0f7a4_21 : decode cJ6_bitCount_0f7a4 21 = .ok (.iand, 1) := by decide +kernel
theorem dJ6_bitCount_0f7a4_22 : decode cJ6_bitCount_0f7a4 22 = .ok (.iadd, 1) := by decide +kernel
theorem dJ6_bitCount_0f7a4_23 : decode cJ6_bitCount_0f7a4 23 = .ok (.istore_n 0, 1) := by decide +kernel
theorem dJ6_bitCount_0f7a4_24 : decode cJ6_bitCount_0f7a4 24 = .ok (.iload_n 0, 1) := by decide +kernel
theorem dJ6_bitCount_0f7a4_25 : decode cJ6_bitCount_0f7a4 25 = .ok (.iload_n 0, 1) := by decide +kernel
theorem dJ6_bitCount_0f7a4_26 : decode cJ6_bitCount_0f7a4 26 = .ok (.iconst 4, 1) := by decide +kernel
theorem dJ6_bitCount_0f7a4_27 : decode cJ6_bitCount_0f7a4 27 = .ok (.iushr, 1) := by decide +kernel
theorem dJ6_bitCount_0f7a4_28 : decode cJ6_bitCount_0f7a4 28 = .ok (.iadd, 1) := by decide +kernel
theorem dJ6_bitCount_0f7a4_29 : decode cJ6_bitCount_0f7a4 29 = .ok (.ldc_w 267, 3) := by decide +kernel
theorem dJ6_bitCount_0f7a4_32 : decode cJ6_bitCount_0f7a4 32 = .ok (.iand, 1) := by decide +kernel
theorem dJ6_bitCount_0f7a4_33 : decode cJ6_bitCount_0f7a4 33 = .ok (.istore_n 0, 1) := by decide +kernel
theorem dJ6_bitCount_0f7a4_34 : decode cJ6_bitCount_0f7a4 34 = .ok (.iload_n 0, 1) := by decide +kernel
theorem dJ6_bitCount_0f7a4_35 : decode cJ6_bitCount_0f7a4 35 = .ok (.iload_n 0, 1) := by decide +kernel
theorem dJ6_bitCount_0f7a4_36 : decode cJ6_bitCount_0f7a4 36 = .ok (.bipush 8, 2) := by decide +kernel
theorem dJ6_bitCount_0f7a4_38 : decode cJ6_bitCount_0f7a4 38 = .ok (.iushr, 1) := by decide +kernel
theorem dJ6_bitCount_0f7a4_39 : decode cJ6_bitCount_0f7a4 39 = .ok (.iadd, 1) := by decide +kernel
theorem dJ6_bitCount_0f7a4_40 : decode cJ6_bitCount_0f7a4 40 = .ok (.istore_n 0, 1) := by decide +kernel
theorem dJ6_bitCount_0f7a4_41 : decode cJ6_bitCount_0f7a4 41 = .ok (.iload_n 0, 1) := by decide +kernel
theorem dJ6_bitCount_0f7a4_42 : decode cJ6_bitCount_0f7a4 42 = .ok (.iload_n 0, 1) := by decide +kernel
theorem dJ6_bitCount_0f7a4_43 : decode cJ6_bitCount_0f7a4 43 = .ok (.bipush 16, 2) := by decide +kernel
theorem dJ6_bitCount_0f7a4_45 : decode cJ6_bitCount_0f7a4 45 = .ok (.iushr, 1) := by decide +kernel
theorem dJ6_bitCount_0f7a4_46 : decode cJ6_bitCount_0f7a4 46 = .ok (.iadd, 1) := by decide +kernel
theorem dJ6_bitCount_0f7a4_47 : decode cJ6_bitCount_0f7a4 47 = .ok (.istore_n 0, 1) := by decide +kernel
theorem dJ6_bitCount_0f7a4_48 : decode cJ6_bitCount_0f7a4 48 = .ok (.iload_n 0, 1) := by decide +kernel
theorem dJ6_bitCount_0f7a4_49 : decode cJ6_bitCount_0f7a4 49 = .ok (.bipush 63, 2) := by decide +kernel
theorem dJ6_bitCount_0f7a4_51 : decode cJ6_bitCount_0f7a4 51 = .ok (.iand, 1) := by decide +kernel
theorem dJ6_bitCount_0f7a4_52 : decode cJ6_bitCount_0f7a4 52 = .ok (.ireturn, 1) := by decide +kernel
theorem dJ9_max_f86c9_0 : decode cJ9_max_f86c9 0 = .ok (.lload_n 0, 1) := by decide +kernel
theorem dJ9_max_f86c9_1 : decode cJ9_max_f86c9 1 = .ok (.lload_n 2, 1) := by decide +kernel
theorem dJ9_max_f86c9_2 : decode cJ9_max_f86c9 2 = .ok (.lcmp, 1) := by decide +kernel
theorem dJ9_max_f86c9_3 : decode cJ9_max_f86c9 3 = .ok (.ifCond .lt 7, 3) := by decide +kernel
theorem dJ9_max_f86c9_6 : decode cJ9_max_f86c9 6 = .ok (.lload_n 0, 1) := by decide +kernel
theorem dJ9_max_f86c9_7 : decode cJ9_max_f86c9 7 = .ok (.goto 4, 3) := by decide +kernel
theorem dJ9_max_f86c9_10 : decode cJ9_max_f86c9 10 = .ok (.lload_n 2, 1) := by decide +kernel
theorem dJ9_max_f86c9_11 : decode cJ9_max_f86c9 11 = .ok (.lreturn, 1) := by decide +kernel
theorem dJ9_min_f86c9_0 : decode cJ9_min_f86c9 0 = .ok (.lload_n 0, 1) := by decide +kernel
theorem dJ9_min_f86c9_1 : decode cJ9_min_f86c9 1 = .ok (.lload_n 2, 1) := by decide +kernel
theorem dJ9_min_f86c9_2 : decode cJ9_min_f86c9 2 = .ok (.lcmp, 1) := by decide +kernel
theorem dJ9_min_f86c9_3 : decode cJ9_min_f86c9 3 = .ok (.ifCond .gt 7, 3) := by decide +kernel
theorem dJ9_min_f86c9_6 : decode cJ9_min_f86c9 6 = .ok (.lload_n 0, 1) := by decide +kernel
theorem dJ9_min_f86c9_7 : decode cJ9_min_f86c9 7 = .ok (.goto 4, 3) := by decide +kernel
theorem dJ9_min_f86c9_10 : decode cJ9_min_f86c9 10 = .ok (.lload_n 2, 1) := by decide +kernel
theorem dJ9_min_f86c9_11 : decode cJ9_min_f86c9 11 = .ok (.lreturn, 1) := by decide +kernel
end
section
theorem dX9_init_0 : decode cX9_init 0 = .ok (.aload_n 0, 1) := by decide +kernel
theorem dX9_init_1 : decode cX9_init 1 = .ok (.invokespecial 1, 3) := by decide +kernel
theorem dX9_init_4 : decode cX9_init 4 = .ok (.aload_n 0, 1) := by decide +kernel
theorem dX9_init_5 : decode cX9_init 5 = .ok (.bipush 60, 2) := by decide +kernel
theorem dX9_init_7 : decode cX9_init 7 = .ok (.newarray .int, 2) := by decide +kernel
theorem dX9_init_9 : decode cX9_init 9 = .ok (.putfield 7, 3) := by decide +kernel
theorem dX9_init_12 : decode cX9_init 12 = .ok (.aload_n 0, 1) := by decide +kernel
theorem dX9_init_13 : decode cX9_init 13 = .ok (.bipush 60, 2) := by decide +kernel
theorem dX9_init_15 : decode cX9_init 15 = .ok (.newarray .long, 2) := by decide +kernel
theorem dX9_init_17 : decode cX9_init 17 = .ok (.putfield 13, 3) := by decide +kernel
theorem dX9_init_20 : decode cX9_init 20 = .ok (.aload_n 0, 1) := by decide +kernel
theorem dX9_init_21 : decode cX9_init 21 = .ok (.bipush 60, 2) := by decide +kernel
theorem dX9_init_23 : decode cX9_init 23 = .ok (.newarray .long, 2) := by decide +kernel
theorem dX9_init_25 : decode cX9_init 25 = .ok (.putfield 17, 3) := by decide +kernel
theorem dX9_init_28 : decode cX9_init 28 = .ok (.aload_n 0, 1) := by decide +kernel
theorem dX9_init_29 : decode cX9_init 29 = .ok (.bipush 60, 2) := by decide +kernel
theorem dX9_init_31 : decode cX9_init 31 = .ok (.newarray .int, 2) := by decide +kernel
theorem dX9_init_33 : decode cX9_init 33 = .ok (.putfield 20, 3) := by decide +kernel
theorem dX9_init_36 : decode cX9_init 36 = .ok (.aload_n 0, 1) := by decide +kernel
theorem dX9_init_37 : decode cX9_init 37 = .ok (.bipush 60, 2) := by decide +kernel
theorem dX9_init_39 : decode cX9_init 39 = .ok (.newarray .int, 2) := by decide +kernel
theorem dX9_init_41 : decode cX9_init 41 = .ok (.putfield 23, 3) := by decide +kernel
theorem dX9_init_44 : decode cX9_init 44 = .ok (.aload_n 0, 1) := by decide +kernel
theorem dX9_init_45 : decode cX9_init 45 = .ok (.bipush 60, 2) := by decide +kernel
theorem dX9_init_47 : decode cX9_init 47 = .ok (.newarray .long, 2) := by decide +kernel
theorem dX9_init_49 : decode cX9_init 49 = .ok (.putfield 26, 3) := by decide +kernel
theorem dX9_init_52 : decode cX9_init 52 = .ok (.aload_n 0, 1) := by decide +kernel
theorem dX9_init_53 : decode cX9_init 53 = .ok (.bipush 60, 2) := by decide +kernel
theorem dX9_init_55 : decode cX9_init 55 = .ok (.newarray .boolean, 2) := by decide +kernel
theorem dX9_init_57 : decode cX9_init 57 = .ok (.putfield 29, 3) := by decide +kernel
theorem dX9_init_60 : decode cX9_init 60 = .ok (.aload_n 0, 1) := by decide +kernel
theorem dX9_init_61 : decode cX9_init 61 = .ok (.bipush 60, 2) := by decide +kernel
theorem dX9_init_63 : decode cX9_init 63 = .ok (.newarray .boolean, 2) := by decide +kernel
theorem dX9_init_65 : decode cX9_init 65 = .ok (.putfield 33, 3) := by decide +kernel
theorem dX9_init_68 : decode cX9_init 68 = .ok (.aload_n 0, 1) := by decide +kernel
theorem dX9_init_69 : decode cX9_init 69 = .ok (.bipush 60, 2) := by decide +kernel
theorem dX9_init_71 : decode cX9_init 71 = .ok (.newarray .boolean, 2) := by decide +kernel
theorem dX9_init_73 : decode cX9_init 73 = .ok (.putfield 36, 3) := by decide +kernel
theorem dX9_init_76 : decode cX9_init 76 = .ok (.aload_n 0, 1) := by decide +kernel
theorem dX9_init_77 : decode cX9_init 77 = .ok (.bipush 60, 2) := by decide +kernel
theorem dX9_init_79 : decode cX9_init 79 = .ok (.newarray .long, 2) := by decide +kernel
theorem dX9_init_81 : decode cX9_init 81 = .ok (.putfield 39, 3) := by decide +kernel
theorem dX9_init_84 : decode cX9_init 84 = .ok (.aload_n 0, 1) := by decide +kernel
theorem dX9_init_85 : decode cX9_init 85 = .ok (.bipush 60, 2) := by decide +kernel
theorem dX9_init_87 : decode cX9_init 87 = .ok (.newarray .int, 2) := by decide +kernel
theorem dX9_init_89 : decode cX9_init 89 = .ok (.putfield 42, 3) := by decide +kernel
theorem dX9_init_92 : decode cX9_init 92 = .ok (.aload_n 0, 1) := by decide +kernel
theorem dX9_init_93 : decode cX9_init 93 = .ok (.bipush 30, 2) := by decide +kernel
theorem dX9_init_95 : decode cX9_init 95 = .ok (.newarray .long, 2) := by decide +kernel
theorem dX9_init_97 : decode cX9_init 97 = .ok (.putfield 45, 3) := by decide +kernel
theorem dX9_init_100 : decode cX9_init 100 = .ok (.aload_n 0, 1) := by decide +kernel
theorem dX9_init_101 : decode cX9_init 101 = .ok (.bipush 30, 2) := by decide +kernel
theorem dX9_init_103 : decode cX9_init 103 = .ok (.newarray .long, 2) := by decide +kernel
theorem dX9_init_105 : decode cX9_init 105 = .ok (.putfield 48, 3) := by decide +kernel
theorem dX9_init_108 : decode cX9_init 108 = .ok (.aload_n 0, 1) := by decide +kernel
theorem dX9_init_109 : decode cX9_init 109 = .ok (.bipush 30, 2) := by decide +kernel
theorem dX9_init_111 : decode cX9_init 111 = .ok (.newarray .long, 2) := by decide +kernel
theorem dX9_init_113 : decode cX9_init 113 = .ok (.putfield 51, 3) := by decide +kernel
theorem dX9_init_116 : decode cX9_init 116 = .ok (.aload_n 0, 1) := by decide +kernel
theorem dX9_init_117 : decode cX9_init 117 = .ok (.iconst (-1), 1) := by decide +kernel
theorem dX9_init_118 : decode cX9_init 118 = .ok (.putfield 54, 3) := by decide +kernel
theorem dX9_init_121 : decode cX9_init 121 = .ok (.aload_n 0, 1) := by decide +kernel
theorem dX9_init_122 : decode cX9_init 122 = .ok (.bipush 18, 2) := by decide +kernel
theorem dX9_init_124 : decode cX9_init 124 = .ok (.newarray .int, 2) := by decide +kernel
theorem dX9_init_126 : decode cX9_init 126 = .ok (.putfield 58, 3) := by decide +kernel
theorem dX9_init_129 : decode cX9_init 129 = .ok (.aload_n 0, 1) := by decide +kernel
theorem dX9_init_130 : decode cX9_init 130 = .ok (.bipush 18, 2) := by decide +kernel
theorem dX9_init_132 : decode cX9_init 132 = .ok (.newarray .long, 2) := by decide +kernel
theorem dX9_init_134 : decode cX9_init 134 = .ok (.putfield 61, 3) := by decide +kernel
theorem dX9_init_137 : decode cX9_init 137 = .ok (.aload_n 0, 1) := by decide +kernel
theorem dX9_init_138 : decode cX9_init 138 = .ok (.bipush 18, 2) := by decide +kernel
theorem dX9_init_140 : decode cX9_init 140 = .ok (.newarray .long, 2) := by decide +kernel
theorem dX9_init_142 : decode cX9_init 142 = .ok (.putfield 64, 3) := by decide +kernel
theorem dX9_init_145 : decode cX9_init 145 = .ok (.aload_n 0, 1) := by decide +kernel
theorem dX9_init_146 : decode cX9_init 146 = .ok (.sipush 1024, 3) := by decide +kernel
theorem dX9_init_149 : decode cX9_init 149 = .ok (.newarray .int, 2) := by decide +kernel
theorem dX9_init_151 : decode cX9_init 151 = .ok (.putfield 67, 3) := by decide +kernel
theorem dX9_init_154 : decode cX9_init 154 = .ok (.aload_n 0, 1) := by decide +kernel
theorem dX9_init_155 : decode cX9_init 155 = .ok (.sipush 1024, 3) := by decide +kernel
theorem dX9_init_158 : decode cX9_init 158 = .ok (.newarray .int, 2) := by decide +kernel
theorem dX9_init_160 : decode cX9_init 160 = .ok (.putfield 70, 3) := by decide +kernel
theorem dX9_init_163 : decode cX9_init 163 = .ok (.aload_n 0, 1) := by decide +kernel
theorem dX9_init_164 : decode cX9_init 164 = .ok (.sipush 1024, 3) := by decide +kernel
theorem dX9_init_167 : decode cX9_init 167 = .ok (.newarray .int, 2) := by decide +kernel
theorem dX9_init_169 : decode cX9_init 169 = .ok (.putfield 73, 3) := by decide +kernel
theorem dX9_init_172 : decode cX9_init 172 = .ok (.aload_n 0, 1) := by decide +kernel
theorem dX9_init_173 : decode cX9_init 173 = .ok (.sipush 1024, 3) := by decide +kernel
theorem dX9_init_176 : decode cX9_init 176 = .ok (.newarray .long, 2) := by decide +kernel
theorem dX9_init_178 : decode cX9_init 178 = .ok (.putfield 76, 3) := by decide +kernel
theorem dX9_init_181 : decode cX9_init 181 = .ok (.aload_n 0, 1) := by decide +kernel
theorem dX9_init_182 : decode cX9_init 182 = .ok (.sipush 1024, 3) := by decide +kernel
theorem dX9_init_185 : decode cX9_init 185 = .ok (.newarray .int, 2) := by decide +kernel
theorem dX9_init_187 : decode cX9_init 187 = .ok (.putfield 79, 3) := by decide +kernel
theorem dX9_init_190 : decode cX9_init 190 = .ok (.return_, 1) := by decide +kernel
theorem dX9_isLot_0 : decode cX9_isLot 0 = .ok (.iload_n 1, 1) := by decide +kernel
theorem dX9_isLot_1 : decode cX9_isLot 1 = .ok (.ifCond .lt 15, 3) := by decide +kernel
theorem dX9_isLot_4 : decode cX9_isLot 4 = .ok (.iload_n 1, 1) := by decide +kernel
theorem dX9_isLot_5 : decode cX9_isLot 5 = .ok (.aload_n 0, 1) := by decide +kernel
theorem dX9_isLot_6 : decode cX9_isLot 6 = .ok (.getfield 82, 3) := by decide +kernel
theorem dX9_isLot_9 : decode cX9_isLot 9 = .ok (.if_icmp .ge 7, 3) := by decide +kernel
theorem dX9_isLot_12 : decode cX9_isLot 12 = .ok (.iconst 1, 1) := by decide +kernel
theorem dX9_isLot_13 : decode cX9_isLot 13 = .ok (.goto 4, 3) := by decide +kernel
theorem dX9_isLot_16 : decode cX9_isLot 16 = .ok (.iconst 0, 1) := by decide +kernel
theorem dX9_isLot_17 : decode cX9_isLot 17 = .ok (.ireturn, 1) := by decide +kernel
theorem dX9_isBuyer_0 : decode cX9_isBuyer 0 = .ok (.iload_n 1, 1) := by decide +kernel
theorem dX9_isBuyer_1 : decode cX9_isBuyer 1 = .ok (.ifCond .lt 15, 3) := by decide +kernel
theorem dX9_isBuyer_4 : decode cX9_isBuyer 4 = .ok (.iload_n 1, 1) := by decide +kernel
theorem dX9_isBuyer_5 : decode cX9_isBuyer 5 = .ok (.aload_n 0, 1) := by decide +kernel
theorem dX9_isBuyer_6 : decode cX9_isBuyer 6 = .ok (.getfield 85, 3) := by decide +kernel
theorem dX9_isBuyer_9 : decode cX9_isBuyer 9 = .ok (.if_icmp .ge 7, 3) := by decide +kernel
theorem dX9_isBuyer_12 : decode cX9_isBuyer 12 = .ok (.iconst 1, 1) := by decide +kernel
theorem dX9_isBuyer_13 : decode cX9_isBuyer 13 = .ok (.goto 4, 3) := by decide +kernel
theorem dX9_isBuyer_16 : decode cX9_isBuyer 16 = .ok (.iconst 0, 1) := by decide +kernel
theorem dX9_isBuyer_17 : decode cX9_isBuyer 17 = .ok (.ireturn, 1) := by decide +kernel
theorem dX9_next_0 : decode cX9_next 0 = .ok (.ldc2_w 88, 3) := by decide +kernel
theorem dX9_next_3 : decode cX9_next 3 = .ok (.iload_n 1, 1) := by decide +kernel
theorem dX9_next_4 : decode cX9_next 4 = .ok (.i2l, 1) := by decide +kernel
theorem dX9_next_5 : decode cX9_next 5 = .ok (.lmul, 1) := by decide +kernel
theorem dX9_next_6 : decode cX9_next 6 = .ok (.ldc2_w 90, 3) := by decide +kernel
theorem dX9_next_9 : decode cX9_next 9 = .ok (.iload_n 2, 1) := by decide +kernel
theorem dX9_next_10 : decode cX9_next 10 = .ok (.i2l, 1) := by decide +kernel
theorem dX9_next_11 : decode cX9_next 11 = .ok (.lmul, 1) := by decide +kernel
theorem dX9_next_12 : decode cX9_next 12 = .ok (.ladd, 1) := by decide +kernel
theorem dX9_next_13 : decode cX9_next 13 = .ok (.ldc2_w 92, 3) := by decide +kernel
theorem dX9_next_16 : decode cX9_next 16 = .ok (.iload_n 3, 1) := by decide +kernel
theorem dX9_next_17 : decode cX9_next 17 = .ok (.i2l, 1) := by decide +kernel
theorem dX9_next_18 : decode cX9_next 18 = .ok (.lmul, 1) := by decide +kernel
theorem dX9_next_19 : decode cX9_next 19 = .ok (.ladd, 1) := by decide +kernel
theorem dX9_next_20 : decode cX9_next 20 = .ok (.ldc2_w 94, 3) := by decide +kernel
theorem dX9_next_23 : decode cX9_next 23 = .ok (.iload 4, 2) := by decide +kernel
theorem dX9_next_25 : decode cX9_next 25 = .ok (.iconst 1, 1) := by decide +kernel
theorem dX9_next_26 : decode cX9_next 26 = .ok (.iadd, 1) := by decide +kernel
theorem dX9_next_27 : decode cX9_next 27 = .ok (.i2l, 1) := by decide +kernel
theorem dX9_next_28 : decode cX9_next 28 = .ok (.lmul, 1) := by decide +kernel
theorem dX9_next_29 : decode cX9_next 29 = .ok (.ladd, 1) := by decide +kernel
theorem dX9_next_30 : decode cX9_next 30 = .ok (.lload 5, 2) := by decide +kernel
theorem dX9_next_32 : decode cX9_next 32 = .ok (.ladd, 1) := by decide +kernel
theorem dX9_next_33 : decode cX9_next 33 = .ok (.ldc2_w 96, 3) := by decide +kernel
theorem dX9_next_36 : decode cX9_next 36 = .ok (.lrem, 1) := by decide +kernel
theorem dX9_next_37 : decode cX9_next 37 = .ok (.l2i, 1) := by decide +kernel
theorem dX9_next_38 : decode cX9_next 38 = .ok (.ireturn, 1) := by decide +kernel
theorem dX9_note_0 : decode cX9_note 0 = .ok (.aload_n 0, 1) := by decide +kernel
theorem dX9_note_1 : decode cX9_note 1 = .ok (.getfield 67, 3) := by decide +kernel
theorem dX9_note_4 : decode cX9_note 4 = .ok (.aload_n 0, 1) := by decide +kernel
theorem dX9_note_5 : decode cX9_note 5 = .ok (.getfield 98, 3) := by decide +kernel
theorem dX9_note_8 : decode cX9_note 8 = .ok (.iload_n 1, 1) := by decide +kernel
theorem dX9_note_9 : decode cX9_note 9 = .ok (.iastore, 1) := by decide +kernel
theorem dX9_note_10 : decode cX9_note 10 = .ok (.aload_n 0, 1) := by decide +kernel
theorem dX9_note_11 : decode cX9_note 11 = .ok (.getfield 70, 3) := by decide +kernel
theorem dX9_note_14 : decode cX9_note 14 = .ok (.aload_n 0, 1) := by decide +kernel
theorem dX9_note_15 : decode cX9_note 15 = .ok (.getfield 98, 3) := by decide +kernel
theorem dX9_note_18 : decode cX9_note 18 = .ok (.iload_n 2, 1) := by decide +kernel
theorem dX9_note_19 : decode cX9_note 19 = .ok (.iastore, 1) := by decide +kernel
theorem dX9_note_20 : decode cX9_note 20 = .ok (.aload_n 0, 1) := by decide +kernel
theorem dX9_note_21 : decode cX9_note 21 = .ok (.getfield 73, 3) := by decide +kernel
theorem dX9_note_24 : decode cX9_note 24 = .ok (.aload_n 0, 1) := by decide +kernel
theorem dX9_note_25 : decode cX9_note 25 = .ok (.getfield 98, 3) := by decide +kernel
theorem dX9_note_28 : decode cX9_note 28 = .ok (.iload_n 3, 1) := by decide +kernel
theorem dX9_note_29 : decode cX9_note 29 = .ok (.iastore, 1) := by decide +kernel
theorem dX9_note_30 : decode cX9_note 30 = .ok (.aload_n 0, 1) := by decide +kernel
theorem dX9_note_31 : decode cX9_note 31 = .ok (.getfield 76, 3) := by decide +kernel
theorem dX9_note_34 : decode cX9_note 34 = .ok (.aload_n 0, 1) := by decide +kernel
theorem dX9_note_35 : decode cX9_note 35 = .ok (.getfield 98, 3) := by decide +kernel
theorem dX9_note_38 : decode cX9_note 38 = .ok (.lload 4, 2) := by decide +kernel
theorem dX9_note_40 : decode cX9_note 40 = .ok (.lastore, 1) := by decide +kernel
theorem dX9_note_41 : decode cX9_note 41 = .ok (.aload_n 0, 1) := by decide +kernel
theorem dX9_note_42 : decode cX9_note 42 = .ok (.getfield 79, 3) := by decide +kernel
theorem dX9_note_45 : decode cX9_note 45 = .ok (.aload_n 0, 1) := by decide +kernel
theorem dX9_note_46 : decode cX9_note 46 = .ok (.getfield 98, 3) := by decide +kernel
theorem dX9_note_49 : decode cX9_note 49 = .ok (.aload_n 0, 1) := by decide +kernel
theorem dX9_note_50 : decode cX9_note 50 = .ok (.aload_n 0, 1) := by decide +kernel
theorem dX9_note_51 : decode cX9_note 51 = .ok (.getfield 98, 3) := by decide +kernel
theorem dX9_note_54 : decode cX9_note 54 = .ok (.ifCond .ne 7, 3) := by decide +kernel
theorem dX9_note_57 : decode cX9_note 57 = .ok (.iconst 1, 1) := by decide +kernel
theorem dX9_note_58 : decode cX9_note 58 = .ok (.goto 14, 3) := by decide +kernel
theorem dX9_note_61 : decode cX9_note 61 = .ok (.aload_n 0, 1) := by decide +kernel
theorem dX9_note_62 : decode cX9_note 62 = .ok (.getfield 79, 3) := by decide +kernel
theorem dX9_note_65 : decode cX9_note 65 = .ok (.aload_n 0, 1) := by decide +kernel
theorem dX9_note_66 : decode cX9_note 66 = .ok (.getfield 98, 3) := by decide +kernel
theorem dX9_note_69 : decode cX9_note 69 = .ok (.iconst 1, 1) := by decide +kernel
theorem dX9_note_70 : decode cX9_note 70 = .ok (.isub, 1) := by decide +kernel
theorem dX9_note_71 : decode cX9_note 71 = .ok (.iaload, 1) := by decide +kernel
theorem dX9_note_72 : decode cX9_note 72 = .ok (.iload_n 1, 1) := by decide +kernel
theorem dX9_note_73 : decode cX9_note 73 = .ok (.iload_n 2, 1) := by decide +kernel
theorem dX9_note_74 : decode cX9_note 74 = .ok (.iload_n 3, 1) := by decide +kernel
theorem dX9_note_75 : decode cX9_note 75 = .ok (.lload 4, 2) := by decide +kernel
theorem dX9_note_77 : decode cX9_note 77 = .ok (.invokevirtual 101, 3) := by decide +kernel
theorem dX9_note_80 : decode cX9_note 80 = .ok (.iastore, 1) := by decide +kernel
theorem dX9_note_81 : decode cX9_note 81 = .ok (.aload_n 0, 1) := by decide +kernel
theorem dX9_note_82 : decode cX9_note 82 = .ok (.dup, 1) := by decide +kernel
theorem dX9_note_83 : decode cX9_note 83 = .ok (.getfield 98, 3) := by decide +kernel
theorem dX9_note_86 : decode cX9_note 86 = .ok (.iconst 1, 1) := by decide +kernel
theorem dX9_note_87 : decode cX9_note 87 = .ok (.iadd, 1) := by decide +kernel
theorem dX9_note_88 : decode cX9_note 88 = .ok (.putfield 98, 3) := by decide +kernel
theorem dX9_note_91 : decode cX9_note 91 = .ok (.return_, 1) := by decide +kernel
theorem dX9_heldBy_0 : decode cX9_heldBy 0 = .ok (.lconst 0, 1) := by decide +kernel
theorem dX9_heldBy_1 : decode cX9_heldBy 1 = .ok (.lstore_n 2, 1) := by decide +kernel
theorem dX9_heldBy_2 : decode cX9_heldBy 2 = .ok (.iconst 0, 1) := by decide +kernel
theorem dX9_heldBy_3 : decode cX9_heldBy 3 = .ok (.istore 4, 2) := by decide +kernel
theorem dX9_heldBy_5 : decode cX9_heldBy 5 = .ok (.iload 4, 2) := by decide +kernel
theorem dX9_heldBy_7 : decode cX9_heldBy 7 = .ok (.aload_n 0, 1) := by decide +kernel
theorem dX9_heldBy_8 : decode cX9_heldBy 8 = .ok (.getfield 82, 3) := by decide +kernel
theorem dX9_heldBy_11 : decode cX9_heldBy 11 = .ok (.if_icmp .ge 56, 3) := by decide +kernel
theorem dX9_heldBy_14 : decode cX9_heldBy 14 = .ok (.lload_n 2, 1) := by decide +kernel
theorem dX9_heldBy_15 : decode cX9_heldBy 15 = .ok (.aload_n 0, 1) := by decide +kernel
theorem dX9_heldBy_16 : decode cX9_heldBy 16 = .ok (.getfield 20, 3) := by decide +kernel
theorem dX9_heldBy_19 : decode cX9_heldBy 19 = .ok (.iload 4, 2) := by decide +kernel
theorem dX9_heldBy_21 : decode cX9_heldBy 21 = .ok (.iaload, 1) := by decide +kernel
theorem dX9_heldBy_22 : decode cX9_heldBy 22 = .ok (.iconst 3, 1) := by decide +kernel
theorem dX9_heldBy_23 : decode cX9_heldBy 23 = .ok (.if_icmp .eq 14, 3) := by decide +kernel
theorem dX9_heldBy_26 : decode cX9_heldBy 26 = .ok (.aload_n 0, 1) := by decide +kernel
theorem dX9_heldBy_27 : decode cX9_heldBy 27 = .ok (.getfield 20, 3) := by decide +kernel
theorem dX9_heldBy_30 : decode cX9_heldBy 30 = .ok (.iload 4, 2) := by decide +kernel
theorem dX9_heldBy_32 : decode cX9_heldBy 32 = .ok (.iaload, 1) := by decide +kernel
theorem dX9_heldBy_33 : decode cX9_heldBy 33 = .ok (.iconst 2, 1) := by decide +kernel
theorem dX9_heldBy_34 : decode cX9_heldBy 34 = .ok (.if_icmp .ne 24, 3) := by decide +kernel
theorem dX9_heldBy_37 : decode cX9_heldBy 37 = .ok (.aload_n 0, 1) := by decide +kernel
theorem dX9_heldBy_38 : decode cX9_heldBy 38 = .ok (.getfield 23, 3) := by decide +kernel
theorem dX9_heldBy_41 : decode cX9_heldBy 41 = .ok (.iload 4, 2) := by decide +kernel
theorem dX9_heldBy_43 : decode cX9_heldBy 43 = .ok (.iaload, 1) := by decide +kernel
theorem dX9_heldBy_44 : decode cX9_heldBy 44 = .ok (.iload_n 1, 1) := by decide +kernel
theorem dX9_heldBy_45 : decode cX9_heldBy 45 = .ok (.if_icmp .ne 13, 3) := by decide +kernel
theorem dX9_heldBy_48 : decode cX9_heldBy 48 = .ok (.aload_n 0, 1) := by decide +kernel
theorem dX9_heldBy_49 : decode cX9_heldBy 49 = .ok (.getfield 26, 3) := by decide +kernel
theorem dX9_heldBy_52 : decode cX9_heldBy 52 = .ok (.iload 4, 2) := by decide +kernel
theorem dX9_heldBy_54 : decode cX9_heldBy 54 = .ok (.laload, 1) := by decide +kernel
theorem dX9_heldBy_55 : decode cX9_heldBy 55 = .ok (.goto 4, 3) := by decide +kernel
theorem dX9_heldBy_58 : decode cX9_heldBy 58 = .ok (.lconst 0, 1) := by decide +kernel
theorem dX9_heldBy_59 : decode cX9_heldBy 59 = .ok (.ladd, 1) := by decide +kernel
theorem dX9_heldBy_60 : decode cX9_heldBy 60 = .ok (.lstore_n 2, 1) := by decide +kernel
theorem dX9_heldBy_61 : decode cX9_heldBy 61 = .ok (.iinc 4 1, 3) := by decide +kernel
theorem dX9_heldBy_64 : decode cX9_heldBy 64 = .ok (.goto (-59), 3) := by decide +kernel
theorem dX9_heldBy_67 : decode cX9_heldBy 67 = .ok (.lload_n 2, 1) := by decide +kernel
theorem dX9_heldBy_68 : decode cX9_heldBy 68 = .ok (.lreturn, 1) := by decide +kernel
theorem dX9_free_0 : decode cX9_free 0 = .ok (.aload_n 0, 1) := by decide +kernel
theorem dX9_free_1 : decode cX9_free 1 = .ok (.getfield 45, 3) := by decide +kernel
theorem dX9_free_4 : decode cX9_free 4 = .ok (.iload_n 1, 1) := by decide +kernel
theorem dX9_free_5 : decode cX9_free 5 = .ok (.laload, 1) := by decide +kernel
theorem dX9_free_6 : decode cX9_free 6 = .ok (.aload_n 0, 1) := by decide +kernel
theorem dX9_free_7 : decode cX9_free 7 = .ok (.iload_n 1, 1) := by decide +kernel
theorem dX9_free_8 : decode cX9_free 8 = .ok (.invokevirtual 105, 3) := by decide +kernel
theorem dX9_free_11 : decode cX9_free 11 = .ok (.lsub, 1) := by decide +kernel
theorem dX9_free_12 : decode cX9_free 12 = .ok (.lreturn, 1) := by decide +kernel
theorem dX9_up_0 : decode cX9_up 0 = .ok (.lload_n 0, 1) := by decide +kernel
theorem dX9_up_1 : decode cX9_up 1 = .ok (.lload_n 2, 1) := by decide +kernel
theorem dX9_up_2 : decode cX9_up 2 = .ok (.ladd, 1) := by decide +kernel
theorem dX9_up_3 : decode cX9_up 3 = .ok (.lconst 1, 1) := by decide +kernel
theorem dX9_up_4 : decode cX9_up 4 = .ok (.lsub, 1) := by decide +kernel
theorem dX9_up_5 : decode cX9_up 5 = .ok (.lload_n 2, 1) := by decide +kernel
theorem dX9_up_6 : decode cX9_up 6 = .ok (.ldiv, 1) := by decide +kernel
theorem dX9_up_7 : decode cX9_up 7 = .ok (.lreturn, 1) := by decide +kernel
theorem dX9_add_0 : decode cX9_add 0 = .ok (.aload_n 0, 1) := by decide +kernel
theorem dX9_add_1 : decode cX9_add 1 = .ok (.getfield 7, 3) := by decide +kernel
theorem dX9_add_4 : decode cX9_add 4 = .ok (.aload_n 0, 1) := by decide +kernel
theorem dX9_add_5 : decode cX9_add 5 = .ok (.getfield 82, 3) := by decide +kernel
theorem dX9_add_8 : decode cX9_add 8 = .ok (.iload_n 1, 1) := by decide +kernel
theorem dX9_add_9 : decode cX9_add 9 = .ok (.iastore, 1) := by decide +kernel
theorem dX9_add_10 : decode cX9_add 10 = .ok (.aload_n 0, 1) := by decide +kernel
theorem dX9_add_11 : decode cX9_add 11 = .ok (.getfield 13, 3) := by decide +kernel
theorem dX9_add_14 : decode cX9_add 14 = .ok (.aload_n 0, 1) := by decide +kernel
theorem dX9_add_15 : decode cX9_add 15 = .ok (.getfield 82, 3) := by decide +kernel
theorem dX9_add_18 : decode cX9_add 18 = .ok (.lload_n 2, 1) := by decide +kernel
theorem dX9_add_19 : decode cX9_add 19 = .ok (.lastore, 1) := by decide +kernel
theorem dX9_add_20 : decode cX9_add 20 = .ok (.aload_n 0, 1) := by decide +kernel
theorem dX9_add_21 : decode cX9_add 21 = .ok (.getfield 17, 3) := by decide +kernel
theorem dX9_add_24 : decode cX9_add 24 = .ok (.aload_n 0, 1) := by decide +kernel
theorem dX9_add_25 : decode cX9_add 25 = .ok (.getfield 82, 3) := by decide +kernel
theorem dX9_add_28 : decode cX9_add 28 = .ok (.lload 4, 2) := by decide +kernel
theorem dX9_add_30 : decode cX9_add 30 = .ok (.lastore, 1) := by decide +kernel
theorem dX9_add_31 : decode cX9_add 31 = .ok (.aload_n 0, 1) := by decide +kernel
theorem dX9_add_32 : decode cX9_add 32 = .ok (.getfield 20, 3) := by decide +kernel
theorem dX9_add_35 : decode cX9_add 35 = .ok (.aload_n 0, 1) := by decide +kernel
theorem dX9_add_36 : decode cX9_add 36 = .ok (.getfield 82, 3) := by decide +kernel
theorem dX9_add_39 : decode cX9_add 39 = .ok (.iconst 0, 1) := by decide +kernel
theorem dX9_add_40 : decode cX9_add 40 = .ok (.iastore, 1) := by decide +kernel
theorem dX9_add_41 : decode cX9_add 41 = .ok (.aload_n 0, 1) := by decide +kernel
theorem dX9_add_42 : decode cX9_add 42 = .ok (.dup, 1) := by decide +kernel
theorem dX9_add_43 : decode cX9_add 43 = .ok (.getfield 82, 3) := by decide +kernel
theorem dX9_add_46 : decode cX9_add 46 = .ok (.iconst 1, 1) := by decide +kernel
theorem dX9_add_47 : decode cX9_add 47 = .ok (.iadd, 1) := by decide +kernel
theorem dX9_add_48 : decode cX9_add 48 = .ok (.putfield 82, 3) := by decide +kernel
theorem dX9_add_51 : decode cX9_add 51 = .ok (.aload_n 0, 1) := by decide +kernel
theorem dX9_add_52 : decode cX9_add 52 = .ok (.getfield 82, 3) := by decide +kernel
theorem dX9_add_55 : decode cX9_add 55 = .ok (.iconst 1, 1) := by decide +kernel
theorem dX9_add_56 : decode cX9_add 56 = .ok (.isub, 1) := by decide +kernel
theorem dX9_add_57 : decode cX9_add 57 = .ok (.ireturn, 1) := by decide +kernel
theorem dX9_lot_0 : decode cX9_lot 0 = .ok (.aload_n 0, 1) := by decide +kernel
theorem dX9_lot_1 : decode cX9_lot 1 = .ok (.getfield 82, 3) := by decide +kernel
theorem dX9_lot_4 : decode cX9_lot 4 = .ok (.bipush 60, 2) := by decide +kernel
theorem dX9_lot_6 : decode cX9_lot 6 = .ok (.if_icmp .eq 43, 3) := by decide +kernel
theorem dX9_lot_9 : decode cX9_lot 9 = .ok (.iload_n 1, 1) := by decide +kernel
theorem dX9_lot_10 : decode cX9_lot 10 = .ok (.ifCond .lt 39, 3) := by decide +kernel
theorem dX9_lot_13 : decode cX9_lot 13 = .ok (.iload_n 1, 1) := by decide +kernel
theorem dX9_lot_14 : decode cX9_lot 14 = .ok (.bipush 9, 2) := by decide +kernel
theorem dX9_lot_16 : decode cX9_lot 16 = .ok (.if_icmp .gt 33, 3) := by decide +kernel
theorem dX9_lot_19 : decode cX9_lot 19 = .ok (.lload_n 2, 1) := by decide +kernel
theorem dX9_lot_20 : decode cX9_lot 20 = .ok (.lconst 1, 1) := by decide +kernel
theorem dX9_lot_21 : decode cX9_lot 21 = .ok (.lcmp, 1) := by decide +kernel
theorem dX9_lot_22 : decode cX9_lot 22 = .ok (.ifCond .lt 27, 3) := by decide +kernel
theorem dX9_lot_25 : decode cX9_lot 25 = .ok (.lload_n 2, 1) := by decide +kernel
theorem dX9_lot_26 : decode cX9_lot 26 = .ok (.ldc2_w 109, 3) := by decide +kernel
theorem dX9_lot_29 : decode cX9_lot 29 = .ok (.lcmp, 1) := by decide +kernel
theorem dX9_lot_30 : decode cX9_lot 30 = .ok (.ifCond .gt 19, 3) := by decide +kernel
theorem dX9_lot_33 : decode cX9_lot 33 = .ok (.lload 4, 2) := by decide +kernel
theorem dX9_lot_35 : decode cX9_lot 35 = .ok (.lconst 0, 1) := by decide +kernel
theorem dX9_lot_36 : decode cX9_lot 36 = .ok (.lcmp, 1) := by decide +kernel
theorem dX9_lot_37 : decode cX9_lot 37 = .ok (.ifCond .lt 12, 3) := by decide +kernel
theorem dX9_lot_40 : decode cX9_lot 40 = .ok (.lload 4, 2) := by decide +kernel
theorem dX9_lot_42 : decode cX9_lot 42 = .ok (.ldc2_w 109, 3) := by decide +kernel
theorem dX9_lot_45 : decode cX9_lot 45 = .ok (.lcmp, 1) := by decide +kernel
theorem dX9_lot_46 : decode cX9_lot 46 = .ok (.ifCond .le 7, 3) := by decide +kernel
theorem dX9_lot_49 : decode cX9_lot 49 = .ok (.iconst (-1), 1) := by decide +kernel
theorem dX9_lot_50 : decode cX9_lot 50 = .ok (.goto 11, 3) := by decide +kernel
theorem dX9_lot_53 : decode cX9_lot 53 = .ok (.aload_n 0, 1) := by decide +kernel
theorem dX9_lot_54 : decode cX9_lot 54 = .ok (.iload_n 1, 1) := by decide +kernel
theorem dX9_lot_55 : decode cX9_lot 55 = .ok (.lload_n 2, 1) := by decide +kernel
theorem dX9_lot_56 : decode cX9_lot 56 = .ok (.lload 4, 2) := by decide +kernel
theorem dX9_lot_58 : decode cX9_lot 58 = .ok (.invokevirtual 111, 3) := by decide +kernel
theorem dX9_lot_61 : decode cX9_lot 61 = .ok (.ireturn, 1) := by decide +kernel
theorem dX9_buyer_0 : decode cX9_buyer 0 = .ok (.aload_n 0, 1) := by decide +kernel
theorem dX9_buyer_1 : decode cX9_buyer 1 = .ok (.getfield 85, 3) := by decide +kernel
theorem dX9_buyer_4 : decode cX9_buyer 4 = .ok (.bipush 30, 2) := by decide +kernel
theorem dX9_buyer_6 : decode cX9_buyer 6 = .ok (.if_icmp .eq 17, 3) := by decide +kernel
theorem dX9_buyer_9 : decode cX9_buyer 9 = .ok (.lload_n 1, 1) := by decide +kernel
theorem dX9_buyer_10 : decode cX9_buyer 10 = .ok (.lconst 0, 1) := by decide +kernel
theorem dX9_buyer_11 : decode cX9_buyer 11 = .ok (.lcmp, 1) := by decide +kernel
theorem dX9_buyer_12 : decode cX9_buyer 12 = .ok (.ifCond .lt 11, 3) := by decide +kernel
theorem dX9_buyer_15 : decode cX9_buyer 15 = .ok (.lload_n 1, 1) := by decide +kernel
theorem dX9_buyer_16 : decode cX9_buyer 16 = .ok (.ldc2_w 115, 3) := by decide +kernel
theorem dX9_buyer_19 : decode cX9_buyer 19 = .ok (.lcmp, 1) := by decide +kernel
theorem dX9_buyer_20 : decode cX9_buyer 20 = .ok (.ifCond .le 5, 3) := by decide +kernel
theorem dX9_buyer_23 : decode cX9_buyer 23 = .ok (.iconst (-1), 1) := by decide +kernel
theorem dX9_buyer_24 : decode cX9_buyer 24 = .ok (.ireturn, 1) := by decide +kernel
theorem dX9_buyer_25 : decode cX9_buyer 25 = .ok (.aload_n 0, 1) := by decide +kernel
theorem dX9_buyer_26 : decode cX9_buyer 26 = .ok (.getfield 45, 3) := by decide +kernel
theorem dX9_buyer_29 : decode cX9_buyer 29 = .ok (.aload_n 0, 1) := by decide +kernel
theorem dX9_buyer_30 : decode cX9_buyer 30 = .ok (.getfield 85, 3) := by decide +kernel
theorem dX9_buyer_33 : decode cX9_buyer 33 = .ok (.lload_n 1, 1) := by decide +kernel
theorem dX9_buyer_34 : decode cX9_buyer 34 = .ok (.lastore, 1) := by decide +kernel
theorem dX9_buyer_35 : decode cX9_buyer 35 = .ok (.aload_n 0, 1) := by decide +kernel
theorem dX9_buyer_36 : decode cX9_buyer 36 = .ok (.getfield 51, 3) := by decide +kernel
theorem dX9_buyer_39 : decode cX9_buyer 39 = .ok (.aload_n 0, 1) := by decide +kernel
theorem dX9_buyer_40 : decode cX9_buyer 40 = .ok (.getfield 85, 3) := by decide +kernel
theorem dX9_buyer_43 : decode cX9_buyer 43 = .ok (.ldc2_w 117, 3) := by decide +kernel
theorem dX9_buyer_46 : decode cX9_buyer 46 = .ok (.lastore, 1) := by decide +kernel
theorem dX9_buyer_47 : decode cX9_buyer 47 = .ok (.aload_n 0, 1) := by decide +kernel
theorem dX9_buyer_48 : decode cX9_buyer 48 = .ok (.dup, 1) := by decide +kernel
theorem dX9_buyer_49 : decode cX9_buyer 49 = .ok (.getfield 85, 3) := by decide +kernel
theorem dX9_buyer_52 : decode cX9_buyer 52 = .ok (.iconst 1, 1) := by decide +kernel
theorem dX9_buyer_53 : decode cX9_buyer 53 = .ok (.iadd, 1) := by decide +kernel
theorem dX9_buyer_54 : decode cX9_buyer 54 = .ok (.putfield 85, 3) := by decide +kernel
theorem dX9_buyer_57 : decode cX9_buyer 57 = .ok (.aload_n 0, 1) := by decide +kernel
theorem dX9_buyer_58 : decode cX9_buyer 58 = .ok (.getfield 85, 3) := by decide +kernel
theorem dX9_buyer_61 : decode cX9_buyer 61 = .ok (.iconst 1, 1) := by decide +kernel
theorem dX9_buyer_62 : decode cX9_buyer 62 = .ok (.isub, 1) := by decide +kernel
theorem dX9_buyer_63 : decode cX9_buyer 63 = .ok (.ireturn, 1) := by decide +kernel
theorem dX9_start_0 : decode cX9_start 0 = .ok (.aload_n 0, 1) := by decide +kernel
theorem dX9_start_1 : decode cX9_start 1 = .ok (.iload_n 1, 1) := by decide +kernel
theorem dX9_start_2 : decode cX9_start 2 = .ok (.invokevirtual 119, 3) := by decide +kernel
theorem dX9_start_5 : decode cX9_start 5 = .ok (.ifCond .eq 55, 3) := by decide +kernel
theorem dX9_start_8 : decode cX9_start 8 = .ok (.aload_n 0, 1) := by decide +kernel
theorem dX9_start_9 : decode cX9_start 9 = .ok (.getfield 20, 3) := by decide +kernel
theorem dX9_start_12 : decode cX9_start 12 = .ok (.iload_n 1, 1) := by decide +kernel
theorem dX9_start_13 : decode cX9_start 13 = .ok (.iaload, 1) := by decide +kernel
theorem dX9_start_14 : decode cX9_start 14 = .ok (.ifCond .ne 46, 3) := by decide +kernel
theorem dX9_start_17 : decode cX9_start 17 = .ok (.aload_n 0, 1) := by decide +kernel
theorem dX9_start_18 : decode cX9_start 18 = .ok (.getfield 54, 3) := by decide +kernel
theorem dX9_start_21 : decode cX9_start 21 = .ok (.iconst (-1), 1) := by decide +kernel
theorem dX9_start_22 : decode cX9_start 22 = .ok (.if_icmp .ne 38, 3) := by decide +kernel
theorem dX9_start_25 : decode cX9_start 25 = .ok (.lload_n 2, 1) := by decide +kernel
theorem dX9_start_26 : decode cX9_start 26 = .ok (.aload_n 0, 1) := by decide +kernel
theorem dX9_start_27 : decode cX9_start 27 = .ok (.getfield 17, 3) := by decide +kernel
theorem dX9_start_30 : decode cX9_start 30 = .ok (.iload_n 1, 1) := by decide +kernel
theorem dX9_start_31 : decode cX9_start 31 = .ok (.laload, 1) := by decide +kernel
theorem dX9_start_32 : decode cX9_start 32 = .ok (.lcmp, 1) := by decide +kernel
theorem dX9_start_33 : decode cX9_start 33 = .ok (.ifCond .lt 27, 3) := by decide +kernel
theorem dX9_start_36 : decode cX9_start 36 = .ok (.lload_n 2, 1) := by decide +kernel
theorem dX9_start_37 : decode cX9_start 37 = .ok (.ldc2_w 109, 3) := by decide +kernel
theorem dX9_start_40 : decode cX9_start 40 = .ok (.lcmp, 1) := by decide +kernel
theorem dX9_start_41 : decode cX9_start 41 = .ok (.ifCond .gt 19, 3) := by decide +kernel
theorem dX9_start_44 : decode cX9_start 44 = .ok (.lload 4, 2) := by decide +kernel
theorem dX9_start_46 : decode cX9_start 46 = .ok (.lconst 1, 1) := by decide +kernel
theorem dX9_start_47 : decode cX9_start 47 = .ok (.lcmp, 1) := by decide +kernel
theorem dX9_start_48 : decode cX9_start 48 = .ok (.ifCond .lt 12, 3) := by decide +kernel
theorem dX9_start_51 : decode cX9_start 51 = .ok (.lload 4, 2) := by decide +kernel
theorem dX9_start_53 : decode cX9_start 53 = .ok (.ldc2_w 123, 3) := by decide +kernel
theorem dX9_start_56 : decode cX9_start 56 = .ok (.lcmp, 1) := by decide +kernel
theorem dX9_start_57 : decode cX9_start 57 = .ok (.ifCond .le 5, 3) := by decide +kernel
theorem dX9_start_60 : decode cX9_start 60 = .ok (.iconst (-1), 1) := by decide +kernel
theorem dX9_start_61 : decode cX9_start 61 = .ok (.ireturn, 1) := by decide +kernel
theorem dX9_start_62 : decode cX9_start 62 = .ok (.ldc2_w 125, 3) := by decide +kernel
theorem dX9_start_65 : decode cX9_start 65 = .ok (.lload_n 2, 1) := by decide +kernel
theorem dX9_start_66 : decode cX9_start 66 = .ok (.aload_n 0, 1) := by decide +kernel
theorem dX9_start_67 : decode cX9_start 67 = .ok (.getfield 17, 3) := by decide +kernel
theorem dX9_start_70 : decode cX9_start 70 = .ok (.iload_n 1, 1) := by decide +kernel
theorem dX9_start_71 : decode cX9_start 71 = .ok (.laload, 1) := by decide +kernel
theorem dX9_start_72 : decode cX9_start 72 = .ok (.lsub, 1) := by decide +kernel
theorem dX9_start_73 : decode cX9_start 73 = .ok (.lload 4, 2) := by decide +kernel
theorem dX9_start_75 : decode cX9_start 75 = .ok (.ldiv, 1) := by decide +kernel
theorem dX9_start_76 : decode cX9_start 76 = .ok (.lconst 1, 1) := by decide +kernel
theorem dX9_start_77 : decode cX9_start 77 = .ok (.ladd, 1) := by decide +kernel
theorem dX9_start_78 : decode cX9_start 78 = .ok (.lmul, 1) := by decide +kernel
theorem dX9_start_79 : decode cX9_start 79 = .ok (.lstore 6, 2) := by decide +kernel
theorem dX9_start_81 : decode cX9_start 81 = .ok (.lload 6, 2) := by decide +kernel
theorem dX9_start_83 : decode cX9_start 83 = .ok (.ldc2_w 127, 3) := by decide +kernel
theorem dX9_start_86 : decode cX9_start 86 = .ok (.lcmp, 1) := by decide +kernel
theorem dX9_start_87 : decode cX9_start 87 = .ok (.ifCond .le 5, 3) := by decide +kernel
theorem dX9_start_90 : decode cX9_start 90 = .ok (.iconst (-1), 1) := by decide +kernel
theorem dX9_start_91 : decode cX9_start 91 = .ok (.ireturn, 1) := by decide +kernel
theorem dX9_start_92 : decode cX9_start 92 = .ok (.aload_n 0, 1) := by decide +kernel
theorem dX9_start_93 : decode cX9_start 93 = .ok (.iload_n 1, 1) := by decide +kernel
theorem dX9_start_94 : decode cX9_start 94 = .ok (.putfield 54, 3) := by decide +kernel
theorem dX9_start_97 : decode cX9_start 97 = .ok (.aload_n 0, 1) := by decide +kernel
theorem dX9_start_98 : decode cX9_start 98 = .ok (.getfield 20, 3) := by decide +kernel
theorem dX9_start_101 : decode cX9_start 101 = .ok (.iload_n 1, 1) := by decide +kernel
theorem dX9_start_102 : decode cX9_start 102 = .ok (.iconst 1, 1) := by decide +kernel
theorem dX9_start_103 : decode cX9_start 103 = .ok (.iastore, 1) := by decide +kernel
theorem dX9_start_104 : decode cX9_start 104 = .ok (.aload_n 0, 1) := by decide +kernel
theorem dX9_start_105 : decode cX9_start 105 = .ok (.lconst 0, 1) := by decide +kernel
theorem dX9_start_106 : decode cX9_start 106 = .ok (.putfield 129, 3) := by decide +kernel
theorem dX9_start_109 : decode cX9_start 109 = .ok (.aload_n 0, 1) := by decide +kernel
theorem dX9_start_110 : decode cX9_start 110 = .ok (.lload 6, 2) := by decide +kernel
theorem dX9_start_112 : decode cX9_start 112 = .ok (.putfield 133, 3) := by decide +kernel
theorem dX9_start_115 : decode cX9_start 115 = .ok (.aload_n 0, 1) := by decide +kernel
theorem dX9_start_116 : decode cX9_start 116 = .ok (.lload_n 2, 1) := by decide +kernel
theorem dX9_start_117 : decode cX9_start 117 = .ok (.putfield 136, 3) := by decide +kernel
theorem dX9_start_120 : decode cX9_start 120 = .ok (.aload_n 0, 1) := by decide +kernel
theorem dX9_start_121 : decode cX9_start 121 = .ok (.lload 4, 2) := by decide +kernel
theorem dX9_start_123 : decode cX9_start 123 = .ok (.putfield 139, 3) := by decide +kernel
theorem dX9_start_126 : decode cX9_start 126 = .ok (.aload_n 0, 1) := by decide +kernel
theorem dX9_start_127 : decode cX9_start 127 = .ok (.iconst 0, 1) := by decide +kernel
theorem dX9_start_128 : decode cX9_start 128 = .ok (.putfield 142, 3) := by decide +kernel
theorem dX9_start_131 : decode cX9_start 131 = .ok (.iconst 0, 1) := by decide +kernel
theorem dX9_start_132 : decode cX9_start 132 = .ok (.istore 8, 2) := by decide +kernel
theorem dX9_start_134 : decode cX9_start 134 = .ok (.iload 8, 2) := by decide +kernel
theorem dX9_start_136 : decode cX9_start 136 = .ok (.bipush 30, 2) := by decide +kernel
theorem dX9_start_138 : decode cX9_start 138 = .ok (.if_icmp .ge 19, 3) := by decide +kernel
theorem dX9_start_141 : decode cX9_start 141 = .ok (.aload_n 0, 1) := by decide +kernel
theorem dX9_start_142 : decode cX9_start 142 = .ok (.getfield 51, 3) := by decide +kernel
theorem dX9_start_145 : decode cX9_start 145 = .ok (.iload 8, 2) := by decide +kernel
theorem dX9_start_147 : decode cX9_start 147 = .ok (.ldc2_w 117, 3) := by decide +kernel
theorem dX9_start_150 : decode cX9_start 150 = .ok (.lastore, 1) := by decide +kernel
theorem dX9_start_151 : decode cX9_start 151 = .ok (.iinc 8 1, 3) := by decide +kernel
theorem dX9_start_154 : decode cX9_start 154 = .ok (.goto (-20), 3) := by decide +kernel
theorem dX9_start_157 : decode cX9_start 157 = .ok (.lload 6, 2) := by decide +kernel
theorem dX9_start_159 : decode cX9_start 159 = .ok (.l2i, 1) := by decide +kernel
theorem dX9_start_160 : decode cX9_start 160 = .ok (.ireturn, 1) := by decide +kernel
theorem dX9_priceAt_0 : decode cX9_priceAt 0 = .ok (.aload_n 0, 1) := by decide +kernel
theorem dX9_priceAt_1 : decode cX9_priceAt 1 = .ok (.getfield 136, 3) := by decide +kernel
theorem dX9_priceAt_4 : decode cX9_priceAt 4 = .ok (.aload_n 0, 1) := by decide +kernel
theorem dX9_priceAt_5 : decode cX9_priceAt 5 = .ok (.getfield 139, 3) := by decide +kernel
theorem dX9_priceAt_8 : decode cX9_priceAt 8 = .ok (.lload_n 1, 1) := by decide +kernel
theorem dX9_priceAt_9 : decode cX9_priceAt 9 = .ok (.ldc2_w 125, 3) := by decide +kernel
theorem dX9_priceAt_12 : decode cX9_priceAt 12 = .ok (.ldiv, 1) := by decide +kernel
theorem dX9_priceAt_13 : decode cX9_priceAt 13 = .ok (.lmul, 1) := by decide +kernel
theorem dX9_priceAt_14 : decode cX9_priceAt 14 = .ok (.lsub, 1) := by decide +kernel
theorem dX9_priceAt_15 : decode cX9_priceAt 15 = .ok (.lreturn, 1) := by decide +kernel
theorem dX9_clock_0 : decode cX9_clock 0 = .ok (.aload_n 0, 1) := by decide +kernel
theorem dX9_clock_1 : decode cX9_clock 1 = .ok (.getfield 54, 3) := by decide +kernel
theorem dX9_clock_4 : decode cX9_clock 4 = .ok (.iconst (-1), 1) := by decide +kernel
theorem dX9_clock_5 : decode cX9_clock 5 = .ok (.if_icmp .ne 9, 3) := by decide +kernel
theorem dX9_clock_8 : decode cX9_clock 8 = .ok (.ldc2_w 117, 3) := by decide +kernel
theorem dX9_clock_11 : decode cX9_clock 11 = .ok (.goto 11, 3) := by decide +kernel
theorem dX9_clock_14 : decode cX9_clock 14 = .ok (.aload_n 0, 1) := by decide +kernel
theorem dX9_clock_15 : decode cX9_clock 15 = .ok (.aload_n 0, 1) := by decide +kernel
theorem dX9_clock_16 : decode cX9_clock 16 = .ok (.getfield 129, 3) := by decide +kernel
theorem dX9_clock_19 : decode cX9_clock 19 = .ok (.invokevirtual 146, 3) := by decide +kernel
theorem dX9_clock_22 : decode cX9_clock 22 = .ok (.lreturn, 1) := by decide +kernel
theorem dX9_press_0 : decode cX9_press 0 = .ok (.aload_n 0, 1) := by decide +kernel
theorem dX9_press_1 : decode cX9_press 1 = .ok (.iload_n 1, 1) := by decide +kernel
theorem dX9_press_2 : decode cX9_press 2 = .ok (.invokevirtual 150, 3) := by decide +kernel
theorem dX9_press_5 : decode cX9_press 5 = .ok (.ifCond .eq 32, 3) := by decide +kernel
theorem dX9_press_8 : decode cX9_press 8 = .ok (.aload_n 0, 1) := by decide +kernel
theorem dX9_press_9 : decode cX9_press 9 = .ok (.getfield 54, 3) := by decide +kernel
theorem dX9_press_12 : decode cX9_press 12 = .ok (.iconst (-1), 1) := by decide +kernel
theorem dX9_press_13 : decode cX9_press 13 = .ok (.if_icmp .eq 24, 3) := by decide +kernel
theorem dX9_press_16 : decode cX9_press 16 = .ok (.aload_n 0, 1) := by decide +kernel
theorem dX9_press_17 : decode cX9_press 17 = .ok (.getfield 142, 3) := by decide +kernel
theorem dX9_press_20 : decode cX9_press 20 = .ok (.ifCond .ne 17, 3) := by decide +kernel
theorem dX9_press_23 : decode cX9_press 23 = .ok (.lload_n 2, 1) := by decide +kernel
theorem dX9_press_24 : decode cX9_press 24 = .ok (.lconst 0, 1) := by decide +kernel
theorem dX9_press_25 : decode cX9_press 25 = .ok (.lcmp, 1) := by decide +kernel
theorem dX9_press_26 : decode cX9_press 26 = .ok (.ifCond .lt 11, 3) := by decide +kernel
theorem dX9_press_29 : decode cX9_press 29 = .ok (.lload_n 2, 1) := by decide +kernel
theorem dX9_press_30 : decode cX9_press 30 = .ok (.ldc2_w 153, 3) := by decide +kernel
theorem dX9_press_33 : decode cX9_press 33 = .ok (.lcmp, 1) := by decide +kernel
theorem dX9_press_34 : decode cX9_press 34 = .ok (.ifCond .le 5, 3) := by decide +kernel
theorem dX9_press_37 : decode cX9_press 37 = .ok (.iconst 0, 1) := by decide +kernel
theorem dX9_press_38 : decode cX9_press 38 = .ok (.ireturn, 1) := by decide +kernel
theorem dX9_press_39 : decode cX9_press 39 = .ok (.lload_n 2, 1) := by decide +kernel
theorem dX9_press_40 : decode cX9_press 40 = .ok (.aload_n 0, 1) := by decide +kernel
theorem dX9_press_41 : decode cX9_press 41 = .ok (.getfield 48, 3) := by decide +kernel
theorem dX9_press_44 : decode cX9_press 44 = .ok (.iload_n 1, 1) := by decide +kernel
theorem dX9_press_45 : decode cX9_press 45 = .ok (.laload, 1) := by decide +kernel
theorem dX9_press_46 : decode cX9_press 46 = .ok (.lcmp, 1) := by decide +kernel
theorem dX9_press_47 : decode cX9_press 47 = .ok (.ifCond .le 14, 3) := by decide +kernel
theorem dX9_press_50 : decode cX9_press 50 = .ok (.lload_n 2, 1) := by decide +kernel
theorem dX9_press_51 : decode cX9_press 51 = .ok (.aload_n 0, 1) := by decide +kernel
theorem dX9_press_52 : decode cX9_press 52 = .ok (.getfield 48, 3) := by decide +kernel
theorem dX9_press_55 : decode cX9_press 55 = .ok (.iload_n 1, 1) := by decide +kernel
theorem dX9_press_56 : decode cX9_press 56 = .ok (.laload, 1) := by decide +kernel
theorem dX9_press_57 : decode cX9_press 57 = .ok (.lsub, 1) := by decide +kernel
theorem dX9_press_58 : decode cX9_press 58 = .ok (.goto 4, 3) := by decide +kernel
theorem dX9_press_61 : decode cX9_press 61 = .ok (.lconst 0, 1) := by decide +kernel
theorem dX9_press_62 : decode cX9_press 62 = .ok (.lstore 4, 2) := by decide +kernel
theorem dX9_press_64 : decode cX9_press 64 = .ok (.lload 4, 2) := by decide +kernel
theorem dX9_press_66 : decode cX9_press 66 = .ok (.aload_n 0, 1) := by decide +kernel
theorem dX9_press_67 : decode cX9_press 67 = .ok (.getfield 133, 3) := by decide +kernel
theorem dX9_press_70 : decode cX9_press 70 = .ok (.lcmp, 1) := by decide +kernel
theorem dX9_press_71 : decode cX9_press 71 = .ok (.ifCond .ge 28, 3) := by decide +kernel
theorem dX9_press_74 : decode cX9_press 74 = .ok (.aload_n 0, 1) := by decide +kernel
theorem dX9_press_75 : decode cX9_press 75 = .ok (.getfield 51, 3) := by decide +kernel
theorem dX9_press_78 : decode cX9_press 78 = .ok (.iload_n 1, 1) := by decide +kernel
theorem dX9_press_79 : decode cX9_press 79 = .ok (.laload, 1) := by decide +kernel
theorem dX9_press_80 : decode cX9_press 80 = .ok (.ldc2_w 117, 3) := by decide +kernel
theorem dX9_press_83 : decode cX9_press 83 = .ok (.lcmp, 1) := by decide +kernel
theorem dX9_press_84 : decode cX9_press 84 = .ok (.ifCond .eq 17, 3) := by decide +kernel
theorem dX9_press_87 : decode cX9_press 87 = .ok (.aload_n 0, 1) := by decide +kernel
theorem dX9_press_88 : decode cX9_press 88 = .ok (.getfield 51, 3) := by decide +kernel
theorem dX9_press_91 : decode cX9_press 91 = .ok (.iload_n 1, 1) := by decide +kernel
theorem dX9_press_92 : decode cX9_press 92 = .ok (.laload, 1) := by decide +kernel
theorem dX9_press_93 : decode cX9_press 93 = .ok (.lload 4, 2) := by decide +kernel
theorem dX9_press_95 : decode cX9_press 95 = .ok (.lcmp, 1) := by decide +kernel
theorem dX9_press_96 : decode cX9_press 96 = .ok (.ifCond .gt 5, 3) := by decide +kernel
theorem dX9_press_99 : decode cX9_press 99 = .ok (.iconst 0, 1) := by decide +kernel
theorem dX9_press_100 : decode cX9_press 100 = .ok (.ireturn, 1) := by decide +kernel
theorem dX9_press_101 : decode cX9_press 101 = .ok (.aload_n 0, 1) := by decide +kernel
theorem dX9_press_102 : decode cX9_press 102 = .ok (.getfield 51, 3) := by decide +kernel
theorem dX9_press_105 : decode cX9_press 105 = .ok (.iload_n 1, 1) := by decide +kernel
theorem dX9_press_106 : decode cX9_press 106 = .ok (.lload 4, 2) := by decide +kernel
theorem dX9_press_108 : decode cX9_press 108 = .ok (.lastore, 1) := by decide +kernel
theorem dX9_press_109 : decode cX9_press 109 = .ok (.iconst 1, 1) := by decide +kernel
theorem dX9_press_110 : decode cX9_press 110 = .ok (.ireturn, 1) := by decide +kernel
theorem dX9_delay_0 : decode cX9_delay 0 = .ok (.aload_n 0, 1) := by decide +kernel
theorem dX9_delay_1 : decode cX9_delay 1 = .ok (.iload_n 1, 1) := by decide +kernel
theorem dX9_delay_2 : decode cX9_delay 2 = .ok (.invokevirtual 150, 3) := by decide +kernel
theorem dX9_delay_5 : decode cX9_delay 5 = .ok (.ifCond .eq 17, 3) := by decide +kernel
theorem dX9_delay_8 : decode cX9_delay 8 = .ok (.lload_n 2, 1) := by decide +kernel
theorem dX9_delay_9 : decode cX9_delay 9 = .ok (.lconst 0, 1) := by decide +kernel
theorem dX9_delay_10 : decode cX9_delay 10 = .ok (.lcmp, 1) := by decide +kernel
theorem dX9_delay_11 : decode cX9_delay 11 = .ok (.ifCond .lt 11, 3) := by decide +kernel
theorem dX9_delay_14 : decode cX9_delay 14 = .ok (.lload_n 2, 1) := by decide +kernel
theorem dX9_delay_15 : decode cX9_delay 15 = .ok (.ldc2_w 155, 3) := by decide +kernel
theorem dX9_delay_18 : decode cX9_delay 18 = .ok (.lcmp, 1) := by decide +kernel
theorem dX9_delay_19 : decode cX9_delay 19 = .ok (.ifCond .le 5, 3) := by decide +kernel
theorem dX9_delay_22 : decode cX9_delay 22 = .ok (.iconst 0, 1) := by decide +kernel
theorem dX9_delay_23 : decode cX9_delay 23 = .ok (.ireturn, 1) := by decide +kernel
theorem dX9_delay_24 : decode cX9_delay 24 = .ok (.aload_n 0, 1) := by decide +kernel
theorem dX9_delay_25 : decode cX9_delay 25 = .ok (.getfield 48, 3) := by decide +kernel
theorem dX9_delay_28 : decode cX9_delay 28 = .ok (.iload_n 1, 1) := by decide +kernel
theorem dX9_delay_29 : decode cX9_delay 29 = .ok (.lload_n 2, 1) := by decide +kernel
theorem dX9_delay_30 : decode cX9_delay 30 = .ok (.lastore, 1) := by decide +kernel
theorem dX9_delay_31 : decode cX9_delay 31 = .ok (.iconst 1, 1) := by decide +kernel
theorem dX9_delay_32 : decode cX9_delay 32 = .ok (.ireturn, 1) := by decide +kernel
theorem dX9_outage_0 : decode cX9_outage 0 = .ok (.aload_n 0, 1) := by decide +kernel
theorem dX9_outage_1 : decode cX9_outage 1 = .ok (.getfield 54, 3) := by decide +kernel
theorem dX9_outage_4 : decode cX9_outage 4 = .ok (.iconst (-1), 1) := by decide +kernel
theorem dX9_outage_5 : decode cX9_outage 5 = .ok (.if_icmp .eq 34, 3) := by decide +kernel
theorem dX9_outage_8 : decode cX9_outage 8 = .ok (.aload_n 0, 1) := by decide +kernel
theorem dX9_outage_9 : decode cX9_outage 9 = .ok (.getfield 142, 3) := by decide +kernel
theorem dX9_outage_12 : decode cX9_outage 12 = .ok (.iload_n 3, 1) := by decide +kernel
theorem dX9_outage_13 : decode cX9_outage 13 = .ok (.if_icmp .eq 26, 3) := by decide +kernel
theorem dX9_outage_16 : decode cX9_outage 16 = .ok (.lload_n 1, 1) := by decide +kernel
theorem dX9_outage_17 : decode cX9_outage 17 = .ok (.lconst 0, 1) := by decide +kernel
theorem dX9_outage_18 : decode cX9_outage 18 = .ok (.lcmp, 1) := by decide +kernel
theorem dX9_outage_19 : decode cX9_outage 19 = .ok (.ifCond .lt 20, 3) := by decide +kernel
theorem dX9_outage_22 : decode cX9_outage 22 = .ok (.lload_n 1, 1) := by decide +kernel
theorem dX9_outage_23 : decode cX9_outage 23 = .ok (.iload_n 3, 1) := by decide +kernel
theorem dX9_outage_24 : decode cX9_outage 24 = .ok (.ifCond .eq 10, 3) := by decide +kernel
theorem dX9_outage_27 : decode cX9_outage 27 = .ok (.aload_n 0, 1) := by decide +kernel
theorem dX9_outage_28 : decode cX9_outage 28 = .ok (.getfield 129, 3) := by decide +kernel
theorem dX9_outage_31 : decode cX9_outage 31 = .ok (.goto 4, 3) := by decide +kernel
theorem dX9_outage_34 : decode cX9_outage 34 = .ok (.lconst 0, 1) := by decide +kernel
theorem dX9_outage_35 : decode cX9_outage 35 = .ok (.lcmp, 1) := by decide +kernel
theorem dX9_outage_36 : decode cX9_outage 36 = .ok (.ifCond .le 5, 3) := by decide +kernel
theorem dX9_outage_39 : decode cX9_outage 39 = .ok (.iconst 0, 1) := by decide +kernel
theorem dX9_outage_40 : decode cX9_outage 40 = .ok (.ireturn, 1) := by decide +kernel
theorem dX9_outage_41 : decode cX9_outage 41 = .ok (.aload_n 0, 1) := by decide +kernel
theorem dX9_outage_42 : decode cX9_outage 42 = .ok (.iload_n 3, 1) := by decide +kernel
theorem dX9_outage_43 : decode cX9_outage 43 = .ok (.putfield 142, 3) := by decide +kernel
theorem dX9_outage_46 : decode cX9_outage 46 = .ok (.iload_n 3, 1) := by decide +kernel
theorem dX9_outage_47 : decode cX9_outage 47 = .ok (.ifCond .eq 74, 3) := by decide +kernel
theorem dX9_outage_50 : decode cX9_outage 50 = .ok (.aload_n 0, 1) := by decide +kernel
theorem dX9_outage_51 : decode cX9_outage 51 = .ok (.aload_n 0, 1) := by decide +kernel
theorem dX9_outage_52 : decode cX9_outage 52 = .ok (.getfield 129, 3) := by decide +kernel
theorem dX9_outage_55 : decode cX9_outage 55 = .ok (.lload_n 1, 1) := by decide +kernel
theorem dX9_outage_56 : decode cX9_outage 56 = .ok (.lsub, 1) := by decide +kernel
theorem dX9_outage_57 : decode cX9_outage 57 = .ok (.ldc2_w 125, 3) := by decide +kernel
theorem dX9_outage_60 : decode cX9_outage 60 = .ok (.ldiv, 1) := by decide +kernel
theorem dX9_outage_61 : decode cX9_outage 61 = .ok (.ldc2_w 125, 3) := by decide +kernel
theorem dX9_outage_64 : decode cX9_outage 64 = .ok (.lmul, 1) := by decide +kernel
theorem dX9_outage_65 : decode cX9_outage 65 = .ok (.putfield 129, 3) := by decide +kernel
theorem dX9_outage_68 : decode cX9_outage 68 = .ok (.iconst 0, 1) := by decide +kernel
theorem dX9_outage_69 : decode cX9_outage 69 = .ok (.istore 4, 2) := by decide +kernel
theorem dX9_outage_71 : decode cX9_outage 71 = .ok (.iload 4, 2) := by decide +kernel
theorem dX9_outage_73 : decode cX9_outage 73 = .ok (.aload_n 0, 1) := by decide +kernel
theorem dX9_outage_74 : decode cX9_outage 74 = .ok (.getfield 85, 3) := by decide +kernel
theorem dX9_outage_77 : decode cX9_outage 77 = .ok (.if_icmp .ge 44, 3) := by decide +kernel
theorem dX9_outage_80 : decode cX9_outage 80 = .ok (.aload_n 0, 1) := by decide +kernel
theorem dX9_outage_81 : decode cX9_outage 81 = .ok (.getfield 51, 3) := by decide +kernel
theorem dX9_outage_84 : decode cX9_outage 84 = .ok (.iload 4, 2) := by decide +kernel
theorem dX9_outage_86 : decode cX9_outage 86 = .ok (.aload_n 0, 1) := by decide +kernel
theorem dX9_outage_87 : decode cX9_outage 87 = .ok (.getfield 51, 3) := by decide +kernel
theorem dX9_outage_90 : decode cX9_outage 90 = .ok (.iload 4, 2) := by decide +kernel
theorem dX9_outage_92 : decode cX9_outage 92 = .ok (.laload, 1) := by decide +kernel
theorem dX9_outage_93 : decode cX9_outage 93 = .ok (.aload_n 0, 1) := by decide +kernel
theorem dX9_outage_94 : decode cX9_outage 94 = .ok (.getfield 129, 3) := by decide +kernel
theorem dX9_outage_97 : decode cX9_outage 97 = .ok (.lcmp, 1) := by decide +kernel
theorem dX9_outage_98 : decode cX9_outage 98 = .ok (.ifCond .lt 9, 3) := by decide +kernel
theorem dX9_outage_101 : decode cX9_outage 101 = .ok (.ldc2_w 117, 3) := by decide +kernel
theorem dX9_outage_104 : decode cX9_outage 104 = .ok (.goto 10, 3) := by decide +kernel
theorem dX9_outage_107 : decode cX9_outage 107 = .ok (.aload_n 0, 1) := by decide +kernel
theorem dX9_outage_108 : decode cX9_outage 108 = .ok (.getfield 51, 3) := by decide +kernel
theorem dX9_outage_111 : decode cX9_outage 111 = .ok (.iload 4, 2) := by decide +kernel
theorem dX9_outage_113 : decode cX9_outage 113 = .ok (.laload, 1) := by decide +kernel
theorem dX9_outage_114 : decode cX9_outage 114 = .ok (.lastore, 1) := by decide +kernel
theorem dX9_outage_115 : decode cX9_outage 115 = .ok (.iinc 4 1, 3) := by decide +kernel
theorem dX9_outage_118 : decode cX9_outage 118 = .ok (.goto (-47), 3) := by decide +kernel
theorem dX9_outage_121 : decode cX9_outage 121 = .ok (.iconst 1, 1) := by decide +kernel
theorem dX9_outage_122 : decode cX9_outage 122 = .ok (.ireturn, 1) := by decide +kernel
theorem dX9_earliest_0 : decode cX9_earliest 0 = .ok (.iconst (-1), 1) := by decide +kernel
theorem dX9_earliest_1 : decode cX9_earliest 1 = .ok (.istore_n 1, 1) := by decide +kernel
theorem dX9_earliest_2 : decode cX9_earliest 2 = .ok (.iconst 0, 1) := by decide +kernel
theorem dX9_earliest_3 : decode cX9_earliest 3 = .ok (.istore_n 2, 1) := by decide +kernel
theorem dX9_earliest_4 : decode cX9_earliest 4 = .ok (.iload_n 2, 1) := by decide +kernel
theorem dX9_earliest_5 : decode cX9_earliest 5 = .ok (.aload_n 0, 1) := by decide +kernel
theorem dX9_earliest_6 : decode cX9_earliest 6 = .ok (.getfield 85, 3) := by decide +kernel
theorem dX9_earliest_9 : decode cX9_earliest 9 = .ok (.if_icmp .ge 59, 3) := by decide +kernel
theorem dX9_earliest_12 : decode cX9_earliest 12 = .ok (.aload_n 0, 1) := by decide +kernel
theorem dX9_earliest_13 : decode cX9_earliest 13 = .ok (.getfield 51, 3) := by decide +kernel
theorem dX9_earliest_16 : decode cX9_earliest 16 = .ok (.iload_n 2, 1) := by decide +kernel
theorem dX9_earliest_17 : decode cX9_earliest 17 = .ok (.laload, 1) := by decide +kernel
theorem dX9_earliest_18 : decode cX9_earliest 18 = .ok (.ldc2_w 117, 3) := by decide +kernel
theorem dX9_earliest_21 : decode cX9_earliest 21 = .ok (.lcmp, 1) := by decide +kernel
theorem dX9_earliest_22 : decode cX9_earliest 22 = .ok (.ifCond .eq 40, 3) := by decide +kernel
theorem dX9_earliest_25 : decode cX9_earliest 25 = .ok (.aload_n 0, 1) := by decide +kernel
theorem dX9_earliest_26 : decode cX9_earliest 26 = .ok (.getfield 51, 3) := by decide +kernel
theorem dX9_earliest_29 : decode cX9_earliest 29 = .ok (.iload_n 2, 1) := by decide +kernel
theorem dX9_earliest_30 : decode cX9_earliest 30 = .ok (.laload, 1) := by decide +kernel
theorem dX9_earliest_31 : decode cX9_earliest 31 = .ok (.aload_n 0, 1) := by decide +kernel
theorem dX9_earliest_32 : decode cX9_earliest 32 = .ok (.getfield 129, 3) := by decide +kernel
theorem dX9_earliest_35 : decode cX9_earliest 35 = .ok (.lcmp, 1) := by decide +kernel
theorem dX9_earliest_36 : decode cX9_earliest 36 = .ok (.ifCond .gt 26, 3) := by decide +kernel
theorem dX9_earliest_39 : decode cX9_earliest 39 = .ok (.iload_n 1, 1) := by decide +kernel
theorem dX9_earliest_40 : decode cX9_earliest 40 = .ok (.iconst (-1), 1) := by decide +kernel
theorem dX9_earliest_41 : decode cX9_earliest 41 = .ok (.if_icmp .eq 19, 3) := by decide +kernel
theorem dX9_earliest_44 : decode cX9_earliest 44 = .ok (.aload_n 0, 1) := by decide +kernel
theorem dX9_earliest_45 : decode cX9_earliest 45 = .ok (.getfield 51, 3) := by decide +kernel
theorem dX9_earliest_48 : decode cX9_earliest 48 = .ok (.iload_n 2, 1) := by decide +kernel
theorem dX9_earliest_49 : decode cX9_earliest 49 = .ok (.laload, 1) := by decide +kernel
theorem dX9_earliest_50 : decode cX9_earliest 50 = .ok (.aload_n 0, 1) := by decide +kernel
theorem dX9_earliest_51 : decode cX9_earliest 51 = .ok (.getfield 51, 3) := by decide +kernel
theorem dX9_earliest_54 : decode cX9_earliest 54 = .ok (.iload_n 1, 1) := by decide +kernel
theorem dX9_earliest_55 : decode cX9_earliest 55 = .ok (.laload, 1) := by decide +kernel
theorem dX9_earliest_56 : decode cX9_earliest 56 = .ok (.lcmp, 1) := by decide +kernel
theorem dX9_earliest_57 : decode cX9_earliest 57 = .ok (.ifCond .ge 5, 3) := by decide +kernel
theorem dX9_earliest_60 : decode cX9_earliest 60 = .ok (.iload_n 2, 1) := by decide +kernel
theorem dX9_earliest_61 : decode cX9_earliest 61 = .ok (.istore_n 1, 1) := by decide +kernel
theorem dX9_earliest_62 : decode cX9_earliest 62 = .ok (.iinc 2 1, 3) := by decide +kernel
theorem dX9_earliest_65 : decode cX9_earliest 65 = .ok (.goto (-61), 3) := by decide +kernel
theorem dX9_earliest_68 : decode cX9_earliest 68 = .ok (.iload_n 1, 1) := by decide +kernel
theorem dX9_earliest_69 : decode cX9_earliest 69 = .ok (.ireturn, 1) := by decide +kernel
theorem dX9_sell_0 : decode cX9_sell 0 = .ok (.aload_n 0, 1) := by decide +kernel
theorem dX9_sell_1 : decode cX9_sell 1 = .ok (.getfield 51, 3) := by decide +kernel
theorem dX9_sell_4 : decode cX9_sell 4 = .ok (.iload_n 1, 1) := by decide +kernel
theorem dX9_sell_5 : decode cX9_sell 5 = .ok (.laload, 1) := by decide +kernel
theorem dX9_sell_6 : decode cX9_sell 6 = .ok (.lstore_n 2, 1) := by decide +kernel
theorem dX9_sell_7 : decode cX9_sell 7 = .ok (.aload_n 0, 1) := by decide +kernel
theorem dX9_sell_8 : decode cX9_sell 8 = .ok (.lload_n 2, 1) := by decide +kernel
theorem dX9_sell_9 : decode cX9_sell 9 = .ok (.invokevirtual 146, 3) := by decide +kernel
theorem dX9_sell_12 : decode cX9_sell 12 = .ok (.lstore 4, 2) := by decide +kernel
theorem dX9_sell_14 : decode cX9_sell 14 = .ok (.aload_n 0, 1) := by decide +kernel
theorem dX9_sell_15 : decode cX9_sell 15 = .ok (.getfield 54, 3) := by decide +kernel
theorem dX9_sell_18 : decode cX9_sell 18 = .ok (.istore 6, 2) := by decide +kernel
theorem dX9_sell_20 : decode cX9_sell 20 = .ok (.aload_n 0, 1) := by decide +kernel
theorem dX9_sell_21 : decode cX9_sell 21 = .ok (.getfield 42, 3) := by decide +kernel
theorem dX9_sell_24 : decode cX9_sell 24 = .ok (.iload 6, 2) := by decide +kernel
theorem dX9_sell_26 : decode cX9_sell 26 = .ok (.iconst 0, 1) := by decide +kernel
theorem dX9_sell_27 : decode cX9_sell 27 = .ok (.iastore, 1) := by decide +kernel
theorem dX9_sell_28 : decode cX9_sell 28 = .ok (.iconst 0, 1) := by decide +kernel
theorem dX9_sell_29 : decode cX9_sell 29 = .ok (.istore 7, 2) := by decide +kernel
theorem dX9_sell_31 : decode cX9_sell 31 = .ok (.iload 7, 2) := by decide +kernel
theorem dX9_sell_33 : decode cX9_sell 33 = .ok (.aload_n 0, 1) := by decide +kernel
theorem dX9_sell_34 : decode cX9_sell 34 = .ok (.getfield 85, 3) := by decide +kernel
theorem dX9_sell_37 : decode cX9_sell 37 = .ok (.if_icmp .ge 68, 3) := by decide +kernel
theorem dX9_sell_40 : decode cX9_sell 40 = .ok (.aload_n 0, 1) := by decide +kernel
theorem dX9_sell_41 : decode cX9_sell 41 = .ok (.getfield 42, 3) := by decide +kernel
theorem dX9_sell_44 : decode cX9_sell 44 = .ok (.iload 6, 2) := by decide +kernel
theorem dX9_sell_46 : decode cX9_sell 46 = .ok (.iload 7, 2) := by decide +kernel
theorem dX9_sell_48 : decode cX9_sell 48 = .ok (.iload_n 1, 1) := by decide +kernel
theorem dX9_sell_49 : decode cX9_sell 49 = .ok (.if_icmp .eq 42, 3) := by decide +kernel
theorem dX9_sell_52 : decode cX9_sell 52 = .ok (.aload_n 0, 1) := by decide +kernel
theorem dX9_sell_53 : decode cX9_sell 53 = .ok (.getfield 51, 3) := by decide +kernel
theorem dX9_sell_56 : decode cX9_sell 56 = .ok (.iload 7, 2) := by decide +kernel
theorem dX9_sell_58 : decode cX9_sell 58 = .ok (.laload, 1) := by decide +kernel
theorem dX9_sell_59 : decode cX9_sell 59 = .ok (.lload_n 2, 1) := by decide +kernel
theorem dX9_sell_60 : decode cX9_sell 60 = .ok (.lcmp, 1) := by decide +kernel
theorem dX9_sell_61 : decode cX9_sell 61 = .ok (.ifCond .ne 30, 3) := by decide +kernel
theorem dX9_sell_64 : decode cX9_sell 64 = .ok (.aload_n 0, 1) := by decide +kernel
theorem dX9_sell_65 : decode cX9_sell 65 = .ok (.iload 7, 2) := by decide +kernel
theorem dX9_sell_67 : decode cX9_sell 67 = .ok (.invokevirtual 157, 3) := by decide +kernel
theorem dX9_sell_70 : decode cX9_sell 70 = .ok (.lload 4, 2) := by decide +kernel
theorem dX9_sell_72 : decode cX9_sell 72 = .ok (.lcmp, 1) := by decide +kernel
theorem dX9_sell_73 : decode cX9_sell 73 = .ok (.ifCond .lt 18, 3) := by decide +kernel
theorem dX9_sell_76 : decode cX9_sell 76 = .ok (.aload_n 0, 1) := by decide +kernel
theorem dX9_sell_77 : decode cX9_sell 77 = .ok (.getfield 42, 3) := by decide +kernel
theorem dX9_sell_80 : decode cX9_sell 80 = .ok (.iload 6, 2) := by decide +kernel
theorem dX9_sell_82 : decode cX9_sell 82 = .ok (.iaload, 1) := by decide +kernel
theorem dX9_sell_83 : decode cX9_sell 83 = .ok (.iconst 1, 1) := by decide +kernel
theorem dX9_sell_84 : decode cX9_sell 84 = .ok (.iload 7, 2) := by decide +kernel
theorem dX9_sell_86 : decode cX9_sell 86 = .ok (.ishl, 1) := by decide +kernel
theorem dX9_sell_87 : decode cX9_sell 87 = .ok (.ior, 1) := by decide +kernel
theorem dX9_sell_88 : decode cX9_sell 88 = .ok (.goto 10, 3) := by decide +kernel
theorem dX9_sell_91 : decode cX9_sell 91 = .ok (.aload_n 0, 1) := by decide +kernel
theorem dX9_sell_92 : decode cX9_sell 92 = .ok (.getfield 42, 3) := by decide +kernel
theorem dX9_sell_95 : decode cX9_sell 95 = .ok (.iload 6, 2) := by decide +kernel
theorem dX9_sell_97 : decode cX9_sell 97 = .ok (.iaload, 1) := by decide +kernel
theorem dX9_sell_98 : decode cX9_sell 98 = .ok (.iastore, 1) := by decide +kernel
theorem dX9_sell_99 : decode cX9_sell 99 = .ok (.iinc 7 1, 3) := by decide +kernel
theorem dX9_sell_102 : decode cX9_sell 102 = .ok (.goto (-71), 3) := by decide +kernel
theorem dX9_sell_105 : decode cX9_sell 105 = .ok (.aload_n 0, 1) := by decide +kernel
theorem dX9_sell_106 : decode cX9_sell 106 = .ok (.getfield 20, 3) := by decide +kernel
theorem dX9_sell_109 : decode cX9_sell 109 = .ok (.iload 6, 2) := by decide +kernel
theorem dX9_sell_111 : decode cX9_sell 111 = .ok (.iconst 3, 1) := by decide +kernel
theorem dX9_sell_112 : decode cX9_sell 112 = .ok (.iastore, 1) := by decide +kernel
theorem dX9_sell_113 : decode cX9_sell 113 = .ok (.aload_n 0, 1) := by decide +kernel
theorem dX9_sell_114 : decode cX9_sell 114 = .ok (.getfield 23, 3) := by decide +kernel
theorem dX9_sell_117 : decode cX9_sell 117 = .ok (.iload 6, 2) := by decide +kernel
theorem dX9_sell_119 : decode cX9_sell 119 = .ok (.iload_n 1, 1) := by decide +kernel
theorem dX9_sell_120 : decode cX9_sell 120 = .ok (.iastore, 1) := by decide +kernel
theorem dX9_sell_121 : decode cX9_sell 121 = .ok (.aload_n 0, 1) := by decide +kernel
theorem dX9_sell_122 : decode cX9_sell 122 = .ok (.getfield 26, 3) := by decide +kernel
theorem dX9_sell_125 : decode cX9_sell 125 = .ok (.iload 6, 2) := by decide +kernel
theorem dX9_sell_127 : decode cX9_sell 127 = .ok (.lload 4, 2) := by decide +kernel
theorem dX9_sell_129 : decode cX9_sell 129 = .ok (.lastore, 1) := by decide +kernel
theorem dX9_sell_130 : decode cX9_sell 130 = .ok (.aload_n 0, 1) := by decide +kernel
theorem dX9_sell_131 : decode cX9_sell 131 = .ok (.getfield 29, 3) := by decide +kernel
theorem dX9_sell_134 : decode cX9_sell 134 = .ok (.iload 6, 2) := by decide +kernel
theorem dX9_sell_136 : decode cX9_sell 136 = .ok (.iconst 1, 1) := by decide +kernel
theorem dX9_sell_137 : decode cX9_sell 137 = .ok (.bastore, 1) := by decide +kernel
theorem dX9_sell_138 : decode cX9_sell 138 = .ok (.aload_n 0, 1) := by decide +kernel
theorem dX9_sell_139 : decode cX9_sell 139 = .ok (.iconst (-1), 1) := by decide +kernel
theorem dX9_sell_140 : decode cX9_sell 140 = .ok (.putfield 54, 3) := by decide +kernel
theorem dX9_sell_143 : decode cX9_sell 143 = .ok (.aload_n 0, 1) := by decide +kernel
theorem dX9_sell_144 : decode cX9_sell 144 = .ok (.iconst 1, 1) := by decide +kernel
theorem dX9_sell_145 : decode cX9_sell 145 = .ok (.iload 6, 2) := by decide +kernel
theorem dX9_sell_147 : decode cX9_sell 147 = .ok (.iload_n 1, 1) := by decide +kernel
theorem dX9_sell_148 : decode cX9_sell 148 = .ok (.lload 4, 2) := by decide +kernel
theorem dX9_sell_150 : decode cX9_sell 150 = .ok (.invokevirtual 160, 3) := by decide +kernel
theorem dX9_sell_153 : decode cX9_sell 153 = .ok (.return_, 1) := by decide +kernel
theorem dX9_goOn_0 : decode cX9_goOn 0 = .ok (.aload_n 0, 1) := by decide +kernel
theorem dX9_goOn_1 : decode cX9_goOn 1 = .ok (.getfield 54, 3) := by decide +kernel
theorem dX9_goOn_4 : decode cX9_goOn 4 = .ok (.iconst (-1), 1) := by decide +kernel
theorem dX9_goOn_5 : decode cX9_goOn 5 = .ok (.if_icmp .ne 5, 3) := by decide +kernel
theorem dX9_goOn_8 : decode cX9_goOn 8 = .ok (.iconst (-1), 1) := by decide +kernel
theorem dX9_goOn_9 : decode cX9_goOn 9 = .ok (.ireturn, 1) := by decide +kernel
theorem dX9_goOn_10 : decode cX9_goOn 10 = .ok (.aload_n 0, 1) := by decide +kernel
theorem dX9_goOn_11 : decode cX9_goOn 11 = .ok (.getfield 142, 3) := by decide +kernel
theorem dX9_goOn_14 : decode cX9_goOn 14 = .ok (.ifCond .eq 5, 3) := by decide +kernel
theorem dX9_goOn_17 : decode cX9_goOn 17 = .ok (.iconst 0, 1) := by decide +kernel
theorem dX9_goOn_18 : decode cX9_goOn 18 = .ok (.ireturn, 1) := by decide +kernel
theorem dX9_goOn_19 : decode cX9_goOn 19 = .ok (.aload_n 0, 1) := by decide +kernel
theorem dX9_goOn_20 : decode cX9_goOn 20 = .ok (.aload_n 0, 1) := by decide +kernel
theorem dX9_goOn_21 : decode cX9_goOn 21 = .ok (.getfield 129, 3) := by decide +kernel
theorem dX9_goOn_24 : decode cX9_goOn 24 = .ok (.lload_n 1, 1) := by decide +kernel
theorem dX9_goOn_25 : decode cX9_goOn 25 = .ok (.ladd, 1) := by decide +kernel
theorem dX9_goOn_26 : decode cX9_goOn 26 = .ok (.aload_n 0, 1) := by decide +kernel
theorem dX9_goOn_27 : decode cX9_goOn 27 = .ok (.getfield 133, 3) := by decide +kernel
theorem dX9_goOn_30 : decode cX9_goOn 30 = .ok (.lcmp, 1) := by decide +kernel
theorem dX9_goOn_31 : decode cX9_goOn 31 = .ok (.ifCond .ge 12, 3) := by decide +kernel
theorem dX9_goOn_34 : decode cX9_goOn 34 = .ok (.aload_n 0, 1) := by decide +kernel
theorem dX9_goOn_35 : decode cX9_goOn 35 = .ok (.getfield 129, 3) := by decide +kernel
theorem dX9_goOn_38 : decode cX9_goOn 38 = .ok (.lload_n 1, 1) := by decide +kernel
theorem dX9_goOn_39 : decode cX9_goOn 39 = .ok (.ladd, 1) := by decide +kernel
theorem dX9_goOn_40 : decode cX9_goOn 40 = .ok (.goto 7, 3) := by decide +kernel
theorem dX9_goOn_43 : decode cX9_goOn 43 = .ok (.aload_n 0, 1) := by decide +kernel
theorem dX9_goOn_44 : decode cX9_goOn 44 = .ok (.getfield 133, 3) := by decide +kernel
theorem dX9_goOn_47 : decode cX9_goOn 47 = .ok (.putfield 129, 3) := by decide +kernel
theorem dX9_goOn_50 : decode cX9_goOn 50 = .ok (.aload_n 0, 1) := by decide +kernel
theorem dX9_goOn_51 : decode cX9_goOn 51 = .ok (.invokevirtual 164, 3) := by decide +kernel
theorem dX9_goOn_54 : decode cX9_goOn 54 = .ok (.istore_n 3, 1) := by decide +kernel
theorem dX9_goOn_55 : decode cX9_goOn 55 = .ok (.iload_n 3, 1) := by decide +kernel
theorem dX9_goOn_56 : decode cX9_goOn 56 = .ok (.iconst (-1), 1) := by decide +kernel
theorem dX9_goOn_57 : decode cX9_goOn 57 = .ok (.if_icmp .eq 46, 3) := by decide +kernel
theorem dX9_goOn_60 : decode cX9_goOn 60 = .ok (.aload_n 0, 1) := by decide +kernel
theorem dX9_goOn_61 : decode cX9_goOn 61 = .ok (.aload_n 0, 1) := by decide +kernel
theorem dX9_goOn_62 : decode cX9_goOn 62 = .ok (.getfield 51, 3) := by decide +kernel
theorem dX9_goOn_65 : decode cX9_goOn 65 = .ok (.iload_n 3, 1) := by decide +kernel
theorem dX9_goOn_66 : decode cX9_goOn 66 = .ok (.laload, 1) := by decide +kernel
theorem dX9_goOn_67 : decode cX9_goOn 67 = .ok (.invokevirtual 146, 3) := by decide +kernel
theorem dX9_goOn_70 : decode cX9_goOn 70 = .ok (.aload_n 0, 1) := by decide +kernel
theorem dX9_goOn_71 : decode cX9_goOn 71 = .ok (.iload_n 3, 1) := by decide +kernel
theorem dX9_goOn_72 : decode cX9_goOn 72 = .ok (.invokevirtual 157, 3) := by decide +kernel
theorem dX9_goOn_75 : decode cX9_goOn 75 = .ok (.lcmp, 1) := by decide +kernel
theorem dX9_goOn_76 : decode cX9_goOn 76 = .ok (.ifCond .gt 10, 3) := by decide +kernel
theorem dX9_goOn_79 : decode cX9_goOn 79 = .ok (.aload_n 0, 1) := by decide +kernel
theorem dX9_goOn_80 : decode cX9_goOn 80 = .ok (.iload_n 3, 1) := by decide +kernel
theorem dX9_goOn_81 : decode cX9_goOn 81 = .ok (.invokevirtual 168, 3) := by decide +kernel
theorem dX9_goOn_84 : decode cX9_goOn 84 = .ok (.iconst 1, 1) := by decide +kernel
theorem dX9_goOn_85 : decode cX9_goOn 85 = .ok (.ireturn, 1) := by decide +kernel
theorem dX9_goOn_86 : decode cX9_goOn 86 = .ok (.aload_n 0, 1) := by decide +kernel
theorem dX9_goOn_87 : decode cX9_goOn 87 = .ok (.getfield 51, 3) := by decide +kernel
theorem dX9_goOn_90 : decode cX9_goOn 90 = .ok (.iload_n 3, 1) := by decide +kernel
theorem dX9_goOn_91 : decode cX9_goOn 91 = .ok (.ldc2_w 117, 3) := by decide +kernel
theorem dX9_goOn_94 : decode cX9_goOn 94 = .ok (.lastore, 1) := by decide +kernel
theorem dX9_goOn_95 : decode cX9_goOn 95 = .ok (.aload_n 0, 1) := by decide +kernel
theorem dX9_goOn_96 : decode cX9_goOn 96 = .ok (.invokevirtual 164, 3) := by decide +kernel
theorem dX9_goOn_99 : decode cX9_goOn 99 = .ok (.istore_n 3, 1) := by decide +kernel
theorem dX9_goOn_100 : decode cX9_goOn 100 = .ok (.goto (-45), 3) := by decide +kernel
theorem dX9_goOn_103 : decode cX9_goOn 103 = .ok (.aload_n 0, 1) := by decide +kernel
theorem dX9_goOn_104 : decode cX9_goOn 104 = .ok (.getfield 129, 3) := by decide +kernel
theorem dX9_goOn_107 : decode cX9_goOn 107 = .ok (.aload_n 0, 1) := by decide +kernel
theorem dX9_goOn_108 : decode cX9_goOn 108 = .ok (.getfield 133, 3) := by decide +kernel
theorem dX9_goOn_111 : decode cX9_goOn 111 = .ok (.lcmp, 1) := by decide +kernel
theorem dX9_goOn_112 : decode cX9_goOn 112 = .ok (.ifCond .ge 5, 3) := by decide +kernel
theorem dX9_goOn_115 : decode cX9_goOn 115 = .ok (.iconst 0, 1) := by decide +kernel
theorem dX9_goOn_116 : decode cX9_goOn 116 = .ok (.ireturn, 1) := by decide +kernel
theorem dX9_goOn_117 : decode cX9_goOn 117 = .ok (.aload_n 0, 1) := by decide +kernel
theorem dX9_goOn_118 : decode cX9_goOn 118 = .ok (.getfield 20, 3) := by decide +kernel
theorem dX9_goOn_121 : decode cX9_goOn 121 = .ok (.aload_n 0, 1) := by decide +kernel
theorem dX9_goOn_122 : decode cX9_goOn 122 = .ok (.getfield 54, 3) := by decide +kernel
theorem dX9_goOn_125 : decode cX9_goOn 125 = .ok (.iconst 4, 1) := by decide +kernel
theorem dX9_goOn_126 : decode cX9_goOn 126 = .ok (.iastore, 1) := by decide +kernel
theorem dX9_goOn_127 : decode cX9_goOn 127 = .ok (.aload_n 0, 1) := by decide +kernel
theorem dX9_goOn_128 : decode cX9_goOn 128 = .ok (.iconst 2, 1) := by decide +kernel
theorem dX9_goOn_129 : decode cX9_goOn 129 = .ok (.aload_n 0, 1) := by decide +kernel
theorem dX9_goOn_130 : decode cX9_goOn 130 = .ok (.getfield 54, 3) := by decide +kernel
theorem dX9_goOn_133 : decode cX9_goOn 133 = .ok (.iconst (-1), 1) := by decide +kernel
theorem dX9_goOn_134 : decode cX9_goOn 134 = .ok (.lconst 0, 1) := by decide +kernel
theorem dX9_goOn_135 : decode cX9_goOn 135 = .ok (.invokevirtual 160, 3) := by decide +kernel
theorem dX9_goOn_138 : decode cX9_goOn 138 = .ok (.aload_n 0, 1) := by decide +kernel
theorem dX9_goOn_139 : decode cX9_goOn 139 = .ok (.iconst (-1), 1) := by decide +kernel
theorem dX9_goOn_140 : decode cX9_goOn 140 = .ok (.putfield 54, 3) := by decide +kernel
theorem dX9_goOn_143 : decode cX9_goOn 143 = .ok (.iconst 2, 1) := by decide +kernel
theorem dX9_goOn_144 : decode cX9_goOn 144 = .ok (.ireturn, 1) := by decide +kernel
theorem dX9_tick_0 : decode cX9_tick 0 = .ok (.lload_n 1, 1) := by decide +kernel
theorem dX9_tick_1 : decode cX9_tick 1 = .ok (.lconst 1, 1) := by decide +kernel
theorem dX9_tick_2 : decode cX9_tick 2 = .ok (.lcmp, 1) := by decide +kernel
theorem dX9_tick_3 : decode cX9_tick 3 = .ok (.ifCond .lt 11, 3) := by decide +kernel
theorem dX9_tick_6 : decode cX9_tick 6 = .ok (.lload_n 1, 1) := by decide +kernel
theorem dX9_tick_7 : decode cX9_tick 7 = .ok (.ldc2_w 123, 3) := by decide +kernel
theorem dX9_tick_10 : decode cX9_tick 10 = .ok (.lcmp, 1) := by decide +kernel
theorem dX9_tick_11 : decode cX9_tick 11 = .ok (.ifCond .le 5, 3) := by decide +kernel
theorem dX9_tick_14 : decode cX9_tick 14 = .ok (.iconst (-1), 1) := by decide +kernel
theorem dX9_tick_15 : decode cX9_tick 15 = .ok (.ireturn, 1) := by decide +kernel
theorem dX9_tick_16 : decode cX9_tick 16 = .ok (.aload_n 0, 1) := by decide +kernel
theorem dX9_tick_17 : decode cX9_tick 17 = .ok (.dup, 1) := by decide +kernel
theorem dX9_tick_18 : decode cX9_tick 18 = .ok (.getfield 172, 3) := by decide +kernel
theorem dX9_tick_21 : decode cX9_tick 21 = .ok (.lload_n 1, 1) := by decide +kernel
theorem dX9_tick_22 : decode cX9_tick 22 = .ok (.ladd, 1) := by decide +kernel
theorem dX9_tick_23 : decode cX9_tick 23 = .ok (.putfield 172, 3) := by decide +kernel
theorem dX9_tick_26 : decode cX9_tick 26 = .ok (.aload_n 0, 1) := by decide +kernel
theorem dX9_tick_27 : decode cX9_tick 27 = .ok (.lload_n 1, 1) := by decide +kernel
theorem dX9_tick_28 : decode cX9_tick 28 = .ok (.invokevirtual 175, 3) := by decide +kernel
theorem dX9_tick_31 : decode cX9_tick 31 = .ok (.istore_n 3, 1) := by decide +kernel
theorem dX9_tick_32 : decode cX9_tick 32 = .ok (.iconst 0, 1) := by decide +kernel
theorem dX9_tick_33 : decode cX9_tick 33 = .ok (.istore 4, 2) := by decide +kernel
theorem dX9_tick_35 : decode cX9_tick 35 = .ok (.iload 4, 2) := by decide +kernel
theorem dX9_tick_37 : decode cX9_tick 37 = .ok (.aload_n 0, 1) := by decide +kernel
theorem dX9_tick_38 : decode cX9_tick 38 = .ok (.getfield 82, 3) := by decide +kernel
theorem dX9_tick_41 : decode cX9_tick 41 = .ok (.if_icmp .ge 68, 3) := by decide +kernel
theorem dX9_tick_44 : decode cX9_tick 44 = .ok (.aload_n 0, 1) := by decide +kernel
theorem dX9_tick_45 : decode cX9_tick 45 = .ok (.getfield 20, 3) := by decide +kernel
theorem dX9_tick_48 : decode cX9_tick 48 = .ok (.iload 4, 2) := by decide +kernel
theorem dX9_tick_50 : decode cX9_tick 50 = .ok (.iaload, 1) := by decide +kernel
theorem dX9_tick_51 : decode cX9_tick 51 = .ok (.iconst 2, 1) := by decide +kernel
theorem dX9_tick_52 : decode cX9_tick 52 = .ok (.if_icmp .ne 51, 3) := by decide +kernel
theorem dX9_tick_55 : decode cX9_tick 55 = .ok (.aload_n 0, 1) := by decide +kernel
theorem dX9_tick_56 : decode cX9_tick 56 = .ok (.getfield 172, 3) := by decide +kernel
theorem dX9_tick_59 : decode cX9_tick 59 = .ok (.aload_n 0, 1) := by decide +kernel
theorem dX9_tick_60 : decode cX9_tick 60 = .ok (.getfield 39, 3) := by decide +kernel
theorem dX9_tick_63 : decode cX9_tick 63 = .ok (.iload 4, 2) := by decide +kernel
theorem dX9_tick_65 : decode cX9_tick 65 = .ok (.laload, 1) := by decide +kernel
theorem dX9_tick_66 : decode cX9_tick 66 = .ok (.lsub, 1) := by decide +kernel
theorem dX9_tick_67 : decode cX9_tick 67 = .ok (.ldc2_w 179, 3) := by decide +kernel
theorem dX9_tick_70 : decode cX9_tick 70 = .ok (.lcmp, 1) := by decide +kernel
theorem dX9_tick_71 : decode cX9_tick 71 = .ok (.ifCond .lt 32, 3) := by decide +kernel
theorem dX9_tick_74 : decode cX9_tick 74 = .ok (.aload_n 0, 1) := by decide +kernel
theorem dX9_tick_75 : decode cX9_tick 75 = .ok (.getfield 20, 3) := by decide +kernel
theorem dX9_tick_78 : decode cX9_tick 78 = .ok (.iload 4, 2) := by decide +kernel
theorem dX9_tick_80 : decode cX9_tick 80 = .ok (.iconst 3, 1) := by decide +kernel
theorem dX9_tick_81 : decode cX9_tick 81 = .ok (.iastore, 1) := by decide +kernel
theorem dX9_tick_82 : decode cX9_tick 82 = .ok (.aload_n 0, 1) := by decide +kernel
theorem dX9_tick_83 : decode cX9_tick 83 = .ok (.iconst 3, 1) := by decide +kernel
theorem dX9_tick_84 : decode cX9_tick 84 = .ok (.iload 4, 2) := by decide +kernel
theorem dX9_tick_86 : decode cX9_tick 86 = .ok (.aload_n 0, 1) := by decide +kernel
theorem dX9_tick_87 : decode cX9_tick 87 = .ok (.getfield 23, 3) := by decide +kernel
theorem dX9_tick_90 : decode cX9_tick 90 = .ok (.iload 4, 2) := by decide +kernel
theorem dX9_tick_92 : decode cX9_tick 92 = .ok (.iaload, 1) := by decide +kernel
theorem dX9_tick_93 : decode cX9_tick 93 = .ok (.aload_n 0, 1) := by decide +kernel
theorem dX9_tick_94 : decode cX9_tick 94 = .ok (.getfield 26, 3) := by decide +kernel
theorem dX9_tick_97 : decode cX9_tick 97 = .ok (.iload 4, 2) := by decide +kernel
theorem dX9_tick_99 : decode cX9_tick 99 = .ok (.laload, 1) := by decide +kernel
theorem dX9_tick_100 : decode cX9_tick 100 = .ok (.invokevirtual 160, 3) := by decide +kernel
theorem dX9_tick_103 : decode cX9_tick 103 = .ok (.iinc 4 1, 3) := by decide +kernel
theorem dX9_tick_106 : decode cX9_tick 106 = .ok (.goto (-71), 3) := by decide +kernel
theorem dX9_tick_109 : decode cX9_tick 109 = .ok (.iload_n 3, 1) := by decide +kernel
theorem dX9_tick_110 : decode cX9_tick 110 = .ok (.ireturn, 1) := by decide +kernel
theorem dX9_tie_0 : decode cX9_tie 0 = .ok (.aload_n 0, 1) := by decide +kernel
theorem dX9_tie_1 : decode cX9_tie 1 = .ok (.iload_n 1, 1) := by decide +kernel
theorem dX9_tie_2 : decode cX9_tie 2 = .ok (.invokevirtual 119, 3) := by decide +kernel
theorem dX9_tie_5 : decode cX9_tie 5 = .ok (.ifCond .eq 7, 3) := by decide +kernel
theorem dX9_tie_8 : decode cX9_tie 8 = .ok (.iload_n 2, 1) := by decide +kernel
theorem dX9_tie_9 : decode cX9_tie 9 = .ok (.ifCond .ge 5, 3) := by decide +kernel
theorem dX9_tie_12 : decode cX9_tie 12 = .ok (.iconst (-1), 1) := by decide +kernel
theorem dX9_tie_13 : decode cX9_tie 13 = .ok (.ireturn, 1) := by decide +kernel
theorem dX9_tie_14 : decode cX9_tie 14 = .ok (.iload_n 2, 1) := by decide +kernel
theorem dX9_tie_15 : decode cX9_tie 15 = .ok (.istore_n 3, 1) := by decide +kernel
theorem dX9_tie_16 : decode cX9_tie 16 = .ok (.iconst 0, 1) := by decide +kernel
theorem dX9_tie_17 : decode cX9_tie 17 = .ok (.istore 4, 2) := by decide +kernel
theorem dX9_tie_19 : decode cX9_tie 19 = .ok (.iload 4, 2) := by decide +kernel
theorem dX9_tie_21 : decode cX9_tie 21 = .ok (.aload_n 0, 1) := by decide +kernel
theorem dX9_tie_22 : decode cX9_tie 22 = .ok (.getfield 85, 3) := by decide +kernel
theorem dX9_tie_25 : decode cX9_tie 25 = .ok (.if_icmp .ge 34, 3) := by decide +kernel
theorem dX9_tie_28 : decode cX9_tie 28 = .ok (.aload_n 0, 1) := by decide +kernel
theorem dX9_tie_29 : decode cX9_tie 29 = .ok (.getfield 42, 3) := by decide +kernel
theorem dX9_tie_32 : decode cX9_tie 32 = .ok (.iload_n 1, 1) := by decide +kernel
theorem dX9_tie_33 : decode cX9_tie 33 = .ok (.iaload, 1) := by decide +kernel
theorem dX9_tie_34 : decode cX9_tie 34 = .ok (.iload 4, 2) := by decide +kernel
theorem dX9_tie_36 : decode cX9_tie 36 = .ok (.ishr, 1) := by decide +kernel
theorem dX9_tie_37 : decode cX9_tie 37 = .ok (.iconst 1, 1) := by decide +kernel
theorem dX9_tie_38 : decode cX9_tie 38 = .ok (.iand, 1) := by decide +kernel
theorem dX9_tie_39 : decode cX9_tie 39 = .ok (.iconst 1, 1) := by decide +kernel
theorem dX9_tie_40 : decode cX9_tie 40 = .ok (.if_icmp .ne 13, 3) := by decide +kernel
theorem dX9_tie_43 : decode cX9_tie 43 = .ok (.iload_n 3, 1) := by decide +kernel
theorem dX9_tie_44 : decode cX9_tie 44 = .ok (.ifCond .ne 6, 3) := by decide +kernel
theorem dX9_tie_47 : decode cX9_tie 47 = .ok (.iload 4, 2) := by decide +kernel
theorem dX9_tie_49 : decode cX9_tie 49 = .ok (.ireturn, 1) := by decide +kernel
theorem dX9_tie_50 : decode cX9_tie 50 = .ok (.iinc 3 (-1), 3) := by decide +kernel
theorem dX9_tie_53 : decode cX9_tie 53 = .ok (.iinc 4 1, 3) := by decide +kernel
theorem dX9_tie_56 : decode cX9_tie 56 = .ok (.goto (-37), 3) := by decide +kernel
theorem dX9_tie_59 : decode cX9_tie 59 = .ok (.iconst (-1), 1) := by decide +kernel
theorem dX9_tie_60 : decode cX9_tie 60 = .ok (.ireturn, 1) := by decide +kernel
theorem dX9_isBought_0 : decode cX9_isBought 0 = .ok (.aload_n 0, 1) := by decide +kernel
theorem dX9_isBought_1 : decode cX9_isBought 1 = .ok (.iload_n 1, 1) := by decide +kernel
theorem dX9_isBought_2 : decode cX9_isBought 2 = .ok (.invokevirtual 119, 3) := by decide +kernel
theorem dX9_isBought_5 : decode cX9_isBought 5 = .ok (.ifCond .eq 27, 3) := by decide +kernel
theorem dX9_isBought_8 : decode cX9_isBought 8 = .ok (.aload_n 0, 1) := by decide +kernel
theorem dX9_isBought_9 : decode cX9_isBought 9 = .ok (.getfield 20, 3) := by decide +kernel
theorem dX9_isBought_12 : decode cX9_isBought 12 = .ok (.iload_n 1, 1) := by decide +kernel
theorem dX9_isBought_13 : decode cX9_isBought 13 = .ok (.iaload, 1) := by decide +kernel
theorem dX9_isBought_14 : decode cX9_isBought 14 = .ok (.iconst 3, 1) := by decide +kernel
theorem dX9_isBought_15 : decode cX9_isBought 15 = .ok (.if_icmp .eq 13, 3) := by decide +kernel
theorem dX9_isBought_18 : decode cX9_isBought 18 = .ok (.aload_n 0, 1) := by decide +kernel
theorem dX9_isBought_19 : decode cX9_isBought 19 = .ok (.getfield 20, 3) := by decide +kernel
theorem dX9_isBought_22 : decode cX9_isBought 22 = .ok (.iload_n 1, 1) := by decide +kernel
theorem dX9_isBought_23 : decode cX9_isBought 23 = .ok (.iaload, 1) := by decide +kernel
theorem dX9_isBought_24 : decode cX9_isBought 24 = .ok (.iconst 2, 1) := by decide +kernel
theorem dX9_isBought_25 : decode cX9_isBought 25 = .ok (.if_icmp .ne 7, 3) := by decide +kernel
theorem dX9_isBought_28 : decode cX9_isBought 28 = .ok (.iconst 1, 1) := by decide +kernel
theorem dX9_isBought_29 : decode cX9_isBought 29 = .ok (.goto 4, 3) := by decide +kernel
theorem dX9_isBought_32 : decode cX9_isBought 32 = .ok (.iconst 0, 1) := by decide +kernel
theorem dX9_isBought_33 : decode cX9_isBought 33 = .ok (.ireturn, 1) := by decide +kernel
theorem dX9_winner_0 : decode cX9_winner 0 = .ok (.aload_n 0, 1) := by decide +kernel
theorem dX9_winner_1 : decode cX9_winner 1 = .ok (.iload_n 1, 1) := by decide +kernel
theorem dX9_winner_2 : decode cX9_winner 2 = .ok (.invokevirtual 181, 3) := by decide +kernel
theorem dX9_winner_5 : decode cX9_winner 5 = .ok (.ifCond .eq 12, 3) := by decide +kernel
theorem dX9_winner_8 : decode cX9_winner 8 = .ok (.aload_n 0, 1) := by decide +kernel
theorem dX9_winner_9 : decode cX9_winner 9 = .ok (.getfield 23, 3) := by decide +kernel
theorem dX9_winner_12 : decode cX9_winner 12 = .ok (.iload_n 1, 1) := by decide +kernel
theorem dX9_winner_13 : decode cX9_winner 13 = .ok (.iaload, 1) := by decide +kernel
theorem dX9_winner_14 : decode cX9_winner 14 = .ok (.goto 4, 3) := by decide +kernel
theorem dX9_winner_17 : decode cX9_winner 17 = .ok (.iconst (-1), 1) := by decide +kernel
theorem dX9_winner_18 : decode cX9_winner 18 = .ok (.ireturn, 1) := by decide +kernel
theorem dX9_price_0 : decode cX9_price 0 = .ok (.aload_n 0, 1) := by decide +kernel
theorem dX9_price_1 : decode cX9_price 1 = .ok (.iload_n 1, 1) := by decide +kernel
theorem dX9_price_2 : decode cX9_price 2 = .ok (.invokevirtual 181, 3) := by decide +kernel
theorem dX9_price_5 : decode cX9_price 5 = .ok (.ifCond .eq 12, 3) := by decide +kernel
theorem dX9_price_8 : decode cX9_price 8 = .ok (.aload_n 0, 1) := by decide +kernel
theorem dX9_price_9 : decode cX9_price 9 = .ok (.getfield 26, 3) := by decide +kernel
theorem dX9_price_12 : decode cX9_price 12 = .ok (.iload_n 1, 1) := by decide +kernel
theorem dX9_price_13 : decode cX9_price 13 = .ok (.laload, 1) := by decide +kernel
theorem dX9_price_14 : decode cX9_price 14 = .ok (.goto 6, 3) := by decide +kernel
theorem dX9_price_17 : decode cX9_price 17 = .ok (.ldc2_w 117, 3) := by decide +kernel
theorem dX9_price_20 : decode cX9_price 20 = .ok (.lreturn, 1) := by decide +kernel
theorem dX9_part_0 : decode cX9_part 0 = .ok (.aload_n 0, 1) := by decide +kernel
theorem dX9_part_1 : decode cX9_part 1 = .ok (.iload_n 1, 1) := by decide +kernel
theorem dX9_part_2 : decode cX9_part 2 = .ok (.invokevirtual 119, 3) := by decide +kernel
theorem dX9_part_5 : decode cX9_part 5 = .ok (.ifCond .eq 57, 3) := by decide +kernel
theorem dX9_part_8 : decode cX9_part 8 = .ok (.aload_n 0, 1) := by decide +kernel
theorem dX9_part_9 : decode cX9_part 9 = .ok (.getfield 20, 3) := by decide +kernel
theorem dX9_part_12 : decode cX9_part 12 = .ok (.iload_n 1, 1) := by decide +kernel
theorem dX9_part_13 : decode cX9_part 13 = .ok (.iaload, 1) := by decide +kernel
theorem dX9_part_14 : decode cX9_part 14 = .ok (.iconst 3, 1) := by decide +kernel
theorem dX9_part_15 : decode cX9_part 15 = .ok (.if_icmp .ne 47, 3) := by decide +kernel
theorem dX9_part_18 : decode cX9_part 18 = .ok (.aload_n 0, 1) := by decide +kernel
theorem dX9_part_19 : decode cX9_part 19 = .ok (.getfield 29, 3) := by decide +kernel
theorem dX9_part_22 : decode cX9_part 22 = .ok (.iload_n 1, 1) := by decide +kernel
theorem dX9_part_23 : decode cX9_part 23 = .ok (.baload, 1) := by decide +kernel
theorem dX9_part_24 : decode cX9_part 24 = .ok (.ifCond .eq 38, 3) := by decide +kernel
theorem dX9_part_27 : decode cX9_part 27 = .ok (.aload_n 0, 1) := by decide +kernel
theorem dX9_part_28 : decode cX9_part 28 = .ok (.getfield 33, 3) := by decide +kernel
theorem dX9_part_31 : decode cX9_part 31 = .ok (.iload_n 1, 1) := by decide +kernel
theorem dX9_part_32 : decode cX9_part 32 = .ok (.baload, 1) := by decide +kernel
theorem dX9_part_33 : decode cX9_part 33 = .ok (.ifCond .ne 29, 3) := by decide +kernel
theorem dX9_part_36 : decode cX9_part 36 = .ok (.lload_n 2, 1) := by decide +kernel
theorem dX9_part_37 : decode cX9_part 37 = .ok (.lconst 1, 1) := by decide +kernel
theorem dX9_part_38 : decode cX9_part 38 = .ok (.lcmp, 1) := by decide +kernel
theorem dX9_part_39 : decode cX9_part 39 = .ok (.ifCond .lt 23, 3) := by decide +kernel
theorem dX9_part_42 : decode cX9_part 42 = .ok (.lload_n 2, 1) := by decide +kernel
theorem dX9_part_43 : decode cX9_part 43 = .ok (.aload_n 0, 1) := by decide +kernel
theorem dX9_part_44 : decode cX9_part 44 = .ok (.getfield 13, 3) := by decide +kernel
theorem dX9_part_47 : decode cX9_part 47 = .ok (.iload_n 1, 1) := by decide +kernel
theorem dX9_part_48 : decode cX9_part 48 = .ok (.laload, 1) := by decide +kernel
theorem dX9_part_49 : decode cX9_part 49 = .ok (.lcmp, 1) := by decide +kernel
theorem dX9_part_50 : decode cX9_part 50 = .ok (.ifCond .ge 12, 3) := by decide +kernel
theorem dX9_part_53 : decode cX9_part 53 = .ok (.aload_n 0, 1) := by decide +kernel
theorem dX9_part_54 : decode cX9_part 54 = .ok (.getfield 82, 3) := by decide +kernel
theorem dX9_part_57 : decode cX9_part 57 = .ok (.bipush 60, 2) := by decide +kernel
theorem dX9_part_59 : decode cX9_part 59 = .ok (.if_icmp .ne 5, 3) := by decide +kernel
theorem dX9_part_62 : decode cX9_part 62 = .ok (.iconst (-1), 1) := by decide +kernel
theorem dX9_part_63 : decode cX9_part 63 = .ok (.ireturn, 1) := by decide +kernel
theorem dX9_part_64 : decode cX9_part 64 = .ok (.aload_n 0, 1) := by decide +kernel
theorem dX9_part_65 : decode cX9_part 65 = .ok (.getfield 13, 3) := by decide +kernel
theorem dX9_part_68 : decode cX9_part 68 = .ok (.iload_n 1, 1) := by decide +kernel
theorem dX9_part_69 : decode cX9_part 69 = .ok (.laload, 1) := by decide +kernel
theorem dX9_part_70 : decode cX9_part 70 = .ok (.lstore 4, 2) := by decide +kernel
theorem dX9_part_72 : decode cX9_part 72 = .ok (.aload_n 0, 1) := by decide +kernel
theorem dX9_part_73 : decode cX9_part 73 = .ok (.aload_n 0, 1) := by decide +kernel
theorem dX9_part_74 : decode cX9_part 74 = .ok (.getfield 7, 3) := by decide +kernel
theorem dX9_part_77 : decode cX9_part 77 = .ok (.iload_n 1, 1) := by decide +kernel
theorem dX9_part_78 : decode cX9_part 78 = .ok (.iaload, 1) := by decide +kernel
theorem dX9_part_79 : decode cX9_part 79 = .ok (.lload 4, 2) := by decide +kernel
theorem dX9_part_81 : decode cX9_part 81 = .ok (.lload_n 2, 1) := by decide +kernel
theorem dX9_part_82 : decode cX9_part 82 = .ok (.lsub, 1) := by decide +kernel
theorem dX9_part_83 : decode cX9_part 83 = .ok (.aload_n 0, 1) := by decide +kernel
theorem dX9_part_84 : decode cX9_part 84 = .ok (.getfield 17, 3) := by decide +kernel
theorem dX9_part_87 : decode cX9_part 87 = .ok (.iload_n 1, 1) := by decide +kernel
theorem dX9_part_88 : decode cX9_part 88 = .ok (.laload, 1) := by decide +kernel
theorem dX9_part_89 : decode cX9_part 89 = .ok (.lload 4, 2) := by decide +kernel
theorem dX9_part_91 : decode cX9_part 91 = .ok (.lload_n 2, 1) := by decide +kernel
theorem dX9_part_92 : decode cX9_part 92 = .ok (.lsub, 1) := by decide +kernel
theorem dX9_part_93 : decode cX9_part 93 = .ok (.lmul, 1) := by decide +kernel
theorem dX9_part_94 : decode cX9_part 94 = .ok (.lload 4, 2) := by decide +kernel
theorem dX9_part_96 : decode cX9_part 96 = .ok (.invokestatic 184, 3) := by decide +kernel
theorem dX9_part_99 : decode cX9_part 99 = .ok (.invokevirtual 111, 3) := by decide +kernel
theorem dX9_part_102 : decode cX9_part 102 = .ok (.istore 6, 2) := by decide +kernel
theorem dX9_part_104 : decode cX9_part 104 = .ok (.aload_n 0, 1) := by decide +kernel
theorem dX9_part_105 : decode cX9_part 105 = .ok (.getfield 26, 3) := by decide +kernel
theorem dX9_part_108 : decode cX9_part 108 = .ok (.iload_n 1, 1) := by decide +kernel
theorem dX9_part_109 : decode cX9_part 109 = .ok (.aload_n 0, 1) := by decide +kernel
theorem dX9_part_110 : decode cX9_part 110 = .ok (.getfield 26, 3) := by decide +kernel
theorem dX9_part_113 : decode cX9_part 113 = .ok (.iload_n 1, 1) := by decide +kernel
theorem dX9_part_114 : decode cX9_part 114 = .ok (.laload, 1) := by decide +kernel
theorem dX9_part_115 : decode cX9_part 115 = .ok (.lload_n 2, 1) := by decide +kernel
theorem dX9_part_116 : decode cX9_part 116 = .ok (.lmul, 1) := by decide +kernel
theorem dX9_part_117 : decode cX9_part 117 = .ok (.lload 4, 2) := by decide +kernel
theorem dX9_part_119 : decode cX9_part 119 = .ok (.invokestatic 184, 3) := by decide +kernel
theorem dX9_part_122 : decode cX9_part 122 = .ok (.lastore, 1) := by decide +kernel
theorem dX9_part_123 : decode cX9_part 123 = .ok (.aload_n 0, 1) := by decide +kernel
theorem dX9_part_124 : decode cX9_part 124 = .ok (.getfield 13, 3) := by decide +kernel
theorem dX9_part_127 : decode cX9_part 127 = .ok (.iload_n 1, 1) := by decide +kernel
theorem dX9_part_128 : decode cX9_part 128 = .ok (.lload_n 2, 1) := by decide +kernel
theorem dX9_part_129 : decode cX9_part 129 = .ok (.lastore, 1) := by decide +kernel
theorem dX9_part_130 : decode cX9_part 130 = .ok (.aload_n 0, 1) := by decide +kernel
theorem dX9_part_131 : decode cX9_part 131 = .ok (.getfield 33, 3) := by decide +kernel
theorem dX9_part_134 : decode cX9_part 134 = .ok (.iload_n 1, 1) := by decide +kernel
theorem dX9_part_135 : decode cX9_part 135 = .ok (.iconst 1, 1) := by decide +kernel
theorem dX9_part_136 : decode cX9_part 136 = .ok (.bastore, 1) := by decide +kernel
theorem dX9_part_137 : decode cX9_part 137 = .ok (.aload_n 0, 1) := by decide +kernel
theorem dX9_part_138 : decode cX9_part 138 = .ok (.iconst 5, 1) := by decide +kernel
theorem dX9_part_139 : decode cX9_part 139 = .ok (.iload_n 1, 1) := by decide +kernel
theorem dX9_part_140 : decode cX9_part 140 = .ok (.aload_n 0, 1) := by decide +kernel
theorem dX9_part_141 : decode cX9_part 141 = .ok (.getfield 23, 3) := by decide +kernel
theorem dX9_part_144 : decode cX9_part 144 = .ok (.iload_n 1, 1) := by decide +kernel
theorem dX9_part_145 : decode cX9_part 145 = .ok (.iaload, 1) := by decide +kernel
theorem dX9_part_146 : decode cX9_part 146 = .ok (.aload_n 0, 1) := by decide +kernel
theorem dX9_part_147 : decode cX9_part 147 = .ok (.getfield 26, 3) := by decide +kernel
theorem dX9_part_150 : decode cX9_part 150 = .ok (.iload_n 1, 1) := by decide +kernel
theorem dX9_part_151 : decode cX9_part 151 = .ok (.laload, 1) := by decide +kernel
theorem dX9_part_152 : decode cX9_part 152 = .ok (.invokevirtual 160, 3) := by decide +kernel
theorem dX9_part_155 : decode cX9_part 155 = .ok (.iload 6, 2) := by decide +kernel
theorem dX9_part_157 : decode cX9_part 157 = .ok (.ireturn, 1) := by decide +kernel
theorem dX9_left_0 : decode cX9_left 0 = .ok (.aload_n 0, 1) := by decide +kernel
theorem dX9_left_1 : decode cX9_left 1 = .ok (.iload_n 1, 1) := by decide +kernel
theorem dX9_left_2 : decode cX9_left 2 = .ok (.invokevirtual 119, 3) := by decide +kernel
theorem dX9_left_5 : decode cX9_left 5 = .ok (.ifCond .eq 12, 3) := by decide +kernel
theorem dX9_left_8 : decode cX9_left 8 = .ok (.aload_n 0, 1) := by decide +kernel
theorem dX9_left_9 : decode cX9_left 9 = .ok (.getfield 13, 3) := by decide +kernel
theorem dX9_left_12 : decode cX9_left 12 = .ok (.iload_n 1, 1) := by decide +kernel
theorem dX9_left_13 : decode cX9_left 13 = .ok (.laload, 1) := by decide +kernel
theorem dX9_left_14 : decode cX9_left 14 = .ok (.goto 6, 3) := by decide +kernel
theorem dX9_left_17 : decode cX9_left 17 = .ok (.ldc2_w 117, 3) := by decide +kernel
theorem dX9_left_20 : decode cX9_left 20 = .ok (.lreturn, 1) := by decide +kernel
theorem dX9_again_0 : decode cX9_again 0 = .ok (.aload_n 0, 1) := by decide +kernel
theorem dX9_again_1 : decode cX9_again 1 = .ok (.iload_n 1, 1) := by decide +kernel
theorem dX9_again_2 : decode cX9_again 2 = .ok (.invokevirtual 119, 3) := by decide +kernel
theorem dX9_again_5 : decode cX9_again 5 = .ok (.ifCond .eq 22, 3) := by decide +kernel
theorem dX9_again_8 : decode cX9_again 8 = .ok (.aload_n 0, 1) := by decide +kernel
theorem dX9_again_9 : decode cX9_again 9 = .ok (.getfield 20, 3) := by decide +kernel
theorem dX9_again_12 : decode cX9_again 12 = .ok (.iload_n 1, 1) := by decide +kernel
theorem dX9_again_13 : decode cX9_again 13 = .ok (.iaload, 1) := by decide +kernel
theorem dX9_again_14 : decode cX9_again 14 = .ok (.iconst 4, 1) := by decide +kernel
theorem dX9_again_15 : decode cX9_again 15 = .ok (.if_icmp .ne 12, 3) := by decide +kernel
theorem dX9_again_18 : decode cX9_again 18 = .ok (.aload_n 0, 1) := by decide +kernel
theorem dX9_again_19 : decode cX9_again 19 = .ok (.getfield 36, 3) := by decide +kernel
theorem dX9_again_22 : decode cX9_again 22 = .ok (.iload_n 1, 1) := by decide +kernel
theorem dX9_again_23 : decode cX9_again 23 = .ok (.baload, 1) := by decide +kernel
theorem dX9_again_24 : decode cX9_again 24 = .ok (.ifCond .eq 5, 3) := by decide +kernel
theorem dX9_again_27 : decode cX9_again 27 = .ok (.iconst (-1), 1) := by decide +kernel
theorem dX9_again_28 : decode cX9_again 28 = .ok (.ireturn, 1) := by decide +kernel
theorem dX9_again_29 : decode cX9_again 29 = .ok (.aload_n 0, 1) := by decide +kernel
theorem dX9_again_30 : decode cX9_again 30 = .ok (.getfield 36, 3) := by decide +kernel
theorem dX9_again_33 : decode cX9_again 33 = .ok (.iload_n 1, 1) := by decide +kernel
theorem dX9_again_34 : decode cX9_again 34 = .ok (.iconst 1, 1) := by decide +kernel
theorem dX9_again_35 : decode cX9_again 35 = .ok (.bastore, 1) := by decide +kernel
theorem dX9_again_36 : decode cX9_again 36 = .ok (.aload_n 0, 1) := by decide +kernel
theorem dX9_again_37 : decode cX9_again 37 = .ok (.getfield 20, 3) := by decide +kernel
theorem dX9_again_40 : decode cX9_again 40 = .ok (.iload_n 1, 1) := by decide +kernel
theorem dX9_again_41 : decode cX9_again 41 = .ok (.iconst 0, 1) := by decide +kernel
theorem dX9_again_42 : decode cX9_again 42 = .ok (.iastore, 1) := by decide +kernel
theorem dX9_again_43 : decode cX9_again 43 = .ok (.aload_n 0, 1) := by decide +kernel
theorem dX9_again_44 : decode cX9_again 44 = .ok (.getfield 17, 3) := by decide +kernel
theorem dX9_again_47 : decode cX9_again 47 = .ok (.iload_n 1, 1) := by decide +kernel
theorem dX9_again_48 : decode cX9_again 48 = .ok (.aload_n 0, 1) := by decide +kernel
theorem dX9_again_49 : decode cX9_again 49 = .ok (.getfield 17, 3) := by decide +kernel
theorem dX9_again_52 : decode cX9_again 52 = .ok (.iload_n 1, 1) := by decide +kernel
theorem dX9_again_53 : decode cX9_again 53 = .ok (.laload, 1) := by decide +kernel
theorem dX9_again_54 : decode cX9_again 54 = .ok (.aload_n 0, 1) := by decide +kernel
theorem dX9_again_55 : decode cX9_again 55 = .ok (.getfield 17, 3) := by decide +kernel
theorem dX9_again_58 : decode cX9_again 58 = .ok (.iload_n 1, 1) := by decide +kernel
theorem dX9_again_59 : decode cX9_again 59 = .ok (.laload, 1) := by decide +kernel
theorem dX9_again_60 : decode cX9_again 60 = .ok (.ldc2_w 188, 3) := by decide +kernel
theorem dX9_again_63 : decode cX9_again 63 = .ok (.ldiv, 1) := by decide +kernel
theorem dX9_again_64 : decode cX9_again 64 = .ok (.lsub, 1) := by decide +kernel
theorem dX9_again_65 : decode cX9_again 65 = .ok (.lastore, 1) := by decide +kernel
theorem dX9_again_66 : decode cX9_again 66 = .ok (.aload_n 0, 1) := by decide +kernel
theorem dX9_again_67 : decode cX9_again 67 = .ok (.bipush 6, 2) := by decide +kernel
theorem dX9_again_69 : decode cX9_again 69 = .ok (.iload_n 1, 1) := by decide +kernel
theorem dX9_again_70 : decode cX9_again 70 = .ok (.iconst (-1), 1) := by decide +kernel
theorem dX9_again_71 : decode cX9_again 71 = .ok (.aload_n 0, 1) := by decide +kernel
theorem dX9_again_72 : decode cX9_again 72 = .ok (.getfield 17, 3) := by decide +kernel
theorem dX9_again_75 : decode cX9_again 75 = .ok (.iload_n 1, 1) := by decide +kernel
theorem dX9_again_76 : decode cX9_again 76 = .ok (.laload, 1) := by decide +kernel
theorem dX9_again_77 : decode cX9_again 77 = .ok (.invokevirtual 160, 3) := by decide +kernel
theorem dX9_again_80 : decode cX9_again 80 = .ok (.iconst 1, 1) := by decide +kernel
theorem dX9_again_81 : decode cX9_again 81 = .ok (.ireturn, 1) := by decide +kernel
theorem dX9_back_0 : decode cX9_back 0 = .ok (.aload_n 0, 1) := by decide +kernel
theorem dX9_back_1 : decode cX9_back 1 = .ok (.iload_n 1, 1) := by decide +kernel
theorem dX9_back_2 : decode cX9_back 2 = .ok (.invokevirtual 119, 3) := by decide +kernel
theorem dX9_back_5 : decode cX9_back 5 = .ok (.ifCond .eq 32, 3) := by decide +kernel
theorem dX9_back_8 : decode cX9_back 8 = .ok (.aload_n 0, 1) := by decide +kernel
theorem dX9_back_9 : decode cX9_back 9 = .ok (.getfield 20, 3) := by decide +kernel
theorem dX9_back_12 : decode cX9_back 12 = .ok (.iload_n 1, 1) := by decide +kernel
theorem dX9_back_13 : decode cX9_back 13 = .ok (.iaload, 1) := by decide +kernel
theorem dX9_back_14 : decode cX9_back 14 = .ok (.ifCond .eq 25, 3) := by decide +kernel
theorem dX9_back_17 : decode cX9_back 17 = .ok (.aload_n 0, 1) := by decide +kernel
theorem dX9_back_18 : decode cX9_back 18 = .ok (.getfield 20, 3) := by decide +kernel
theorem dX9_back_21 : decode cX9_back 21 = .ok (.iload_n 1, 1) := by decide +kernel
theorem dX9_back_22 : decode cX9_back 22 = .ok (.iaload, 1) := by decide +kernel
theorem dX9_back_23 : decode cX9_back 23 = .ok (.iconst 2, 1) := by decide +kernel
theorem dX9_back_24 : decode cX9_back 24 = .ok (.if_icmp .eq 15, 3) := by decide +kernel
theorem dX9_back_27 : decode cX9_back 27 = .ok (.aload_n 0, 1) := by decide +kernel
theorem dX9_back_28 : decode cX9_back 28 = .ok (.getfield 20, 3) := by decide +kernel
theorem dX9_back_31 : decode cX9_back 31 = .ok (.iload_n 1, 1) := by decide +kernel
theorem dX9_back_32 : decode cX9_back 32 = .ok (.iaload, 1) := by decide +kernel
theorem dX9_back_33 : decode cX9_back 33 = .ok (.iconst 4, 1) := by decide +kernel
theorem dX9_back_34 : decode cX9_back 34 = .ok (.if_icmp .eq 5, 3) := by decide +kernel
theorem dX9_back_37 : decode cX9_back 37 = .ok (.iconst (-1), 1) := by decide +kernel
theorem dX9_back_38 : decode cX9_back 38 = .ok (.ireturn, 1) := by decide +kernel
theorem dX9_back_39 : decode cX9_back 39 = .ok (.aload_n 0, 1) := by decide +kernel
theorem dX9_back_40 : decode cX9_back 40 = .ok (.getfield 20, 3) := by decide +kernel
theorem dX9_back_43 : decode cX9_back 43 = .ok (.iload_n 1, 1) := by decide +kernel
theorem dX9_back_44 : decode cX9_back 44 = .ok (.iconst 5, 1) := by decide +kernel
theorem dX9_back_45 : decode cX9_back 45 = .ok (.iastore, 1) := by decide +kernel
theorem dX9_back_46 : decode cX9_back 46 = .ok (.aload_n 0, 1) := by decide +kernel
theorem dX9_back_47 : decode cX9_back 47 = .ok (.bipush 7, 2) := by decide +kernel
theorem dX9_back_49 : decode cX9_back 49 = .ok (.iload_n 1, 1) := by decide +kernel
theorem dX9_back_50 : decode cX9_back 50 = .ok (.iconst (-1), 1) := by decide +kernel
theorem dX9_back_51 : decode cX9_back 51 = .ok (.lconst 0, 1) := by decide +kernel
theorem dX9_back_52 : decode cX9_back 52 = .ok (.invokevirtual 160, 3) := by decide +kernel
theorem dX9_back_55 : decode cX9_back 55 = .ok (.iconst 1, 1) := by decide +kernel
theorem dX9_back_56 : decode cX9_back 56 = .ok (.ireturn, 1) := by decide +kernel
theorem dX9_fee_0 : decode cX9_fee 0 = .ok (.aload_n 0, 1) := by decide +kernel
theorem dX9_fee_1 : decode cX9_fee 1 = .ok (.iload_n 1, 1) := by decide +kernel
theorem dX9_fee_2 : decode cX9_fee 2 = .ok (.invokevirtual 119, 3) := by decide +kernel
theorem dX9_fee_5 : decode cX9_fee 5 = .ok (.ifCond .eq 32, 3) := by decide +kernel
theorem dX9_fee_8 : decode cX9_fee 8 = .ok (.aload_n 0, 1) := by decide +kernel
theorem dX9_fee_9 : decode cX9_fee 9 = .ok (.getfield 20, 3) := by decide +kernel
theorem dX9_fee_12 : decode cX9_fee 12 = .ok (.iload_n 1, 1) := by decide +kernel
theorem dX9_fee_13 : decode cX9_fee 13 = .ok (.iaload, 1) := by decide +kernel
theorem dX9_fee_14 : decode cX9_fee 14 = .ok (.iconst 3, 1) := by decide +kernel
theorem dX9_fee_15 : decode cX9_fee 15 = .ok (.if_icmp .ne 22, 3) := by decide +kernel
theorem dX9_fee_18 : decode cX9_fee 18 = .ok (.aload_n 0, 1) := by decide +kernel
theorem dX9_fee_19 : decode cX9_fee 19 = .ok (.getfield 26, 3) := by decide +kernel
theorem dX9_fee_22 : decode cX9_fee 22 = .ok (.iload_n 1, 1) := by decide +kernel
theorem dX9_fee_23 : decode cX9_fee 23 = .ok (.laload, 1) := by decide +kernel
theorem dX9_fee_24 : decode cX9_fee 24 = .ok (.ldc2_w 190, 3) := by decide +kernel
theorem dX9_fee_27 : decode cX9_fee 27 = .ok (.invokestatic 184, 3) := by decide +kernel
theorem dX9_fee_30 : decode cX9_fee 30 = .ok (.ldc2_w 192, 3) := by decide +kernel
theorem dX9_fee_33 : decode cX9_fee 33 = .ok (.ladd, 1) := by decide +kernel
theorem dX9_fee_34 : decode cX9_fee 34 = .ok (.goto 6, 3) := by decide +kernel
theorem dX9_fee_37 : decode cX9_fee 37 = .ok (.ldc2_w 117, 3) := by decide +kernel
theorem dX9_fee_40 : decode cX9_fee 40 = .ok (.lreturn, 1) := by decide +kernel
theorem dX9_order_0 : decode cX9_order 0 = .ok (.iload_n 2, 1) := by decide +kernel
theorem dX9_order_1 : decode cX9_order 1 = .ok (.ifCond .ge 5, 3) := by decide +kernel
theorem dX9_order_4 : decode cX9_order 4 = .ok (.iconst (-1), 1) := by decide +kernel
theorem dX9_order_5 : decode cX9_order 5 = .ok (.ireturn, 1) := by decide +kernel
theorem dX9_order_6 : decode cX9_order 6 = .ok (.iconst (-1), 1) := by decide +kernel
theorem dX9_order_7 : decode cX9_order 7 = .ok (.istore_n 3, 1) := by decide +kernel
theorem dX9_order_8 : decode cX9_order 8 = .ok (.iconst 0, 1) := by decide +kernel
theorem dX9_order_9 : decode cX9_order 9 = .ok (.istore 4, 2) := by decide +kernel
theorem dX9_order_11 : decode cX9_order 11 = .ok (.iload 4, 2) := by decide +kernel
theorem dX9_order_13 : decode cX9_order 13 = .ok (.iload_n 2, 1) := by decide +kernel
theorem dX9_order_14 : decode cX9_order 14 = .ok (.if_icmp .gt 147, 3) := by decide +kernel
theorem dX9_order_17 : decode cX9_order 17 = .ok (.iconst (-1), 1) := by decide +kernel
theorem dX9_order_18 : decode cX9_order 18 = .ok (.istore 5, 2) := by decide +kernel
theorem dX9_order_20 : decode cX9_order 20 = .ok (.iconst 0, 1) := by decide +kernel
theorem dX9_order_21 : decode cX9_order 21 = .ok (.istore 6, 2) := by decide +kernel
theorem dX9_order_23 : decode cX9_order 23 = .ok (.iload 6, 2) := by decide +kernel
theorem dX9_order_25 : decode cX9_order 25 = .ok (.aload_n 0, 1) := by decide +kernel
theorem dX9_order_26 : decode cX9_order 26 = .ok (.getfield 82, 3) := by decide +kernel
theorem dX9_order_29 : decode cX9_order 29 = .ok (.if_icmp .ge 115, 3) := by decide +kernel
theorem dX9_order_32 : decode cX9_order 32 = .ok (.iload_n 3, 1) := by decide +kernel
theorem dX9_order_33 : decode cX9_order 33 = .ok (.iconst (-1), 1) := by decide +kernel
theorem dX9_order_34 : decode cX9_order 34 = .ok (.if_icmp .eq 43, 3) := by decide +kernel
theorem dX9_order_37 : decode cX9_order 37 = .ok (.aload_n 0, 1) := by decide +kernel
theorem dX9_order_38 : decode cX9_order 38 = .ok (.getfield 13, 3) := by decide +kernel
theorem dX9_order_41 : decode cX9_order 41 = .ok (.iload 6, 2) := by decide +kernel
theorem dX9_order_43 : decode cX9_order 43 = .ok (.laload, 1) := by decide +kernel
theorem dX9_order_44 : decode cX9_order 44 = .ok (.aload_n 0, 1) := by decide +kernel
theorem dX9_order_45 : decode cX9_order 45 = .ok (.getfield 13, 3) := by decide +kernel
theorem dX9_order_48 : decode cX9_order 48 = .ok (.iload_n 3, 1) := by decide +kernel
theorem dX9_order_49 : decode cX9_order 49 = .ok (.laload, 1) := by decide +kernel
theorem dX9_order_50 : decode cX9_order 50 = .ok (.lcmp, 1) := by decide +kernel
theorem dX9_order_51 : decode cX9_order 51 = .ok (.ifCond .lt 26, 3) := by decide +kernel
theorem dX9_order_54 : decode cX9_order 54 = .ok (.aload_n 0, 1) := by decide +kernel
theorem dX9_order_55 : decode cX9_order 55 = .ok (.getfield 13, 3) := by decide +kernel
theorem dX9_order_58 : decode cX9_order 58 = .ok (.iload 6, 2) := by decide +kernel
theorem dX9_order_60 : decode cX9_order 60 = .ok (.laload, 1) := by decide +kernel
theorem dX9_order_61 : decode cX9_order 61 = .ok (.aload_n 0, 1) := by decide +kernel
theorem dX9_order_62 : decode cX9_order 62 = .ok (.getfield 13, 3) := by decide +kernel
theorem dX9_order_65 : decode cX9_order 65 = .ok (.iload_n 3, 1) := by decide +kernel
theorem dX9_order_66 : decode cX9_order 66 = .ok (.laload, 1) := by decide +kernel
theorem dX9_order_67 : decode cX9_order 67 = .ok (.lcmp, 1) := by decide +kernel
theorem dX9_order_68 : decode cX9_order 68 = .ok (.ifCond .ne 13, 3) := by decide +kernel
theorem dX9_order_71 : decode cX9_order 71 = .ok (.iload 6, 2) := by decide +kernel
theorem dX9_order_73 : decode cX9_order 73 = .ok (.iload_n 3, 1) := by decide +kernel
theorem dX9_order_74 : decode cX9_order 74 = .ok (.if_icmp .le 7, 3) := by decide +kernel
theorem dX9_order_77 : decode cX9_order 77 = .ok (.iconst 1, 1) := by decide +kernel
theorem dX9_order_78 : decode cX9_order 78 = .ok (.goto 4, 3) := by decide +kernel
theorem dX9_order_81 : decode cX9_order 81 = .ok (.iconst 0, 1) := by decide +kernel
theorem dX9_order_82 : decode cX9_order 82 = .ok (.istore 7, 2) := by decide +kernel
theorem dX9_order_84 : decode cX9_order 84 = .ok (.aload_n 0, 1) := by decide +kernel
theorem dX9_order_85 : decode cX9_order 85 = .ok (.getfield 20, 3) := by decide +kernel
theorem dX9_order_88 : decode cX9_order 88 = .ok (.iload 6, 2) := by decide +kernel
theorem dX9_order_90 : decode cX9_order 90 = .ok (.iaload, 1) := by decide +kernel
theorem dX9_order_91 : decode cX9_order 91 = .ok (.ifCond .ne 47, 3) := by decide +kernel
theorem dX9_order_94 : decode cX9_order 94 = .ok (.aload_n 0, 1) := by decide +kernel
theorem dX9_order_95 : decode cX9_order 95 = .ok (.getfield 7, 3) := by decide +kernel
theorem dX9_order_98 : decode cX9_order 98 = .ok (.iload 6, 2) := by decide +kernel
theorem dX9_order_100 : decode cX9_order 100 = .ok (.iaload, 1) := by decide +kernel
theorem dX9_order_101 : decode cX9_order 101 = .ok (.iload_n 1, 1) := by decide +kernel
theorem dX9_order_102 : decode cX9_order 102 = .ok (.if_icmp .ne 36, 3) := by decide +kernel
theorem dX9_order_105 : decode cX9_order 105 = .ok (.iload 7, 2) := by decide +kernel
theorem dX9_order_107 : decode cX9_order 107 = .ok (.ifCond .eq 31, 3) := by decide +kernel
theorem dX9_order_110 : decode cX9_order 110 = .ok (.iload 5, 2) := by decide +kernel
theorem dX9_order_112 : decode cX9_order 112 = .ok (.iconst (-1), 1) := by decide +kernel
theorem dX9_order_113 : decode cX9_order 113 = .ok (.if_icmp .eq 21, 3) := by decide +kernel
theorem dX9_order_116 : decode cX9_order 116 = .ok (.aload_n 0, 1) := by decide +kernel
theorem dX9_order_117 : decode cX9_order 117 = .ok (.getfield 13, 3) := by decide +kernel
theorem dX9_order_120 : decode cX9_order 120 = .ok (.iload 6, 2) := by decide +kernel
theorem dX9_order_122 : decode cX9_order 122 = .ok (.laload, 1) := by decide +kernel
theorem dX9_order_123 : decode cX9_order 123 = .ok (.aload_n 0, 1) := by decide +kernel
theorem dX9_order_124 : decode cX9_order 124 = .ok (.getfield 13, 3) := by decide +kernel
theorem dX9_order_127 : decode cX9_order 127 = .ok (.iload 5, 2) := by decide +kernel
theorem dX9_order_129 : decode cX9_order 129 = .ok (.laload, 1) := by decide +kernel
theorem dX9_order_130 : decode cX9_order 130 = .ok (.lcmp, 1) := by decide +kernel
theorem dX9_order_131 : decode cX9_order 131 = .ok (.ifCond .le 7, 3) := by decide +kernel
theorem dX9_order_134 : decode cX9_order 134 = .ok (.iload 6, 2) := by decide +kernel
theorem dX9_order_136 : decode cX9_order 136 = .ok (.istore 5, 2) := by decide +kernel
theorem dX9_order_138 : decode cX9_order 138 = .ok (.iinc 6 1, 3) := by decide +kernel
theorem dX9_order_141 : decode cX9_order 141 = .ok (.goto (-118), 3) := by decide +kernel
theorem dX9_order_144 : decode cX9_order 144 = .ok (.iload 5, 2) := by decide +kernel
theorem dX9_order_146 : decode cX9_order 146 = .ok (.iconst (-1), 1) := by decide +kernel
theorem dX9_order_147 : decode cX9_order 147 = .ok (.if_icmp .ne 5, 3) := by decide +kernel
theorem dX9_order_150 : decode cX9_order 150 = .ok (.iconst (-1), 1) := by decide +kernel
theorem dX9_order_151 : decode cX9_order 151 = .ok (.ireturn, 1) := by decide +kernel
theorem dX9_order_152 : decode cX9_order 152 = .ok (.iload 5, 2) := by decide +kernel
theorem dX9_order_154 : decode cX9_order 154 = .ok (.istore_n 3, 1) := by decide +kernel
theorem dX9_order_155 : decode cX9_order 155 = .ok (.iinc 4 1, 3) := by decide +kernel
theorem dX9_order_158 : decode cX9_order 158 = .ok (.goto (-147), 3) := by decide +kernel
theorem dX9_order_161 : decode cX9_order 161 = .ok (.iload_n 3, 1) := by decide +kernel
theorem dX9_order_162 : decode cX9_order 162 = .ok (.ireturn, 1) := by decide +kernel
theorem dX9_held_0 : decode cX9_held 0 = .ok (.aload_n 0, 1) := by decide +kernel
theorem dX9_held_1 : decode cX9_held 1 = .ok (.iload_n 1, 1) := by decide +kernel
theorem dX9_held_2 : decode cX9_held 2 = .ok (.invokevirtual 150, 3) := by decide +kernel
theorem dX9_held_5 : decode cX9_held 5 = .ok (.ifCond .eq 11, 3) := by decide +kernel
theorem dX9_held_8 : decode cX9_held 8 = .ok (.aload_n 0, 1) := by decide +kernel
theorem dX9_held_9 : decode cX9_held 9 = .ok (.iload_n 1, 1) := by decide +kernel
theorem dX9_held_10 : decode cX9_held 10 = .ok (.invokevirtual 105, 3) := by decide +kernel
theorem dX9_held_13 : decode cX9_held 13 = .ok (.goto 6, 3) := by decide +kernel
theorem dX9_held_16 : decode cX9_held 16 = .ok (.ldc2_w 117, 3) := by decide +kernel
theorem dX9_held_19 : decode cX9_held 19 = .ok (.lreturn, 1) := by decide +kernel
theorem dX9_rise_0 : decode cX9_rise 0 = .ok (.aload_n 0, 1) := by decide +kernel
theorem dX9_rise_1 : decode cX9_rise 1 = .ok (.iload_n 1, 1) := by decide +kernel
theorem dX9_rise_2 : decode cX9_rise 2 = .ok (.invokevirtual 119, 3) := by decide +kernel
theorem dX9_rise_5 : decode cX9_rise 5 = .ok (.ifCond .eq 11, 3) := by decide +kernel
theorem dX9_rise_8 : decode cX9_rise 8 = .ok (.aload_n 0, 1) := by decide +kernel
theorem dX9_rise_9 : decode cX9_rise 9 = .ok (.iload_n 2, 1) := by decide +kernel
theorem dX9_rise_10 : decode cX9_rise 10 = .ok (.invokevirtual 150, 3) := by decide +kernel
theorem dX9_rise_13 : decode cX9_rise 13 = .ok (.ifCond .ne 5, 3) := by decide +kernel
theorem dX9_rise_16 : decode cX9_rise 16 = .ok (.iconst 1, 1) := by decide +kernel
theorem dX9_rise_17 : decode cX9_rise 17 = .ok (.ireturn, 1) := by decide +kernel
theorem dX9_rise_18 : decode cX9_rise 18 = .ok (.aload_n 0, 1) := by decide +kernel
theorem dX9_rise_19 : decode cX9_rise 19 = .ok (.getfield 20, 3) := by decide +kernel
theorem dX9_rise_22 : decode cX9_rise 22 = .ok (.iload_n 1, 1) := by decide +kernel
theorem dX9_rise_23 : decode cX9_rise 23 = .ok (.iaload, 1) := by decide +kernel
theorem dX9_rise_24 : decode cX9_rise 24 = .ok (.ifCond .eq 15, 3) := by decide +kernel
theorem dX9_rise_27 : decode cX9_rise 27 = .ok (.aload_n 0, 1) := by decide +kernel
theorem dX9_rise_28 : decode cX9_rise 28 = .ok (.getfield 20, 3) := by decide +kernel
theorem dX9_rise_31 : decode cX9_rise 31 = .ok (.iload_n 1, 1) := by decide +kernel
theorem dX9_rise_32 : decode cX9_rise 32 = .ok (.iaload, 1) := by decide +kernel
theorem dX9_rise_33 : decode cX9_rise 33 = .ok (.iconst 2, 1) := by decide +kernel
theorem dX9_rise_34 : decode cX9_rise 34 = .ok (.if_icmp .eq 5, 3) := by decide +kernel
theorem dX9_rise_37 : decode cX9_rise 37 = .ok (.iconst 2, 1) := by decide +kernel
theorem dX9_rise_38 : decode cX9_rise 38 = .ok (.ireturn, 1) := by decide +kernel
theorem dX9_rise_39 : decode cX9_rise 39 = .ok (.aload_n 0, 1) := by decide +kernel
theorem dX9_rise_40 : decode cX9_rise 40 = .ok (.getfield 17, 3) := by decide +kernel
theorem dX9_rise_43 : decode cX9_rise 43 = .ok (.iload_n 1, 1) := by decide +kernel
theorem dX9_rise_44 : decode cX9_rise 44 = .ok (.laload, 1) := by decide +kernel
theorem dX9_rise_45 : decode cX9_rise 45 = .ok (.lstore 5, 2) := by decide +kernel
theorem dX9_rise_47 : decode cX9_rise 47 = .ok (.lconst 0, 1) := by decide +kernel
theorem dX9_rise_48 : decode cX9_rise 48 = .ok (.lstore 7, 2) := by decide +kernel
theorem dX9_rise_50 : decode cX9_rise 50 = .ok (.aload_n 0, 1) := by decide +kernel
theorem dX9_rise_51 : decode cX9_rise 51 = .ok (.getfield 20, 3) := by decide +kernel
theorem dX9_rise_54 : decode cX9_rise 54 = .ok (.iload_n 1, 1) := by decide +kernel
theorem dX9_rise_55 : decode cX9_rise 55 = .ok (.iaload, 1) := by decide +kernel
theorem dX9_rise_56 : decode cX9_rise 56 = .ok (.iconst 2, 1) := by decide +kernel
theorem dX9_rise_57 : decode cX9_rise 57 = .ok (.if_icmp .ne 59, 3) := by decide +kernel
theorem dX9_rise_60 : decode cX9_rise 60 = .ok (.aload_n 0, 1) := by decide +kernel
theorem dX9_rise_61 : decode cX9_rise 61 = .ok (.getfield 26, 3) := by decide +kernel
theorem dX9_rise_64 : decode cX9_rise 64 = .ok (.iload_n 1, 1) := by decide +kernel
theorem dX9_rise_65 : decode cX9_rise 65 = .ok (.laload, 1) := by decide +kernel
theorem dX9_rise_66 : decode cX9_rise 66 = .ok (.ldc2_w 194, 3) := by decide +kernel
theorem dX9_rise_69 : decode cX9_rise 69 = .ok (.ldiv, 1) := by decide +kernel
theorem dX9_rise_70 : decode cX9_rise 70 = .ok (.lstore 9, 2) := by decide +kernel
theorem dX9_rise_72 : decode cX9_rise 72 = .ok (.aload_n 0, 1) := by decide +kernel
theorem dX9_rise_73 : decode cX9_rise 73 = .ok (.getfield 26, 3) := by decide +kernel
theorem dX9_rise_76 : decode cX9_rise 76 = .ok (.iload_n 1, 1) := by decide +kernel
theorem dX9_rise_77 : decode cX9_rise 77 = .ok (.laload, 1) := by decide +kernel
theorem dX9_rise_78 : decode cX9_rise 78 = .ok (.lload 9, 2) := by decide +kernel
theorem dX9_rise_80 : decode cX9_rise 80 = .ok (.lconst 1, 1) := by decide +kernel
theorem dX9_rise_81 : decode cX9_rise 81 = .ok (.lcmp, 1) := by decide +kernel
theorem dX9_rise_82 : decode cX9_rise 82 = .ok (.ifCond .ge 7, 3) := by decide +kernel
theorem dX9_rise_85 : decode cX9_rise 85 = .ok (.lconst 1, 1) := by decide +kernel
theorem dX9_rise_86 : decode cX9_rise 86 = .ok (.goto 5, 3) := by decide +kernel
theorem dX9_rise_89 : decode cX9_rise 89 = .ok (.lload 9, 2) := by decide +kernel
theorem dX9_rise_91 : decode cX9_rise 91 = .ok (.ladd, 1) := by decide +kernel
theorem dX9_rise_92 : decode cX9_rise 92 = .ok (.lstore 5, 2) := by decide +kernel
theorem dX9_rise_94 : decode cX9_rise 94 = .ok (.aload_n 0, 1) := by decide +kernel
theorem dX9_rise_95 : decode cX9_rise 95 = .ok (.getfield 23, 3) := by decide +kernel
theorem dX9_rise_98 : decode cX9_rise 98 = .ok (.iload_n 1, 1) := by decide +kernel
theorem dX9_rise_99 : decode cX9_rise 99 = .ok (.iaload, 1) := by decide +kernel
theorem dX9_rise_100 : decode cX9_rise 100 = .ok (.iload_n 2, 1) := by decide +kernel
theorem dX9_rise_101 : decode cX9_rise 101 = .ok (.if_icmp .ne 12, 3) := by decide +kernel
theorem dX9_rise_104 : decode cX9_rise 104 = .ok (.aload_n 0, 1) := by decide +kernel
theorem dX9_rise_105 : decode cX9_rise 105 = .ok (.getfield 26, 3) := by decide +kernel
theorem dX9_rise_108 : decode cX9_rise 108 = .ok (.iload_n 1, 1) := by decide +kernel
theorem dX9_rise_109 : decode cX9_rise 109 = .ok (.laload, 1) := by decide +kernel
theorem dX9_rise_110 : decode cX9_rise 110 = .ok (.goto 4, 3) := by decide +kernel
theorem dX9_rise_113 : decode cX9_rise 113 = .ok (.lconst 0, 1) := by decide +kernel
theorem dX9_rise_114 : decode cX9_rise 114 = .ok (.lstore 7, 2) := by decide +kernel
theorem dX9_rise_116 : decode cX9_rise 116 = .ok (.lload_n 3, 1) := by decide +kernel
theorem dX9_rise_117 : decode cX9_rise 117 = .ok (.lload 5, 2) := by decide +kernel
theorem dX9_rise_119 : decode cX9_rise 119 = .ok (.lcmp, 1) := by decide +kernel
theorem dX9_rise_120 : decode cX9_rise 120 = .ok (.ifCond .ge 5, 3) := by decide +kernel
theorem dX9_rise_123 : decode cX9_rise 123 = .ok (.iconst 3, 1) := by decide +kernel
theorem dX9_rise_124 : decode cX9_rise 124 = .ok (.ireturn, 1) := by decide +kernel
theorem dX9_rise_125 : decode cX9_rise 125 = .ok (.lload_n 3, 1) := by decide +kernel
theorem dX9_rise_126 : decode cX9_rise 126 = .ok (.aload_n 0, 1) := by decide +kernel
theorem dX9_rise_127 : decode cX9_rise 127 = .ok (.iload_n 2, 1) := by decide +kernel
theorem dX9_rise_128 : decode cX9_rise 128 = .ok (.invokevirtual 157, 3) := by decide +kernel
theorem dX9_rise_131 : decode cX9_rise 131 = .ok (.lload 7, 2) := by decide +kernel
theorem dX9_rise_133 : decode cX9_rise 133 = .ok (.ladd, 1) := by decide +kernel
theorem dX9_rise_134 : decode cX9_rise 134 = .ok (.lcmp, 1) := by decide +kernel
theorem dX9_rise_135 : decode cX9_rise 135 = .ok (.ifCond .le 5, 3) := by decide +kernel
theorem dX9_rise_138 : decode cX9_rise 138 = .ok (.iconst 4, 1) := by decide +kernel
theorem dX9_rise_139 : decode cX9_rise 139 = .ok (.ireturn, 1) := by decide +kernel
theorem dX9_rise_140 : decode cX9_rise 140 = .ok (.aload_n 0, 1) := by decide +kernel
theorem dX9_rise_141 : decode cX9_rise 141 = .ok (.getfield 20, 3) := by decide +kernel
theorem dX9_rise_144 : decode cX9_rise 144 = .ok (.iload_n 1, 1) := by decide +kernel
theorem dX9_rise_145 : decode cX9_rise 145 = .ok (.iconst 2, 1) := by decide +kernel
theorem dX9_rise_146 : decode cX9_rise 146 = .ok (.iastore, 1) := by decide +kernel
theorem dX9_rise_147 : decode cX9_rise 147 = .ok (.aload_n 0, 1) := by decide +kernel
theorem dX9_rise_148 : decode cX9_rise 148 = .ok (.getfield 23, 3) := by decide +kernel
theorem dX9_rise_151 : decode cX9_rise 151 = .ok (.iload_n 1, 1) := by decide +kernel
theorem dX9_rise_152 : decode cX9_rise 152 = .ok (.iload_n 2, 1) := by decide +kernel
theorem dX9_rise_153 : decode cX9_rise 153 = .ok (.iastore, 1) := by decide +kernel
theorem dX9_rise_154 : decode cX9_rise 154 = .ok (.aload_n 0, 1) := by decide +kernel
theorem dX9_rise_155 : decode cX9_rise 155 = .ok (.getfield 26, 3) := by decide +kernel
theorem dX9_rise_158 : decode cX9_rise 158 = .ok (.iload_n 1, 1) := by decide +kernel
theorem dX9_rise_159 : decode cX9_rise 159 = .ok (.lload_n 3, 1) := by decide +kernel
theorem dX9_rise_160 : decode cX9_rise 160 = .ok (.lastore, 1) := by decide +kernel
theorem dX9_rise_161 : decode cX9_rise 161 = .ok (.aload_n 0, 1) := by decide +kernel
theorem dX9_rise_162 : decode cX9_rise 162 = .ok (.getfield 39, 3) := by decide +kernel
theorem dX9_rise_165 : decode cX9_rise 165 = .ok (.iload_n 1, 1) := by decide +kernel
theorem dX9_rise_166 : decode cX9_rise 166 = .ok (.aload_n 0, 1) := by decide +kernel
theorem dX9_rise_167 : decode cX9_rise 167 = .ok (.getfield 172, 3) := by decide +kernel
theorem dX9_rise_170 : decode cX9_rise 170 = .ok (.lastore, 1) := by decide +kernel
theorem dX9_rise_171 : decode cX9_rise 171 = .ok (.iconst 0, 1) := by decide +kernel
theorem dX9_rise_172 : decode cX9_rise 172 = .ok (.ireturn, 1) := by decide +kernel
theorem dX9_bid_0 : decode cX9_bid 0 = .ok (.aload_n 0, 1) := by decide +kernel
theorem dX9_bid_1 : decode cX9_bid 1 = .ok (.iload_n 1, 1) := by decide +kernel
theorem dX9_bid_2 : decode cX9_bid 2 = .ok (.invokevirtual 150, 3) := by decide +kernel
theorem dX9_bid_5 : decode cX9_bid 5 = .ok (.ifCond .eq 26, 3) := by decide +kernel
theorem dX9_bid_8 : decode cX9_bid 8 = .ok (.aload_n 0, 1) := by decide +kernel
theorem dX9_bid_9 : decode cX9_bid 9 = .ok (.getfield 196, 3) := by decide +kernel
theorem dX9_bid_12 : decode cX9_bid 12 = .ok (.bipush 18, 2) := by decide +kernel
theorem dX9_bid_14 : decode cX9_bid 14 = .ok (.if_icmp .eq 17, 3) := by decide +kernel
theorem dX9_bid_17 : decode cX9_bid 17 = .ok (.lload_n 2, 1) := by decide +kernel
theorem dX9_bid_18 : decode cX9_bid 18 = .ok (.lconst 0, 1) := by decide +kernel
theorem dX9_bid_19 : decode cX9_bid 19 = .ok (.lcmp, 1) := by decide +kernel
theorem dX9_bid_20 : decode cX9_bid 20 = .ok (.ifCond .lt 11, 3) := by decide +kernel
theorem dX9_bid_23 : decode cX9_bid 23 = .ok (.lload_n 2, 1) := by decide +kernel
theorem dX9_bid_24 : decode cX9_bid 24 = .ok (.ldc2_w 115, 3) := by decide +kernel
theorem dX9_bid_27 : decode cX9_bid 27 = .ok (.lcmp, 1) := by decide +kernel
theorem dX9_bid_28 : decode cX9_bid 28 = .ok (.ifCond .le 5, 3) := by decide +kernel
theorem dX9_bid_31 : decode cX9_bid 31 = .ok (.iconst (-1), 1) := by decide +kernel
theorem dX9_bid_32 : decode cX9_bid 32 = .ok (.ireturn, 1) := by decide +kernel
theorem dX9_bid_33 : decode cX9_bid 33 = .ok (.aload_n 0, 1) := by decide +kernel
theorem dX9_bid_34 : decode cX9_bid 34 = .ok (.getfield 58, 3) := by decide +kernel
theorem dX9_bid_37 : decode cX9_bid 37 = .ok (.aload_n 0, 1) := by decide +kernel
theorem dX9_bid_38 : decode cX9_bid 38 = .ok (.getfield 196, 3) := by decide +kernel
theorem dX9_bid_41 : decode cX9_bid 41 = .ok (.iload_n 1, 1) := by decide +kernel
theorem dX9_bid_42 : decode cX9_bid 42 = .ok (.iastore, 1) := by decide +kernel
theorem dX9_bid_43 : decode cX9_bid 43 = .ok (.aload_n 0, 1) := by decide +kernel
theorem dX9_bid_44 : decode cX9_bid 44 = .ok (.getfield 61, 3) := by decide +kernel
theorem dX9_bid_47 : decode cX9_bid 47 = .ok (.aload_n 0, 1) := by decide +kernel
theorem dX9_bid_48 : decode cX9_bid 48 = .ok (.getfield 196, 3) := by decide +kernel
theorem dX9_bid_51 : decode cX9_bid 51 = .ok (.lload_n 2, 1) := by decide +kernel
theorem dX9_bid_52 : decode cX9_bid 52 = .ok (.lastore, 1) := by decide +kernel
theorem dX9_bid_53 : decode cX9_bid 53 = .ok (.aload_n 0, 1) := by decide +kernel
theorem dX9_bid_54 : decode cX9_bid 54 = .ok (.getfield 64, 3) := by decide +kernel
theorem dX9_bid_57 : decode cX9_bid 57 = .ok (.aload_n 0, 1) := by decide +kernel
theorem dX9_bid_58 : decode cX9_bid 58 = .ok (.getfield 196, 3) := by decide +kernel
theorem dX9_bid_61 : decode cX9_bid 61 = .ok (.lconst 0, 1) := by decide +kernel
theorem dX9_bid_62 : decode cX9_bid 62 = .ok (.lastore, 1) := by decide +kernel
theorem dX9_bid_63 : decode cX9_bid 63 = .ok (.aload_n 0, 1) := by decide +kernel
theorem dX9_bid_64 : decode cX9_bid 64 = .ok (.dup, 1) := by decide +kernel
theorem dX9_bid_65 : decode cX9_bid 65 = .ok (.getfield 196, 3) := by decide +kernel
theorem dX9_bid_68 : decode cX9_bid 68 = .ok (.iconst 1, 1) := by decide +kernel
theorem dX9_bid_69 : decode cX9_bid 69 = .ok (.iadd, 1) := by decide +kernel
theorem dX9_bid_70 : decode cX9_bid 70 = .ok (.putfield 196, 3) := by decide +kernel
theorem dX9_bid_73 : decode cX9_bid 73 = .ok (.aload_n 0, 1) := by decide +kernel
theorem dX9_bid_74 : decode cX9_bid 74 = .ok (.getfield 196, 3) := by decide +kernel
theorem dX9_bid_77 : decode cX9_bid 77 = .ok (.iconst 1, 1) := by decide +kernel
theorem dX9_bid_78 : decode cX9_bid 78 = .ok (.isub, 1) := by decide +kernel
theorem dX9_bid_79 : decode cX9_bid 79 = .ok (.ireturn, 1) := by decide +kernel
theorem dX9_on_0 : decode cX9_on 0 = .ok (.iload_n 1, 1) := by decide +kernel
theorem dX9_on_1 : decode cX9_on 1 = .ok (.ifCond .lt 43, 3) := by decide +kernel
theorem dX9_on_4 : decode cX9_on 4 = .ok (.iload_n 1, 1) := by decide +kernel
theorem dX9_on_5 : decode cX9_on 5 = .ok (.aload_n 0, 1) := by decide +kernel
theorem dX9_on_6 : decode cX9_on 6 = .ok (.getfield 196, 3) := by decide +kernel
theorem dX9_on_9 : decode cX9_on 9 = .ok (.if_icmp .ge 35, 3) := by decide +kernel
theorem dX9_on_12 : decode cX9_on 12 = .ok (.aload_n 0, 1) := by decide +kernel
theorem dX9_on_13 : decode cX9_on 13 = .ok (.iload_n 2, 1) := by decide +kernel
theorem dX9_on_14 : decode cX9_on 14 = .ok (.invokevirtual 119, 3) := by decide +kernel
theorem dX9_on_17 : decode cX9_on 17 = .ok (.ifCond .eq 27, 3) := by decide +kernel
theorem dX9_on_20 : decode cX9_on 20 = .ok (.aload_n 0, 1) := by decide +kernel
theorem dX9_on_21 : decode cX9_on 21 = .ok (.getfield 64, 3) := by decide +kernel
theorem dX9_on_24 : decode cX9_on 24 = .ok (.iload_n 1, 1) := by decide +kernel
theorem dX9_on_25 : decode cX9_on 25 = .ok (.laload, 1) := by decide +kernel
theorem dX9_on_26 : decode cX9_on 26 = .ok (.iload_n 2, 1) := by decide +kernel
theorem dX9_on_27 : decode cX9_on 27 = .ok (.lshr, 1) := by decide +kernel
theorem dX9_on_28 : decode cX9_on 28 = .ok (.lconst 1, 1) := by decide +kernel
theorem dX9_on_29 : decode cX9_on 29 = .ok (.land, 1) := by decide +kernel
theorem dX9_on_30 : decode cX9_on 30 = .ok (.lconst 1, 1) := by decide +kernel
theorem dX9_on_31 : decode cX9_on 31 = .ok (.lcmp, 1) := by decide +kernel
theorem dX9_on_32 : decode cX9_on 32 = .ok (.ifCond .eq 12, 3) := by decide +kernel
theorem dX9_on_35 : decode cX9_on 35 = .ok (.aload_n 0, 1) := by decide +kernel
theorem dX9_on_36 : decode cX9_on 36 = .ok (.getfield 20, 3) := by decide +kernel
theorem dX9_on_39 : decode cX9_on 39 = .ok (.iload_n 2, 1) := by decide +kernel
theorem dX9_on_40 : decode cX9_on 40 = .ok (.iaload, 1) := by decide +kernel
theorem dX9_on_41 : decode cX9_on 41 = .ok (.ifCond .eq 5, 3) := by decide +kernel
theorem dX9_on_44 : decode cX9_on 44 = .ok (.iconst 0, 1) := by decide +kernel
theorem dX9_on_45 : decode cX9_on 45 = .ok (.ireturn, 1) := by decide +kernel
theorem dX9_on_46 : decode cX9_on 46 = .ok (.aload_n 0, 1) := by decide +kernel
theorem dX9_on_47 : decode cX9_on 47 = .ok (.getfield 64, 3) := by decide +kernel
theorem dX9_on_50 : decode cX9_on 50 = .ok (.iload_n 1, 1) := by decide +kernel
theorem dX9_on_51 : decode cX9_on 51 = .ok (.aload_n 0, 1) := by decide +kernel
theorem dX9_on_52 : decode cX9_on 52 = .ok (.getfield 64, 3) := by decide +kernel
theorem dX9_on_55 : decode cX9_on 55 = .ok (.iload_n 1, 1) := by decide +kernel
theorem dX9_on_56 : decode cX9_on 56 = .ok (.laload, 1) := by decide +kernel
theorem dX9_on_57 : decode cX9_on 57 = .ok (.lconst 1, 1) := by decide +kernel
theorem dX9_on_58 : decode cX9_on 58 = .ok (.iload_n 2, 1) := by decide +kernel
theorem dX9_on_59 : decode cX9_on 59 = .ok (.lshl, 1) := by decide +kernel
theorem dX9_on_60 : decode cX9_on 60 = .ok (.lor, 1) := by decide +kernel
theorem dX9_on_61 : decode cX9_on 61 = .ok (.lastore, 1) := by decide +kernel
theorem dX9_on_62 : decode cX9_on 62 = .ok (.iconst 1, 1) := by decide +kernel
theorem dX9_on_63 : decode cX9_on 63 = .ok (.ireturn, 1) := by decide +kernel
theorem dX9_isGood_0 : decode cX9_isGood 0 = .ok (.aload_n 0, 1) := by decide +kernel
theorem dX9_isGood_1 : decode cX9_isGood 1 = .ok (.getfield 64, 3) := by decide +kernel
theorem dX9_isGood_4 : decode cX9_isGood 4 = .ok (.iload_n 1, 1) := by decide +kernel
theorem dX9_isGood_5 : decode cX9_isGood 5 = .ok (.laload, 1) := by decide +kernel
theorem dX9_isGood_6 : decode cX9_isGood 6 = .ok (.lconst 0, 1) := by decide +kernel
theorem dX9_isGood_7 : decode cX9_isGood 7 = .ok (.lcmp, 1) := by decide +kernel
theorem dX9_isGood_8 : decode cX9_isGood 8 = .ok (.ifCond .eq 7, 3) := by decide +kernel
theorem dX9_isGood_11 : decode cX9_isGood 11 = .ok (.iconst 1, 1) := by decide +kernel
theorem dX9_isGood_12 : decode cX9_isGood 12 = .ok (.goto 4, 3) := by decide +kernel
theorem dX9_isGood_15 : decode cX9_isGood 15 = .ok (.iconst 0, 1) := by decide +kernel
theorem dX9_isGood_16 : decode cX9_isGood 16 = .ok (.istore_n 2, 1) := by decide +kernel
theorem dX9_isGood_17 : decode cX9_isGood 17 = .ok (.lconst 0, 1) := by decide +kernel
theorem dX9_isGood_18 : decode cX9_isGood 18 = .ok (.lstore_n 3, 1) := by decide +kernel
theorem dX9_isGood_19 : decode cX9_isGood 19 = .ok (.iconst 0, 1) := by decide +kernel
theorem dX9_isGood_20 : decode cX9_isGood 20 = .ok (.istore 5, 2) := by decide +kernel
theorem dX9_isGood_22 : decode cX9_isGood 22 = .ok (.iload 5, 2) := by decide +kernel
theorem dX9_isGood_24 : decode cX9_isGood 24 = .ok (.aload_n 0, 1) := by decide +kernel
theorem dX9_isGood_25 : decode cX9_isGood 25 = .ok (.getfield 82, 3) := by decide +kernel
theorem dX9_isGood_28 : decode cX9_isGood 28 = .ok (.if_icmp .ge 55, 3) := by decide +kernel
theorem dX9_isGood_31 : decode cX9_isGood 31 = .ok (.aload_n 0, 1) := by decide +kernel
theorem dX9_isGood_32 : decode cX9_isGood 32 = .ok (.getfield 64, 3) := by decide +kernel
theorem dX9_isGood_35 : decode cX9_isGood 35 = .ok (.iload_n 1, 1) := by decide +kernel
theorem dX9_isGood_36 : decode cX9_isGood 36 = .ok (.laload, 1) := by decide +kernel
theorem dX9_isGood_37 : decode cX9_isGood 37 = .ok (.iload 5, 2) := by decide +kernel
theorem dX9_isGood_39 : decode cX9_isGood 39 = .ok (.lshr, 1) := by decide +kernel
theorem dX9_isGood_40 : decode cX9_isGood 40 = .ok (.lconst 1, 1) := by decide +kernel
theorem dX9_isGood_41 : decode cX9_isGood 41 = .ok (.land, 1) := by decide +kernel
theorem dX9_isGood_42 : decode cX9_isGood 42 = .ok (.lconst 1, 1) := by decide +kernel
theorem dX9_isGood_43 : decode cX9_isGood 43 = .ok (.lcmp, 1) := by decide +kernel
theorem dX9_isGood_44 : decode cX9_isGood 44 = .ok (.ifCond .ne 33, 3) := by decide +kernel
theorem dX9_isGood_47 : decode cX9_isGood 47 = .ok (.iload_n 2, 1) := by decide +kernel
theorem dX9_isGood_48 : decode cX9_isGood 48 = .ok (.ifCond .eq 17, 3) := by decide +kernel
theorem dX9_isGood_51 : decode cX9_isGood 51 = .ok (.aload_n 0, 1) := by decide +kernel
theorem dX9_isGood_52 : decode cX9_isGood 52 = .ok (.getfield 20, 3) := by decide +kernel
theorem dX9_isGood_55 : decode cX9_isGood 55 = .ok (.iload 5, 2) := by decide +kernel
theorem dX9_isGood_57 : decode cX9_isGood 57 = .ok (.iaload, 1) := by decide +kernel
theorem dX9_isGood_58 : decode cX9_isGood 58 = .ok (.ifCond .ne 7, 3) := by decide +kernel
theorem dX9_isGood_61 : decode cX9_isGood 61 = .ok (.iconst 1, 1) := by decide +kernel
theorem dX9_isGood_62 : decode cX9_isGood 62 = .ok (.goto 4, 3) := by decide +kernel
theorem dX9_isGood_65 : decode cX9_isGood 65 = .ok (.iconst 0, 1) := by decide +kernel
theorem dX9_isGood_66 : decode cX9_isGood 66 = .ok (.istore_n 2, 1) := by decide +kernel
theorem dX9_isGood_67 : decode cX9_isGood 67 = .ok (.lload_n 3, 1) := by decide +kernel
theorem dX9_isGood_68 : decode cX9_isGood 68 = .ok (.aload_n 0, 1) := by decide +kernel
theorem dX9_isGood_69 : decode cX9_isGood 69 = .ok (.getfield 17, 3) := by decide +kernel
theorem dX9_isGood_72 : decode cX9_isGood 72 = .ok (.iload 5, 2) := by decide +kernel
theorem dX9_isGood_74 : decode cX9_isGood 74 = .ok (.laload, 1) := by decide +kernel
theorem dX9_isGood_75 : decode cX9_isGood 75 = .ok (.ladd, 1) := by decide +kernel
theorem dX9_isGood_76 : decode cX9_isGood 76 = .ok (.lstore_n 3, 1) := by decide +kernel
theorem dX9_isGood_77 : decode cX9_isGood 77 = .ok (.iinc 5 1, 3) := by decide +kernel
theorem dX9_isGood_80 : decode cX9_isGood 80 = .ok (.goto (-58), 3) := by decide +kernel
theorem dX9_isGood_83 : decode cX9_isGood 83 = .ok (.iload_n 2, 1) := by decide +kernel
theorem dX9_isGood_84 : decode cX9_isGood 84 = .ok (.ifCond .eq 18, 3) := by decide +kernel
theorem dX9_isGood_87 : decode cX9_isGood 87 = .ok (.aload_n 0, 1) := by decide +kernel
theorem dX9_isGood_88 : decode cX9_isGood 88 = .ok (.getfield 61, 3) := by decide +kernel
theorem dX9_isGood_91 : decode cX9_isGood 91 = .ok (.iload_n 1, 1) := by decide +kernel
theorem dX9_isGood_92 : decode cX9_isGood 92 = .ok (.laload, 1) := by decide +kernel
theorem dX9_isGood_93 : decode cX9_isGood 93 = .ok (.lload_n 3, 1) := by decide +kernel
theorem dX9_isGood_94 : decode cX9_isGood 94 = .ok (.lcmp, 1) := by decide +kernel
theorem dX9_isGood_95 : decode cX9_isGood 95 = .ok (.ifCond .lt 7, 3) := by decide +kernel
theorem dX9_isGood_98 : decode cX9_isGood 98 = .ok (.iconst 1, 1) := by decide +kernel
theorem dX9_isGood_99 : decode cX9_isGood 99 = .ok (.goto 4, 3) := by decide +kernel
theorem dX9_isGood_102 : decode cX9_isGood 102 = .ok (.iconst 0, 1) := by decide +kernel
theorem dX9_isGood_103 : decode cX9_isGood 103 = .ok (.ireturn, 1) := by decide +kernel
theorem dX9_sumOf_0 : decode cX9_sumOf 0 = .ok (.lconst 0, 1) := by decide +kernel
theorem dX9_sumOf_1 : decode cX9_sumOf 1 = .ok (.lstore_n 2, 1) := by decide +kernel
theorem dX9_sumOf_2 : decode cX9_sumOf 2 = .ok (.lconst 0, 1) := by decide +kernel
theorem dX9_sumOf_3 : decode cX9_sumOf 3 = .ok (.lstore 4, 2) := by decide +kernel
theorem dX9_sumOf_5 : decode cX9_sumOf 5 = .ok (.iconst 0, 1) := by decide +kernel
theorem dX9_sumOf_6 : decode cX9_sumOf 6 = .ok (.istore 6, 2) := by decide +kernel
theorem dX9_sumOf_8 : decode cX9_sumOf 8 = .ok (.iload 6, 2) := by decide +kernel
theorem dX9_sumOf_10 : decode cX9_sumOf 10 = .ok (.aload_n 0, 1) := by decide +kernel
theorem dX9_sumOf_11 : decode cX9_sumOf 11 = .ok (.getfield 196, 3) := by decide +kernel
theorem dX9_sumOf_14 : decode cX9_sumOf 14 = .ok (.if_icmp .ge 59, 3) := by decide +kernel
theorem dX9_sumOf_17 : decode cX9_sumOf 17 = .ok (.iload_n 1, 1) := by decide +kernel
theorem dX9_sumOf_18 : decode cX9_sumOf 18 = .ok (.iload 6, 2) := by decide +kernel
theorem dX9_sumOf_20 : decode cX9_sumOf 20 = .ok (.ishr, 1) := by decide +kernel
theorem dX9_sumOf_21 : decode cX9_sumOf 21 = .ok (.iconst 1, 1) := by decide +kernel
theorem dX9_sumOf_22 : decode cX9_sumOf 22 = .ok (.iand, 1) := by decide +kernel
theorem dX9_sumOf_23 : decode cX9_sumOf 23 = .ok (.iconst 1, 1) := by decide +kernel
theorem dX9_sumOf_24 : decode cX9_sumOf 24 = .ok (.if_icmp .ne 43, 3) := by decide +kernel
theorem dX9_sumOf_27 : decode cX9_sumOf 27 = .ok (.lload_n 2, 1) := by decide +kernel
theorem dX9_sumOf_28 : decode cX9_sumOf 28 = .ok (.aload_n 0, 1) := by decide +kernel
theorem dX9_sumOf_29 : decode cX9_sumOf 29 = .ok (.getfield 64, 3) := by decide +kernel
theorem dX9_sumOf_32 : decode cX9_sumOf 32 = .ok (.iload 6, 2) := by decide +kernel
theorem dX9_sumOf_34 : decode cX9_sumOf 34 = .ok (.laload, 1) := by decide +kernel
theorem dX9_sumOf_35 : decode cX9_sumOf 35 = .ok (.land, 1) := by decide +kernel
theorem dX9_sumOf_36 : decode cX9_sumOf 36 = .ok (.lconst 0, 1) := by decide +kernel
theorem dX9_sumOf_37 : decode cX9_sumOf 37 = .ok (.lcmp, 1) := by decide +kernel
theorem dX9_sumOf_38 : decode cX9_sumOf 38 = .ok (.ifCond .eq 7, 3) := by decide +kernel
theorem dX9_sumOf_41 : decode cX9_sumOf 41 = .ok (.ldc2_w 117, 3) := by decide +kernel
theorem dX9_sumOf_44 : decode cX9_sumOf 44 = .ok (.lreturn, 1) := by decide +kernel
theorem dX9_sumOf_45 : decode cX9_sumOf 45 = .ok (.lload_n 2, 1) := by decide +kernel
theorem dX9_sumOf_46 : decode cX9_sumOf 46 = .ok (.aload_n 0, 1) := by decide +kernel
theorem dX9_sumOf_47 : decode cX9_sumOf 47 = .ok (.getfield 64, 3) := by decide +kernel
theorem dX9_sumOf_50 : decode cX9_sumOf 50 = .ok (.iload 6, 2) := by decide +kernel
theorem dX9_sumOf_52 : decode cX9_sumOf 52 = .ok (.laload, 1) := by decide +kernel
theorem dX9_sumOf_53 : decode cX9_sumOf 53 = .ok (.lor, 1) := by decide +kernel
theorem dX9_sumOf_54 : decode cX9_sumOf 54 = .ok (.lstore_n 2, 1) := by decide +kernel
theorem dX9_sumOf_55 : decode cX9_sumOf 55 = .ok (.lload 4, 2) := by decide +kernel
theorem dX9_sumOf_57 : decode cX9_sumOf 57 = .ok (.aload_n 0, 1) := by decide +kernel
theorem dX9_sumOf_58 : decode cX9_sumOf 58 = .ok (.getfield 61, 3) := by decide +kernel
theorem dX9_sumOf_61 : decode cX9_sumOf 61 = .ok (.iload 6, 2) := by decide +kernel
theorem dX9_sumOf_63 : decode cX9_sumOf 63 = .ok (.laload, 1) := by decide +kernel
theorem dX9_sumOf_64 : decode cX9_sumOf 64 = .ok (.ladd, 1) := by decide +kernel
theorem dX9_sumOf_65 : decode cX9_sumOf 65 = .ok (.lstore 4, 2) := by decide +kernel
theorem dX9_sumOf_67 : decode cX9_sumOf 67 = .ok (.iinc 6 1, 3) := by decide +kernel
theorem dX9_sumOf_70 : decode cX9_sumOf 70 = .ok (.goto (-62), 3) := by decide +kernel
theorem dX9_sumOf_73 : decode cX9_sumOf 73 = .ok (.iconst 0, 1) := by decide +kernel
theorem dX9_sumOf_74 : decode cX9_sumOf 74 = .ok (.istore 6, 2) := by decide +kernel
theorem dX9_sumOf_76 : decode cX9_sumOf 76 = .ok (.iload 6, 2) := by decide +kernel
theorem dX9_sumOf_78 : decode cX9_sumOf 78 = .ok (.aload_n 0, 1) := by decide +kernel
theorem dX9_sumOf_79 : decode cX9_sumOf 79 = .ok (.getfield 85, 3) := by decide +kernel
theorem dX9_sumOf_82 : decode cX9_sumOf 82 = .ok (.if_icmp .ge 91, 3) := by decide +kernel
theorem dX9_sumOf_85 : decode cX9_sumOf 85 = .ok (.lconst 0, 1) := by decide +kernel
theorem dX9_sumOf_86 : decode cX9_sumOf 86 = .ok (.lstore 7, 2) := by decide +kernel
theorem dX9_sumOf_88 : decode cX9_sumOf 88 = .ok (.iconst 0, 1) := by decide +kernel
theorem dX9_sumOf_89 : decode cX9_sumOf 89 = .ok (.istore 9, 2) := by decide +kernel
theorem dX9_sumOf_91 : decode cX9_sumOf 91 = .ok (.iload 9, 2) := by decide +kernel
theorem dX9_sumOf_93 : decode cX9_sumOf 93 = .ok (.aload_n 0, 1) := by decide +kernel
theorem dX9_sumOf_94 : decode cX9_sumOf 94 = .ok (.getfield 196, 3) := by decide +kernel
theorem dX9_sumOf_97 : decode cX9_sumOf 97 = .ok (.if_icmp .ge 47, 3) := by decide +kernel
theorem dX9_sumOf_100 : decode cX9_sumOf 100 = .ok (.lload 7, 2) := by decide +kernel
theorem dX9_sumOf_102 : decode cX9_sumOf 102 = .ok (.iload_n 1, 1) := by decide +kernel
theorem dX9_sumOf_103 : decode cX9_sumOf 103 = .ok (.iload 9, 2) := by decide +kernel
theorem dX9_sumOf_105 : decode cX9_sumOf 105 = .ok (.ishr, 1) := by decide +kernel
theorem dX9_sumOf_106 : decode cX9_sumOf 106 = .ok (.iconst 1, 1) := by decide +kernel
theorem dX9_sumOf_107 : decode cX9_sumOf 107 = .ok (.iand, 1) := by decide +kernel
theorem dX9_sumOf_108 : decode cX9_sumOf 108 = .ok (.iconst 1, 1) := by decide +kernel
theorem dX9_sumOf_109 : decode cX9_sumOf 109 = .ok (.if_icmp .ne 25, 3) := by decide +kernel
theorem dX9_sumOf_112 : decode cX9_sumOf 112 = .ok (.aload_n 0, 1) := by decide +kernel
theorem dX9_sumOf_113 : decode cX9_sumOf 113 = .ok (.getfield 58, 3) := by decide +kernel
theorem dX9_sumOf_116 : decode cX9_sumOf 116 = .ok (.iload 9, 2) := by decide +kernel
theorem dX9_sumOf_118 : decode cX9_sumOf 118 = .ok (.iaload, 1) := by decide +kernel
theorem dX9_sumOf_119 : decode cX9_sumOf 119 = .ok (.iload 6, 2) := by decide +kernel
theorem dX9_sumOf_121 : decode cX9_sumOf 121 = .ok (.if_icmp .ne 13, 3) := by decide +kernel
theorem dX9_sumOf_124 : decode cX9_sumOf 124 = .ok (.aload_n 0, 1) := by decide +kernel
theorem dX9_sumOf_125 : decode cX9_sumOf 125 = .ok (.getfield 61, 3) := by decide +kernel
theorem dX9_sumOf_128 : decode cX9_sumOf 128 = .ok (.iload 9, 2) := by decide +kernel
theorem dX9_sumOf_130 : decode cX9_sumOf 130 = .ok (.laload, 1) := by decide +kernel
theorem dX9_sumOf_131 : decode cX9_sumOf 131 = .ok (.goto 4, 3) := by decide +kernel
theorem dX9_sumOf_134 : decode cX9_sumOf 134 = .ok (.lconst 0, 1) := by decide +kernel
theorem dX9_sumOf_135 : decode cX9_sumOf 135 = .ok (.ladd, 1) := by decide +kernel
theorem dX9_sumOf_136 : decode cX9_sumOf 136 = .ok (.lstore 7, 2) := by decide +kernel
theorem dX9_sumOf_138 : decode cX9_sumOf 138 = .ok (.iinc 9 1, 3) := by decide +kernel
theorem dX9_sumOf_141 : decode cX9_sumOf 141 = .ok (.goto (-50), 3) := by decide +kernel
theorem dX9_sumOf_144 : decode cX9_sumOf 144 = .ok (.lload 7, 2) := by decide +kernel
theorem dX9_sumOf_146 : decode cX9_sumOf 146 = .ok (.lconst 0, 1) := by decide +kernel
theorem dX9_sumOf_147 : decode cX9_sumOf 147 = .ok (.lcmp, 1) := by decide +kernel
theorem dX9_sumOf_148 : decode cX9_sumOf 148 = .ok (.ifCond .le 19, 3) := by decide +kernel
theorem dX9_sumOf_151 : decode cX9_sumOf 151 = .ok (.lload 7, 2) := by decide +kernel
theorem dX9_sumOf_153 : decode cX9_sumOf 153 = .ok (.aload_n 0, 1) := by decide +kernel
theorem dX9_sumOf_154 : decode cX9_sumOf 154 = .ok (.iload 6, 2) := by decide +kernel
theorem dX9_sumOf_156 : decode cX9_sumOf 156 = .ok (.invokevirtual 157, 3) := by decide +kernel
theorem dX9_sumOf_159 : decode cX9_sumOf 159 = .ok (.lcmp, 1) := by decide +kernel
theorem dX9_sumOf_160 : decode cX9_sumOf 160 = .ok (.ifCond .le 7, 3) := by decide +kernel
theorem dX9_sumOf_163 : decode cX9_sumOf 163 = .ok (.ldc2_w 117, 3) := by decide +kernel
theorem dX9_sumOf_166 : decode cX9_sumOf 166 = .ok (.lreturn, 1) := by decide +kernel
theorem dX9_sumOf_167 : decode cX9_sumOf 167 = .ok (.iinc 6 1, 3) := by decide +kernel
theorem dX9_sumOf_170 : decode cX9_sumOf 170 = .ok (.goto (-94), 3) := by decide +kernel
theorem dX9_sumOf_173 : decode cX9_sumOf 173 = .ok (.lload 4, 2) := by decide +kernel
theorem dX9_sumOf_175 : decode cX9_sumOf 175 = .ok (.lreturn, 1) := by decide +kernel
theorem dX9_size_0 : decode cX9_size 0 = .ok (.iconst 0, 1) := by decide +kernel
theorem dX9_size_1 : decode cX9_size 1 = .ok (.istore_n 1, 1) := by decide +kernel
theorem dX9_size_2 : decode cX9_size 2 = .ok (.iconst 0, 1) := by decide +kernel
theorem dX9_size_3 : decode cX9_size 3 = .ok (.istore_n 2, 1) := by decide +kernel
theorem dX9_size_4 : decode cX9_size 4 = .ok (.iload_n 2, 1) := by decide +kernel
theorem dX9_size_5 : decode cX9_size 5 = .ok (.bipush 18, 2) := by decide +kernel
theorem dX9_size_7 : decode cX9_size 7 = .ok (.if_icmp .ge 17, 3) := by decide +kernel
theorem dX9_size_10 : decode cX9_size 10 = .ok (.iload_n 1, 1) := by decide +kernel
theorem dX9_size_11 : decode cX9_size 11 = .ok (.iload_n 0, 1) := by decide +kernel
theorem dX9_size_12 : decode cX9_size 12 = .ok (.iload_n 2, 1) := by decide +kernel
theorem dX9_size_13 : decode cX9_size 13 = .ok (.ishr, 1) := by decide +kernel
theorem dX9_size_14 : decode cX9_size 14 = .ok (.iconst 1, 1) := by decide +kernel
theorem dX9_size_15 : decode cX9_size 15 = .ok (.iand, 1) := by decide +kernel
theorem dX9_size_16 : decode cX9_size 16 = .ok (.iadd, 1) := by decide +kernel
theorem dX9_size_17 : decode cX9_size 17 = .ok (.istore_n 1, 1) := by decide +kernel
theorem dX9_size_18 : decode cX9_size 18 = .ok (.iinc 2 1, 3) := by decide +kernel
theorem dX9_size_21 : decode cX9_size 21 = .ok (.goto (-17), 3) := by decide +kernel
theorem dX9_size_24 : decode cX9_size 24 = .ok (.iload_n 1, 1) := by decide +kernel
theorem dX9_size_25 : decode cX9_size 25 = .ok (.ireturn, 1) := by decide +kernel
theorem dX9_isFirst_0 : decode cX9_isFirst 0 = .ok (.iload_n 0, 1) := by decide +kernel
theorem dX9_isFirst_1 : decode cX9_isFirst 1 = .ok (.iload_n 1, 1) := by decide +kernel
theorem dX9_isFirst_2 : decode cX9_isFirst 2 = .ok (.ixor, 1) := by decide +kernel
theorem dX9_isFirst_3 : decode cX9_isFirst 3 = .ok (.istore_n 2, 1) := by decide +kernel
theorem dX9_isFirst_4 : decode cX9_isFirst 4 = .ok (.iload_n 2, 1) := by decide +kernel
theorem dX9_isFirst_5 : decode cX9_isFirst 5 = .ok (.ifCond .eq 16, 3) := by decide +kernel
theorem dX9_isFirst_8 : decode cX9_isFirst 8 = .ok (.iload_n 0, 1) := by decide +kernel
theorem dX9_isFirst_9 : decode cX9_isFirst 9 = .ok (.iload_n 2, 1) := by decide +kernel
theorem dX9_isFirst_10 : decode cX9_isFirst 10 = .ok (.iand, 1) := by decide +kernel
theorem dX9_isFirst_11 : decode cX9_isFirst 11 = .ok (.iload_n 2, 1) := by decide +kernel
theorem dX9_isFirst_12 : decode cX9_isFirst 12 = .ok (.ineg, 1) := by decide +kernel
theorem dX9_isFirst_13 : decode cX9_isFirst 13 = .ok (.iand, 1) := by decide +kernel
theorem dX9_isFirst_14 : decode cX9_isFirst 14 = .ok (.ifCond .eq 7, 3) := by decide +kernel
theorem dX9_isFirst_17 : decode cX9_isFirst 17 = .ok (.iconst 1, 1) := by decide +kernel
theorem dX9_isFirst_18 : decode cX9_isFirst 18 = .ok (.goto 4, 3) := by decide +kernel
theorem dX9_isFirst_21 : decode cX9_isFirst 21 = .ok (.iconst 0, 1) := by decide +kernel
theorem dX9_isFirst_22 : decode cX9_isFirst 22 = .ok (.ireturn, 1) := by decide +kernel
theorem dX9_sets_0 : decode cX9_sets 0 = .ok (.aload_n 0, 1) := by decide +kernel
theorem dX9_sets_1 : decode cX9_sets 1 = .ok (.iconst 0, 1) := by decide +kernel
theorem dX9_sets_2 : decode cX9_sets 2 = .ok (.putfield 199, 3) := by decide +kernel
theorem dX9_sets_5 : decode cX9_sets 5 = .ok (.aload_n 0, 1) := by decide +kernel
theorem dX9_sets_6 : decode cX9_sets 6 = .ok (.getfield 196, 3) := by decide +kernel
theorem dX9_sets_9 : decode cX9_sets 9 = .ok (.ifCond .eq 14, 3) := by decide +kernel
theorem dX9_sets_12 : decode cX9_sets 12 = .ok (.lconst 1, 1) := by decide +kernel
theorem dX9_sets_13 : decode cX9_sets 13 = .ok (.aload_n 0, 1) := by decide +kernel
theorem dX9_sets_14 : decode cX9_sets 14 = .ok (.getfield 196, 3) := by decide +kernel
theorem dX9_sets_17 : decode cX9_sets 17 = .ok (.lshl, 1) := by decide +kernel
theorem dX9_sets_18 : decode cX9_sets 18 = .ok (.lload_n 1, 1) := by decide +kernel
theorem dX9_sets_19 : decode cX9_sets 19 = .ok (.lcmp, 1) := by decide +kernel
theorem dX9_sets_20 : decode cX9_sets 20 = .ok (.ifCond .le 5, 3) := by decide +kernel
theorem dX9_sets_23 : decode cX9_sets 23 = .ok (.iconst (-1), 1) := by decide +kernel
theorem dX9_sets_24 : decode cX9_sets 24 = .ok (.ireturn, 1) := by decide +kernel
theorem dX9_sets_25 : decode cX9_sets 25 = .ok (.iconst 0, 1) := by decide +kernel
theorem dX9_sets_26 : decode cX9_sets 26 = .ok (.istore_n 3, 1) := by decide +kernel
theorem dX9_sets_27 : decode cX9_sets 27 = .ok (.iconst 0, 1) := by decide +kernel
theorem dX9_sets_28 : decode cX9_sets 28 = .ok (.istore 4, 2) := by decide +kernel
theorem dX9_sets_30 : decode cX9_sets 30 = .ok (.iload 4, 2) := by decide +kernel
theorem dX9_sets_32 : decode cX9_sets 32 = .ok (.aload_n 0, 1) := by decide +kernel
theorem dX9_sets_33 : decode cX9_sets 33 = .ok (.getfield 196, 3) := by decide +kernel
theorem dX9_sets_36 : decode cX9_sets 36 = .ok (.if_icmp .ge 29, 3) := by decide +kernel
theorem dX9_sets_39 : decode cX9_sets 39 = .ok (.aload_n 0, 1) := by decide +kernel
theorem dX9_sets_40 : decode cX9_sets 40 = .ok (.iload 4, 2) := by decide +kernel
theorem dX9_sets_42 : decode cX9_sets 42 = .ok (.invokevirtual 202, 3) := by decide +kernel
theorem dX9_sets_45 : decode cX9_sets 45 = .ok (.ifCond .eq 12, 3) := by decide +kernel
theorem dX9_sets_48 : decode cX9_sets 48 = .ok (.iload_n 3, 1) := by decide +kernel
theorem dX9_sets_49 : decode cX9_sets 49 = .ok (.iconst 1, 1) := by decide +kernel
theorem dX9_sets_50 : decode cX9_sets 50 = .ok (.iload 4, 2) := by decide +kernel
theorem dX9_sets_52 : decode cX9_sets 52 = .ok (.ishl, 1) := by decide +kernel
theorem dX9_sets_53 : decode cX9_sets 53 = .ok (.ior, 1) := by decide +kernel
theorem dX9_sets_54 : decode cX9_sets 54 = .ok (.goto 4, 3) := by decide +kernel
theorem dX9_sets_57 : decode cX9_sets 57 = .ok (.iload_n 3, 1) := by decide +kernel
theorem dX9_sets_58 : decode cX9_sets 58 = .ok (.istore_n 3, 1) := by decide +kernel
theorem dX9_sets_59 : decode cX9_sets 59 = .ok (.iinc 4 1, 3) := by decide +kernel
theorem dX9_sets_62 : decode cX9_sets 62 = .ok (.goto (-32), 3) := by decide +kernel
theorem dX9_sets_65 : decode cX9_sets 65 = .ok (.iconst 0, 1) := by decide +kernel
theorem dX9_sets_66 : decode cX9_sets 66 = .ok (.istore 4, 2) := by decide +kernel
theorem dX9_sets_68 : decode cX9_sets 68 = .ok (.lconst 0, 1) := by decide +kernel
theorem dX9_sets_69 : decode cX9_sets 69 = .ok (.lstore 5, 2) := by decide +kernel
theorem dX9_sets_71 : decode cX9_sets 71 = .ok (.iconst 1, 1) := by decide +kernel
theorem dX9_sets_72 : decode cX9_sets 72 = .ok (.istore 7, 2) := by decide +kernel
theorem dX9_sets_74 : decode cX9_sets 74 = .ok (.iload 7, 2) := by decide +kernel
theorem dX9_sets_76 : decode cX9_sets 76 = .ok (.iconst 1, 1) := by decide +kernel
theorem dX9_sets_77 : decode cX9_sets 77 = .ok (.aload_n 0, 1) := by decide +kernel
theorem dX9_sets_78 : decode cX9_sets 78 = .ok (.getfield 196, 3) := by decide +kernel
theorem dX9_sets_81 : decode cX9_sets 81 = .ok (.ishl, 1) := by decide +kernel
theorem dX9_sets_82 : decode cX9_sets 82 = .ok (.if_icmp .ge 95, 3) := by decide +kernel
theorem dX9_sets_85 : decode cX9_sets 85 = .ok (.iload 7, 2) := by decide +kernel
theorem dX9_sets_87 : decode cX9_sets 87 = .ok (.iload_n 3, 1) := by decide +kernel
theorem dX9_sets_88 : decode cX9_sets 88 = .ok (.iconst (-1), 1) := by decide +kernel
theorem dX9_sets_89 : decode cX9_sets 89 = .ok (.ixor, 1) := by decide +kernel
theorem dX9_sets_90 : decode cX9_sets 90 = .ok (.iand, 1) := by decide +kernel
theorem dX9_sets_91 : decode cX9_sets 91 = .ok (.ifCond .ne 80, 3) := by decide +kernel
theorem dX9_sets_94 : decode cX9_sets 94 = .ok (.aload_n 0, 1) := by decide +kernel
theorem dX9_sets_95 : decode cX9_sets 95 = .ok (.iload 7, 2) := by decide +kernel
theorem dX9_sets_97 : decode cX9_sets 97 = .ok (.invokevirtual 205, 3) := by decide +kernel
theorem dX9_sets_100 : decode cX9_sets 100 = .ok (.lstore 8, 2) := by decide +kernel
theorem dX9_sets_102 : decode cX9_sets 102 = .ok (.lload 8, 2) := by decide +kernel
theorem dX9_sets_104 : decode cX9_sets 104 = .ok (.lload 5, 2) := by decide +kernel
theorem dX9_sets_106 : decode cX9_sets 106 = .ok (.lcmp, 1) := by decide +kernel
theorem dX9_sets_107 : decode cX9_sets 107 = .ok (.ifCond .gt 56, 3) := by decide +kernel
theorem dX9_sets_110 : decode cX9_sets 110 = .ok (.lload 8, 2) := by decide +kernel
theorem dX9_sets_112 : decode cX9_sets 112 = .ok (.lload 5, 2) := by decide +kernel
theorem dX9_sets_114 : decode cX9_sets 114 = .ok (.lcmp, 1) := by decide +kernel
theorem dX9_sets_115 : decode cX9_sets 115 = .ok (.ifCond .ne 56, 3) := by decide +kernel
theorem dX9_sets_118 : decode cX9_sets 118 = .ok (.lload 8, 2) := by decide +kernel
theorem dX9_sets_120 : decode cX9_sets 120 = .ok (.ldc2_w 117, 3) := by decide +kernel
theorem dX9_sets_123 : decode cX9_sets 123 = .ok (.lcmp, 1) := by decide +kernel
theorem dX9_sets_124 : decode cX9_sets 124 = .ok (.ifCond .eq 47, 3) := by decide +kernel
theorem dX9_sets_127 : decode cX9_sets 127 = .ok (.iload 7, 2) := by decide +kernel
theorem dX9_sets_129 : decode cX9_sets 129 = .ok (.invokestatic 208, 3) := by decide +kernel
theorem dX9_sets_132 : decode cX9_sets 132 = .ok (.iload 4, 2) := by decide +kernel
theorem dX9_sets_134 : decode cX9_sets 134 = .ok (.invokestatic 208, 3) := by decide +kernel
theorem dX9_sets_137 : decode cX9_sets 137 = .ok (.if_icmp .lt 26, 3) := by decide +kernel
theorem dX9_sets_140 : decode cX9_sets 140 = .ok (.iload 7, 2) := by decide +kernel
theorem dX9_sets_142 : decode cX9_sets 142 = .ok (.invokestatic 208, 3) := by decide +kernel
theorem dX9_sets_145 : decode cX9_sets 145 = .ok (.iload 4, 2) := by decide +kernel
theorem dX9_sets_147 : decode cX9_sets 147 = .ok (.invokestatic 208, 3) := by decide +kernel
theorem dX9_sets_150 : decode cX9_sets 150 = .ok (.if_icmp .ne 21, 3) := by decide +kernel
theorem dX9_sets_153 : decode cX9_sets 153 = .ok (.iload 7, 2) := by decide +kernel
theorem dX9_sets_155 : decode cX9_sets 155 = .ok (.iload 4, 2) := by decide +kernel
theorem dX9_sets_157 : decode cX9_sets 157 = .ok (.invokestatic 212, 3) := by decide +kernel
theorem dX9_sets_160 : decode cX9_sets 160 = .ok (.ifCond .eq 11, 3) := by decide +kernel
theorem dX9_sets_163 : decode cX9_sets 163 = .ok (.iload 7, 2) := by decide +kernel
theorem dX9_sets_165 : decode cX9_sets 165 = .ok (.istore 4, 2) := by decide +kernel
theorem dX9_sets_167 : decode cX9_sets 167 = .ok (.lload 8, 2) := by decide +kernel
theorem dX9_sets_169 : decode cX9_sets 169 = .ok (.lstore 5, 2) := by decide +kernel
theorem dX9_sets_171 : decode cX9_sets 171 = .ok (.iinc 7 1, 3) := by decide +kernel
theorem dX9_sets_174 : decode cX9_sets 174 = .ok (.goto (-100), 3) := by decide +kernel
theorem dX9_sets_177 : decode cX9_sets 177 = .ok (.iconst 0, 1) := by decide +kernel
theorem dX9_sets_178 : decode cX9_sets 178 = .ok (.istore 7, 2) := by decide +kernel
theorem dX9_sets_180 : decode cX9_sets 180 = .ok (.iload 7, 2) := by decide +kernel
theorem dX9_sets_182 : decode cX9_sets 182 = .ok (.aload_n 0, 1) := by decide +kernel
theorem dX9_sets_183 : decode cX9_sets 183 = .ok (.getfield 196, 3) := by decide +kernel
theorem dX9_sets_186 : decode cX9_sets 186 = .ok (.if_icmp .ge 114, 3) := by decide +kernel
theorem dX9_sets_189 : decode cX9_sets 189 = .ok (.iload 4, 2) := by decide +kernel
theorem dX9_sets_191 : decode cX9_sets 191 = .ok (.iload 7, 2) := by decide +kernel
theorem dX9_sets_193 : decode cX9_sets 193 = .ok (.ishr, 1) := by decide +kernel
theorem dX9_sets_194 : decode cX9_sets 194 = .ok (.iconst 1, 1) := by decide +kernel
theorem dX9_sets_195 : decode cX9_sets 195 = .ok (.iand, 1) := by decide +kernel
theorem dX9_sets_196 : decode cX9_sets 196 = .ok (.iconst 1, 1) := by decide +kernel
theorem dX9_sets_197 : decode cX9_sets 197 = .ok (.if_icmp .ne 97, 3) := by decide +kernel
theorem dX9_sets_200 : decode cX9_sets 200 = .ok (.aload_n 0, 1) := by decide +kernel
theorem dX9_sets_201 : decode cX9_sets 201 = .ok (.getfield 61, 3) := by decide +kernel
theorem dX9_sets_204 : decode cX9_sets 204 = .ok (.iload 7, 2) := by decide +kernel
theorem dX9_sets_206 : decode cX9_sets 206 = .ok (.laload, 1) := by decide +kernel
theorem dX9_sets_207 : decode cX9_sets 207 = .ok (.lstore 8, 2) := by decide +kernel
theorem dX9_sets_209 : decode cX9_sets 209 = .ok (.iconst 0, 1) := by decide +kernel
theorem dX9_sets_210 : decode cX9_sets 210 = .ok (.istore 10, 2) := by decide +kernel
theorem dX9_sets_212 : decode cX9_sets 212 = .ok (.iload 10, 2) := by decide +kernel
theorem dX9_sets_214 : decode cX9_sets 214 = .ok (.aload_n 0, 1) := by decide +kernel
theorem dX9_sets_215 : decode cX9_sets 215 = .ok (.getfield 82, 3) := by decide +kernel
theorem dX9_sets_218 : decode cX9_sets 218 = .ok (.if_icmp .ge 76, 3) := by decide +kernel
theorem dX9_sets_221 : decode cX9_sets 221 = .ok (.aload_n 0, 1) := by decide +kernel
theorem dX9_sets_222 : decode cX9_sets 222 = .ok (.getfield 64, 3) := by decide +kernel
theorem dX9_sets_225 : decode cX9_sets 225 = .ok (.iload 7, 2) := by decide +kernel
theorem dX9_sets_227 : decode cX9_sets 227 = .ok (.laload, 1) := by decide +kernel
theorem dX9_sets_228 : decode cX9_sets 228 = .ok (.iload 10, 2) := by decide +kernel
theorem dX9_sets_230 : decode cX9_sets 230 = .ok (.lshr, 1) := by decide +kernel
theorem dX9_sets_231 : decode cX9_sets 231 = .ok (.lconst 1, 1) := by decide +kernel
theorem dX9_sets_232 : decode cX9_sets 232 = .ok (.land, 1) := by decide +kernel
theorem dX9_sets_233 : decode cX9_sets 233 = .ok (.lconst 1, 1) := by decide +kernel
theorem dX9_sets_234 : decode cX9_sets 234 = .ok (.lcmp, 1) := by decide +kernel
theorem dX9_sets_235 : decode cX9_sets 235 = .ok (.ifCond .ne 53, 3) := by decide +kernel
theorem dX9_sets_238 : decode cX9_sets 238 = .ok (.aload_n 0, 1) := by decide +kernel
theorem dX9_sets_239 : decode cX9_sets 239 = .ok (.getfield 20, 3) := by decide +kernel
theorem dX9_sets_242 : decode cX9_sets 242 = .ok (.iload 10, 2) := by decide +kernel
theorem dX9_sets_244 : decode cX9_sets 244 = .ok (.iconst 3, 1) := by decide +kernel
theorem dX9_sets_245 : decode cX9_sets 245 = .ok (.iastore, 1) := by decide +kernel
theorem dX9_sets_246 : decode cX9_sets 246 = .ok (.aload_n 0, 1) := by decide +kernel
theorem dX9_sets_247 : decode cX9_sets 247 = .ok (.getfield 23, 3) := by decide +kernel
theorem dX9_sets_250 : decode cX9_sets 250 = .ok (.iload 10, 2) := by decide +kernel
theorem dX9_sets_252 : decode cX9_sets 252 = .ok (.aload_n 0, 1) := by decide +kernel
theorem dX9_sets_253 : decode cX9_sets 253 = .ok (.getfield 58, 3) := by decide +kernel
theorem dX9_sets_256 : decode cX9_sets 256 = .ok (.iload 7, 2) := by decide +kernel
theorem dX9_sets_258 : decode cX9_sets 258 = .ok (.iaload, 1) := by decide +kernel
theorem dX9_sets_259 : decode cX9_sets 259 = .ok (.iastore, 1) := by decide +kernel
theorem dX9_sets_260 : decode cX9_sets 260 = .ok (.aload_n 0, 1) := by decide +kernel
theorem dX9_sets_261 : decode cX9_sets 261 = .ok (.getfield 26, 3) := by decide +kernel
theorem dX9_sets_264 : decode cX9_sets 264 = .ok (.iload 10, 2) := by decide +kernel
theorem dX9_sets_266 : decode cX9_sets 266 = .ok (.lload 8, 2) := by decide +kernel
theorem dX9_sets_268 : decode cX9_sets 268 = .ok (.lastore, 1) := by decide +kernel
theorem dX9_sets_269 : decode cX9_sets 269 = .ok (.aload_n 0, 1) := by decide +kernel
theorem dX9_sets_270 : decode cX9_sets 270 = .ok (.iconst 4, 1) := by decide +kernel
theorem dX9_sets_271 : decode cX9_sets 271 = .ok (.iload 10, 2) := by decide +kernel
theorem dX9_sets_273 : decode cX9_sets 273 = .ok (.aload_n 0, 1) := by decide +kernel
theorem dX9_sets_274 : decode cX9_sets 274 = .ok (.getfield 58, 3) := by decide +kernel
theorem dX9_sets_277 : decode cX9_sets 277 = .ok (.iload 7, 2) := by decide +kernel
theorem dX9_sets_279 : decode cX9_sets 279 = .ok (.iaload, 1) := by decide +kernel
theorem dX9_sets_280 : decode cX9_sets 280 = .ok (.lload 8, 2) := by decide +kernel
theorem dX9_sets_282 : decode cX9_sets 282 = .ok (.invokevirtual 160, 3) := by decide +kernel
theorem dX9_sets_285 : decode cX9_sets 285 = .ok (.lconst 0, 1) := by decide +kernel
theorem dX9_sets_286 : decode cX9_sets 286 = .ok (.lstore 8, 2) := by decide +kernel
theorem dX9_sets_288 : decode cX9_sets 288 = .ok (.iinc 10 1, 3) := by decide +kernel
theorem dX9_sets_291 : decode cX9_sets 291 = .ok (.goto (-79), 3) := by decide +kernel
theorem dX9_sets_294 : decode cX9_sets 294 = .ok (.iinc 7 1, 3) := by decide +kernel
theorem dX9_sets_297 : decode cX9_sets 297 = .ok (.goto (-117), 3) := by decide +kernel
theorem dX9_sets_300 : decode cX9_sets 300 = .ok (.aload_n 0, 1) := by decide +kernel
theorem dX9_sets_301 : decode cX9_sets 301 = .ok (.iload 4, 2) := by decide +kernel
theorem dX9_sets_303 : decode cX9_sets 303 = .ok (.putfield 216, 3) := by decide +kernel
theorem dX9_sets_306 : decode cX9_sets 306 = .ok (.aload_n 0, 1) := by decide +kernel
theorem dX9_sets_307 : decode cX9_sets 307 = .ok (.lload 5, 2) := by decide +kernel
theorem dX9_sets_309 : decode cX9_sets 309 = .ok (.putfield 219, 3) := by decide +kernel
theorem dX9_sets_312 : decode cX9_sets 312 = .ok (.aload_n 0, 1) := by decide +kernel
theorem dX9_sets_313 : decode cX9_sets 313 = .ok (.iconst 1, 1) := by decide +kernel
theorem dX9_sets_314 : decode cX9_sets 314 = .ok (.putfield 199, 3) := by decide +kernel
theorem dX9_sets_317 : decode cX9_sets 317 = .ok (.aload_n 0, 1) := by decide +kernel
theorem dX9_sets_318 : decode cX9_sets 318 = .ok (.iconst 0, 1) := by decide +kernel
theorem dX9_sets_319 : decode cX9_sets 319 = .ok (.putfield 196, 3) := by decide +kernel
theorem dX9_sets_322 : decode cX9_sets 322 = .ok (.iload 4, 2) := by decide +kernel
theorem dX9_sets_324 : decode cX9_sets 324 = .ok (.invokestatic 208, 3) := by decide +kernel
theorem dX9_sets_327 : decode cX9_sets 327 = .ok (.ireturn, 1) := by decide +kernel
theorem dX9_wins_0 : decode cX9_wins 0 = .ok (.iload_n 1, 1) := by decide +kernel
theorem dX9_wins_1 : decode cX9_wins 1 = .ok (.ifCond .lt 25, 3) := by decide +kernel
theorem dX9_wins_4 : decode cX9_wins 4 = .ok (.iload_n 1, 1) := by decide +kernel
theorem dX9_wins_5 : decode cX9_wins 5 = .ok (.bipush 18, 2) := by decide +kernel
theorem dX9_wins_7 : decode cX9_wins 7 = .ok (.if_icmp .ge 19, 3) := by decide +kernel
theorem dX9_wins_10 : decode cX9_wins 10 = .ok (.aload_n 0, 1) := by decide +kernel
theorem dX9_wins_11 : decode cX9_wins 11 = .ok (.getfield 216, 3) := by decide +kernel
theorem dX9_wins_14 : decode cX9_wins 14 = .ok (.iload_n 1, 1) := by decide +kernel
theorem dX9_wins_15 : decode cX9_wins 15 = .ok (.ishr, 1) := by decide +kernel
theorem dX9_wins_16 : decode cX9_wins 16 = .ok (.iconst 1, 1) := by decide +kernel
theorem dX9_wins_17 : decode cX9_wins 17 = .ok (.iand, 1) := by decide +kernel
theorem dX9_wins_18 : decode cX9_wins 18 = .ok (.iconst 1, 1) := by decide +kernel
theorem dX9_wins_19 : decode cX9_wins 19 = .ok (.if_icmp .ne 7, 3) := by decide +kernel
theorem dX9_wins_22 : decode cX9_wins 22 = .ok (.iconst 1, 1) := by decide +kernel
theorem dX9_wins_23 : decode cX9_wins 23 = .ok (.goto 4, 3) := by decide +kernel
theorem dX9_wins_26 : decode cX9_wins 26 = .ok (.iconst 0, 1) := by decide +kernel
theorem dX9_wins_27 : decode cX9_wins 27 = .ok (.ireturn, 1) := by decide +kernel
theorem dX9_sum_0 : decode cX9_sum 0 = .ok (.aload_n 0, 1) := by decide +kernel
theorem dX9_sum_1 : decode cX9_sum 1 = .ok (.getfield 219, 3) := by decide +kernel
theorem dX9_sum_4 : decode cX9_sum 4 = .ok (.lreturn, 1) := by decide +kernel
theorem dX9_proved_0 : decode cX9_proved 0 = .ok (.aload_n 0, 1) := by decide +kernel
theorem dX9_proved_1 : decode cX9_proved 1 = .ok (.getfield 199, 3) := by decide +kernel
theorem dX9_proved_4 : decode cX9_proved 4 = .ok (.ireturn, 1) := by decide +kernel
theorem dX9_record_0 : decode cX9_record 0 = .ok (.iload_n 1, 1) := by decide +kernel
theorem dX9_record_1 : decode cX9_record 1 = .ok (.ifCond .lt 11, 3) := by decide +kernel
theorem dX9_record_4 : decode cX9_record 4 = .ok (.iload_n 1, 1) := by decide +kernel
theorem dX9_record_5 : decode cX9_record 5 = .ok (.aload_n 0, 1) := by decide +kernel
theorem dX9_record_6 : decode cX9_record 6 = .ok (.getfield 98, 3) := by decide +kernel
theorem dX9_record_9 : decode cX9_record 9 = .ok (.if_icmp .lt 5, 3) := by decide +kernel
theorem dX9_record_12 : decode cX9_record 12 = .ok (.iconst (-1), 1) := by decide +kernel
theorem dX9_record_13 : decode cX9_record 13 = .ok (.ireturn, 1) := by decide +kernel
theorem dX9_record_14 : decode cX9_record 14 = .ok (.iload_n 2, 1) := by decide +kernel
theorem dX9_record_15 : decode cX9_record 15 = .ok (.ifCond .ne 12, 3) := by decide +kernel
theorem dX9_record_18 : decode cX9_record 18 = .ok (.aload_n 0, 1) := by decide +kernel
theorem dX9_record_19 : decode cX9_record 19 = .ok (.getfield 67, 3) := by decide +kernel
theorem dX9_record_22 : decode cX9_record 22 = .ok (.iload_n 1, 1) := by decide +kernel
theorem dX9_record_23 : decode cX9_record 23 = .ok (.iaload, 1) := by decide +kernel
theorem dX9_record_24 : decode cX9_record 24 = .ok (.goto 65, 3) := by decide +kernel
theorem dX9_record_27 : decode cX9_record 27 = .ok (.iload_n 2, 1) := by decide +kernel
theorem dX9_record_28 : decode cX9_record 28 = .ok (.iconst 1, 1) := by decide +kernel
theorem dX9_record_29 : decode cX9_record 29 = .ok (.if_icmp .ne 12, 3) := by decide +kernel
theorem dX9_record_32 : decode cX9_record 32 = .ok (.aload_n 0, 1) := by decide +kernel
theorem dX9_record_33 : decode cX9_record 33 = .ok (.getfield 70, 3) := by decide +kernel
theorem dX9_record_36 : decode cX9_record 36 = .ok (.iload_n 1, 1) := by decide +kernel
theorem dX9_record_37 : decode cX9_record 37 = .ok (.iaload, 1) := by decide +kernel
theorem dX9_record_38 : decode cX9_record 38 = .ok (.goto 51, 3) := by decide +kernel
theorem dX9_record_41 : decode cX9_record 41 = .ok (.iload_n 2, 1) := by decide +kernel
theorem dX9_record_42 : decode cX9_record 42 = .ok (.iconst 2, 1) := by decide +kernel
theorem dX9_record_43 : decode cX9_record 43 = .ok (.if_icmp .ne 12, 3) := by decide +kernel
theorem dX9_record_46 : decode cX9_record 46 = .ok (.aload_n 0, 1) := by decide +kernel
theorem dX9_record_47 : decode cX9_record 47 = .ok (.getfield 73, 3) := by decide +kernel
theorem dX9_record_50 : decode cX9_record 50 = .ok (.iload_n 1, 1) := by decide +kernel
theorem dX9_record_51 : decode cX9_record 51 = .ok (.iaload, 1) := by decide +kernel
theorem dX9_record_52 : decode cX9_record 52 = .ok (.goto 37, 3) := by decide +kernel
theorem dX9_record_55 : decode cX9_record 55 = .ok (.iload_n 2, 1) := by decide +kernel
theorem dX9_record_56 : decode cX9_record 56 = .ok (.iconst 3, 1) := by decide +kernel
theorem dX9_record_57 : decode cX9_record 57 = .ok (.if_icmp .ne 17, 3) := by decide +kernel
theorem dX9_record_60 : decode cX9_record 60 = .ok (.aload_n 0, 1) := by decide +kernel
theorem dX9_record_61 : decode cX9_record 61 = .ok (.getfield 76, 3) := by decide +kernel
theorem dX9_record_64 : decode cX9_record 64 = .ok (.iload_n 1, 1) := by decide +kernel
theorem dX9_record_65 : decode cX9_record 65 = .ok (.laload, 1) := by decide +kernel
theorem dX9_record_66 : decode cX9_record 66 = .ok (.ldc2_w 109, 3) := by decide +kernel
theorem dX9_record_69 : decode cX9_record 69 = .ok (.lrem, 1) := by decide +kernel
theorem dX9_record_70 : decode cX9_record 70 = .ok (.l2i, 1) := by decide +kernel
theorem dX9_record_71 : decode cX9_record 71 = .ok (.goto 18, 3) := by decide +kernel
theorem dX9_record_74 : decode cX9_record 74 = .ok (.iload_n 2, 1) := by decide +kernel
theorem dX9_record_75 : decode cX9_record 75 = .ok (.iconst 4, 1) := by decide +kernel
theorem dX9_record_76 : decode cX9_record 76 = .ok (.if_icmp .ne 12, 3) := by decide +kernel
theorem dX9_record_79 : decode cX9_record 79 = .ok (.aload_n 0, 1) := by decide +kernel
theorem dX9_record_80 : decode cX9_record 80 = .ok (.getfield 79, 3) := by decide +kernel
theorem dX9_record_83 : decode cX9_record 83 = .ok (.iload_n 1, 1) := by decide +kernel
theorem dX9_record_84 : decode cX9_record 84 = .ok (.iaload, 1) := by decide +kernel
theorem dX9_record_85 : decode cX9_record 85 = .ok (.goto 4, 3) := by decide +kernel
theorem dX9_record_88 : decode cX9_record 88 = .ok (.iconst (-1), 1) := by decide +kernel
theorem dX9_record_89 : decode cX9_record 89 = .ok (.ireturn, 1) := by decide +kernel
theorem dX9_chained_0 : decode cX9_chained 0 = .ok (.iconst 1, 1) := by decide +kernel
theorem dX9_chained_1 : decode cX9_chained 1 = .ok (.istore_n 1, 1) := by decide +kernel
theorem dX9_chained_2 : decode cX9_chained 2 = .ok (.iconst 1, 1) := by decide +kernel
theorem dX9_chained_3 : decode cX9_chained 3 = .ok (.istore_n 2, 1) := by decide +kernel
theorem dX9_chained_4 : decode cX9_chained 4 = .ok (.iconst 0, 1) := by decide +kernel
theorem dX9_chained_5 : decode cX9_chained 5 = .ok (.istore_n 3, 1) := by decide +kernel
theorem dX9_chained_6 : decode cX9_chained 6 = .ok (.iload_n 3, 1) := by decide +kernel
theorem dX9_chained_7 : decode cX9_chained 7 = .ok (.aload_n 0, 1) := by decide +kernel
theorem dX9_chained_8 : decode cX9_chained 8 = .ok (.getfield 98, 3) := by decide +kernel
theorem dX9_chained_11 : decode cX9_chained 11 = .ok (.if_icmp .ge 59, 3) := by decide +kernel
theorem dX9_chained_14 : decode cX9_chained 14 = .ok (.aload_n 0, 1) := by decide +kernel
theorem dX9_chained_15 : decode cX9_chained 15 = .ok (.iload_n 2, 1) := by decide +kernel
theorem dX9_chained_16 : decode cX9_chained 16 = .ok (.aload_n 0, 1) := by decide +kernel
theorem dX9_chained_17 : decode cX9_chained 17 = .ok (.getfield 67, 3) := by decide +kernel
theorem dX9_chained_20 : decode cX9_chained 20 = .ok (.iload_n 3, 1) := by decide +kernel
theorem dX9_chained_21 : decode cX9_chained 21 = .ok (.iaload, 1) := by decide +kernel
theorem dX9_chained_22 : decode cX9_chained 22 = .ok (.aload_n 0, 1) := by decide +kernel
theorem dX9_chained_23 : decode cX9_chained 23 = .ok (.getfield 70, 3) := by decide +kernel
theorem dX9_chained_26 : decode cX9_chained 26 = .ok (.iload_n 3, 1) := by decide +kernel
theorem dX9_chained_27 : decode cX9_chained 27 = .ok (.iaload, 1) := by decide +kernel
theorem dX9_chained_28 : decode cX9_chained 28 = .ok (.aload_n 0, 1) := by decide +kernel
theorem dX9_chained_29 : decode cX9_chained 29 = .ok (.getfield 73, 3) := by decide +kernel
theorem dX9_chained_32 : decode cX9_chained 32 = .ok (.iload_n 3, 1) := by decide +kernel
theorem dX9_chained_33 : decode cX9_chained 33 = .ok (.iaload, 1) := by decide +kernel
theorem dX9_chained_34 : decode cX9_chained 34 = .ok (.aload_n 0, 1) := by decide +kernel
theorem dX9_chained_35 : decode cX9_chained 35 = .ok (.getfield 76, 3) := by decide +kernel
theorem dX9_chained_38 : decode cX9_chained 38 = .ok (.iload_n 3, 1) := by decide +kernel
theorem dX9_chained_39 : decode cX9_chained 39 = .ok (.laload, 1) := by decide +kernel
theorem dX9_chained_40 : decode cX9_chained 40 = .ok (.invokevirtual 101, 3) := by decide +kernel
theorem dX9_chained_43 : decode cX9_chained 43 = .ok (.istore_n 2, 1) := by decide +kernel
theorem dX9_chained_44 : decode cX9_chained 44 = .ok (.iload_n 1, 1) := by decide +kernel
theorem dX9_chained_45 : decode cX9_chained 45 = .ok (.ifCond .eq 17, 3) := by decide +kernel
theorem dX9_chained_48 : decode cX9_chained 48 = .ok (.aload_n 0, 1) := by decide +kernel
theorem dX9_chained_49 : decode cX9_chained 49 = .ok (.getfield 79, 3) := by decide +kernel
theorem dX9_chained_52 : decode cX9_chained 52 = .ok (.iload_n 3, 1) := by decide +kernel
theorem dX9_chained_53 : decode cX9_chained 53 = .ok (.iaload, 1) := by decide +kernel
theorem dX9_chained_54 : decode cX9_chained 54 = .ok (.iload_n 2, 1) := by decide +kernel
theorem dX9_chained_55 : decode cX9_chained 55 = .ok (.if_icmp .ne 7, 3) := by decide +kernel
theorem dX9_chained_58 : decode cX9_chained 58 = .ok (.iconst 1, 1) := by decide +kernel
theorem dX9_chained_59 : decode cX9_chained 59 = .ok (.goto 4, 3) := by decide +kernel
theorem dX9_chained_62 : decode cX9_chained 62 = .ok (.iconst 0, 1) := by decide +kernel
theorem dX9_chained_63 : decode cX9_chained 63 = .ok (.istore_n 1, 1) := by decide +kernel
theorem dX9_chained_64 : decode cX9_chained 64 = .ok (.iinc 3 1, 3) := by decide +kernel
theorem dX9_chained_67 : decode cX9_chained 67 = .ok (.goto (-61), 3) := by decide +kernel
theorem dX9_chained_70 : decode cX9_chained 70 = .ok (.iload_n 1, 1) := by decide +kernel
theorem dX9_chained_71 : decode cX9_chained 71 = .ok (.ireturn, 1) := by decide +kernel
theorem dX9_turn_0 : decode cX9_turn 0 = .ok (.lload_n 1, 1) := by decide +kernel
theorem dX9_turn_1 : decode cX9_turn 1 = .ok (.ldc2_w 222, 3) := by decide +kernel
theorem dX9_turn_4 : decode cX9_turn 4 = .ok (.ldiv, 1) := by decide +kernel
theorem dX9_turn_5 : decode cX9_turn 5 = .ok (.ldc2_w 224, 3) := by decide +kernel
theorem dX9_turn_8 : decode cX9_turn 8 = .ok (.lrem, 1) := by decide +kernel
theorem dX9_turn_9 : decode cX9_turn 9 = .ok (.l2i, 1) := by decide +kernel
theorem dX9_turn_10 : decode cX9_turn 10 = .ok (.istore_n 3, 1) := by decide +kernel
theorem dX9_turn_11 : decode cX9_turn 11 = .ok (.lload_n 1, 1) := by decide +kernel
theorem dX9_turn_12 : decode cX9_turn 12 = .ok (.ldc2_w 226, 3) := by decide +kernel
theorem dX9_turn_15 : decode cX9_turn 15 = .ok (.ldiv, 1) := by decide +kernel
theorem dX9_turn_16 : decode cX9_turn 16 = .ok (.ldc2_w 228, 3) := by decide +kernel
theorem dX9_turn_19 : decode cX9_turn 19 = .ok (.lrem, 1) := by decide +kernel
theorem dX9_turn_20 : decode cX9_turn 20 = .ok (.lstore 4, 2) := by decide +kernel
theorem dX9_turn_22 : decode cX9_turn 22 = .ok (.lload_n 1, 1) := by decide +kernel
theorem dX9_turn_23 : decode cX9_turn 23 = .ok (.ldc2_w 222, 3) := by decide +kernel
theorem dX9_turn_26 : decode cX9_turn 26 = .ok (.lrem, 1) := by decide +kernel
theorem dX9_turn_27 : decode cX9_turn 27 = .ok (.l2i, 1) := by decide +kernel
theorem dX9_turn_28 : decode cX9_turn 28 = .ok (.istore 6, 2) := by decide +kernel
theorem dX9_turn_30 : decode cX9_turn 30 = .ok (.iload 6, 2) := by decide +kernel
theorem dX9_turn_32 : decode cX9_turn 32 = .ok (.ifCond .ne 22, 3) := by decide +kernel
theorem dX9_turn_35 : decode cX9_turn 35 = .ok (.aload_n 0, 1) := by decide +kernel
theorem dX9_turn_36 : decode cX9_turn 36 = .ok (.iload_n 3, 1) := by decide +kernel
theorem dX9_turn_37 : decode cX9_turn 37 = .ok (.bipush 32, 2) := by decide +kernel
theorem dX9_turn_39 : decode cX9_turn 39 = .ok (.irem, 1) := by decide +kernel
theorem dX9_turn_40 : decode cX9_turn 40 = .ok (.lload 4, 2) := by decide +kernel
theorem dX9_turn_42 : decode cX9_turn 42 = .ok (.ldc2_w 230, 3) := by decide +kernel
theorem dX9_turn_45 : decode cX9_turn 45 = .ok (.lrem, 1) := by decide +kernel
theorem dX9_turn_46 : decode cX9_turn 46 = .ok (.invokevirtual 232, 3) := by decide +kernel
theorem dX9_turn_49 : decode cX9_turn 49 = .ok (.istore 7, 2) := by decide +kernel
theorem dX9_turn_51 : decode cX9_turn 51 = .ok (.goto 122, 3) := by decide +kernel
theorem dX9_turn_54 : decode cX9_turn 54 = .ok (.iload 6, 2) := by decide +kernel
theorem dX9_turn_56 : decode cX9_turn 56 = .ok (.iconst 1, 1) := by decide +kernel
theorem dX9_turn_57 : decode cX9_turn 57 = .ok (.if_icmp .ne 20, 3) := by decide +kernel
theorem dX9_turn_60 : decode cX9_turn 60 = .ok (.aload_n 0, 1) := by decide +kernel
theorem dX9_turn_61 : decode cX9_turn 61 = .ok (.lconst 1, 1) := by decide +kernel
theorem dX9_turn_62 : decode cX9_turn 62 = .ok (.lload 4, 2) := by decide +kernel
theorem dX9_turn_64 : decode cX9_turn 64 = .ok (.ldc2_w 236, 3) := by decide +kernel
theorem dX9_turn_67 : decode cX9_turn 67 = .ok (.lrem, 1) := by decide +kernel
theorem dX9_turn_68 : decode cX9_turn 68 = .ok (.ladd, 1) := by decide +kernel
theorem dX9_turn_69 : decode cX9_turn 69 = .ok (.invokevirtual 238, 3) := by decide +kernel
theorem dX9_turn_72 : decode cX9_turn 72 = .ok (.istore 7, 2) := by decide +kernel
theorem dX9_turn_74 : decode cX9_turn 74 = .ok (.goto 99, 3) := by decide +kernel
theorem dX9_turn_77 : decode cX9_turn 77 = .ok (.iload 6, 2) := by decide +kernel
theorem dX9_turn_79 : decode cX9_turn 79 = .ok (.iconst 2, 1) := by decide +kernel
theorem dX9_turn_80 : decode cX9_turn 80 = .ok (.if_icmp .ne 27, 3) := by decide +kernel
theorem dX9_turn_83 : decode cX9_turn 83 = .ok (.aload_n 0, 1) := by decide +kernel
theorem dX9_turn_84 : decode cX9_turn 84 = .ok (.iload_n 3, 1) := by decide +kernel
theorem dX9_turn_85 : decode cX9_turn 85 = .ok (.lload 4, 2) := by decide +kernel
theorem dX9_turn_87 : decode cX9_turn 87 = .ok (.lconst 1, 1) := by decide +kernel
theorem dX9_turn_88 : decode cX9_turn 88 = .ok (.lload 4, 2) := by decide +kernel
theorem dX9_turn_90 : decode cX9_turn 90 = .ok (.ldc2_w 241, 3) := by decide +kernel
theorem dX9_turn_93 : decode cX9_turn 93 = .ok (.lrem, 1) := by decide +kernel
theorem dX9_turn_94 : decode cX9_turn 94 = .ok (.ldc2_w 92, 3) := by decide +kernel
theorem dX9_turn_97 : decode cX9_turn 97 = .ok (.lmul, 1) := by decide +kernel
theorem dX9_turn_98 : decode cX9_turn 98 = .ok (.ladd, 1) := by decide +kernel
theorem dX9_turn_99 : decode cX9_turn 99 = .ok (.invokevirtual 243, 3) := by decide +kernel
theorem dX9_turn_102 : decode cX9_turn 102 = .ok (.istore 7, 2) := by decide +kernel
theorem dX9_turn_104 : decode cX9_turn 104 = .ok (.goto 69, 3) := by decide +kernel
theorem dX9_turn_107 : decode cX9_turn 107 = .ok (.iload 6, 2) := by decide +kernel
theorem dX9_turn_109 : decode cX9_turn 109 = .ok (.iconst 3, 1) := by decide +kernel
theorem dX9_turn_110 : decode cX9_turn 110 = .ok (.if_icmp .ne 22, 3) := by decide +kernel
theorem dX9_turn_113 : decode cX9_turn 113 = .ok (.aload_n 0, 1) := by decide +kernel
theorem dX9_turn_114 : decode cX9_turn 114 = .ok (.iload_n 3, 1) := by decide +kernel
theorem dX9_turn_115 : decode cX9_turn 115 = .ok (.lload 4, 2) := by decide +kernel
theorem dX9_turn_117 : decode cX9_turn 117 = .ok (.ldc2_w 246, 3) := by decide +kernel
theorem dX9_turn_120 : decode cX9_turn 120 = .ok (.lrem, 1) := by decide +kernel
theorem dX9_turn_121 : decode cX9_turn 121 = .ok (.l2i, 1) := by decide +kernel
theorem dX9_turn_122 : decode cX9_turn 122 = .ok (.lload 4, 2) := by decide +kernel
theorem dX9_turn_124 : decode cX9_turn 124 = .ok (.invokevirtual 248, 3) := by decide +kernel
theorem dX9_turn_127 : decode cX9_turn 127 = .ok (.istore 7, 2) := by decide +kernel
theorem dX9_turn_129 : decode cX9_turn 129 = .ok (.goto 44, 3) := by decide +kernel
theorem dX9_turn_132 : decode cX9_turn 132 = .ok (.iload 6, 2) := by decide +kernel
theorem dX9_turn_134 : decode cX9_turn 134 = .ok (.iconst 4, 1) := by decide +kernel
theorem dX9_turn_135 : decode cX9_turn 135 = .ok (.if_icmp .ne 31, 3) := by decide +kernel
theorem dX9_turn_138 : decode cX9_turn 138 = .ok (.aload_n 0, 1) := by decide +kernel
theorem dX9_turn_139 : decode cX9_turn 139 = .ok (.lconst 0, 1) := by decide +kernel
theorem dX9_turn_140 : decode cX9_turn 140 = .ok (.iconst 1, 1) := by decide +kernel
theorem dX9_turn_141 : decode cX9_turn 141 = .ok (.invokevirtual 252, 3) := by decide +kernel
theorem dX9_turn_144 : decode cX9_turn 144 = .ok (.ifCond .ne 12, 3) := by decide +kernel
theorem dX9_turn_147 : decode cX9_turn 147 = .ok (.aload_n 0, 1) := by decide +kernel
theorem dX9_turn_148 : decode cX9_turn 148 = .ok (.lconst 0, 1) := by decide +kernel
theorem dX9_turn_149 : decode cX9_turn 149 = .ok (.iconst 0, 1) := by decide +kernel
theorem dX9_turn_150 : decode cX9_turn 150 = .ok (.invokevirtual 252, 3) := by decide +kernel
theorem dX9_turn_153 : decode cX9_turn 153 = .ok (.ifCond .eq 7, 3) := by decide +kernel
theorem dX9_turn_156 : decode cX9_turn 156 = .ok (.iconst 1, 1) := by decide +kernel
theorem dX9_turn_157 : decode cX9_turn 157 = .ok (.goto 4, 3) := by decide +kernel
theorem dX9_turn_160 : decode cX9_turn 160 = .ok (.iconst 0, 1) := by decide +kernel
theorem dX9_turn_161 : decode cX9_turn 161 = .ok (.istore 7, 2) := by decide +kernel
theorem dX9_turn_163 : decode cX9_turn 163 = .ok (.goto 10, 3) := by decide +kernel
theorem dX9_turn_166 : decode cX9_turn 166 = .ok (.aload_n 0, 1) := by decide +kernel
theorem dX9_turn_167 : decode cX9_turn 167 = .ok (.iload_n 3, 1) := by decide +kernel
theorem dX9_turn_168 : decode cX9_turn 168 = .ok (.invokevirtual 256, 3) := by decide +kernel
theorem dX9_turn_171 : decode cX9_turn 171 = .ok (.istore 7, 2) := by decide +kernel
theorem dX9_turn_173 : decode cX9_turn 173 = .ok (.return_, 1) := by decide +kernel
theorem dX9_play_0 : decode cX9_play 0 = .ok (.iload_n 3, 1) := by decide +kernel
theorem dX9_play_1 : decode cX9_play 1 = .ok (.iconst 1, 1) := by decide +kernel
theorem dX9_play_2 : decode cX9_play 2 = .ok (.if_icmp .lt 10, 3) := by decide +kernel
theorem dX9_play_5 : decode cX9_play 5 = .ok (.iload_n 3, 1) := by decide +kernel
theorem dX9_play_6 : decode cX9_play 6 = .ok (.sipush 200, 3) := by decide +kernel
theorem dX9_play_9 : decode cX9_play 9 = .ok (.if_icmp .le 5, 3) := by decide +kernel
theorem dX9_play_12 : decode cX9_play 12 = .ok (.iconst (-1), 1) := by decide +kernel
theorem dX9_play_13 : decode cX9_play 13 = .ok (.ireturn, 1) := by decide +kernel
theorem dX9_play_14 : decode cX9_play 14 = .ok (.lload_n 1, 1) := by decide +kernel
theorem dX9_play_15 : decode cX9_play 15 = .ok (.lconst 0, 1) := by decide +kernel
theorem dX9_play_16 : decode cX9_play 16 = .ok (.lcmp, 1) := by decide +kernel
theorem dX9_play_17 : decode cX9_play 17 = .ok (.ifCond .ne 9, 3) := by decide +kernel
theorem dX9_play_20 : decode cX9_play 20 = .ok (.ldc2_w 259, 3) := by decide +kernel
theorem dX9_play_23 : decode cX9_play 23 = .ok (.goto 4, 3) := by decide +kernel
theorem dX9_play_26 : decode cX9_play 26 = .ok (.lload_n 1, 1) := by decide +kernel
theorem dX9_play_27 : decode cX9_play 27 = .ok (.lstore 4, 2) := by decide +kernel
theorem dX9_play_29 : decode cX9_play 29 = .ok (.iconst 0, 1) := by decide +kernel
theorem dX9_play_30 : decode cX9_play 30 = .ok (.istore 6, 2) := by decide +kernel
theorem dX9_play_32 : decode cX9_play 32 = .ok (.iload 6, 2) := by decide +kernel
theorem dX9_play_34 : decode cX9_play 34 = .ok (.iload_n 3, 1) := by decide +kernel
theorem dX9_play_35 : decode cX9_play 35 = .ok (.if_icmp .ge 47, 3) := by decide +kernel
theorem dX9_play_38 : decode cX9_play 38 = .ok (.lload 4, 2) := by decide +kernel
theorem dX9_play_40 : decode cX9_play 40 = .ok (.lload 4, 2) := by decide +kernel
theorem dX9_play_42 : decode cX9_play 42 = .ok (.bipush 13, 2) := by decide +kernel
theorem dX9_play_44 : decode cX9_play 44 = .ok (.lshl, 1) := by decide +kernel
theorem dX9_play_45 : decode cX9_play 45 = .ok (.lxor, 1) := by decide +kernel
theorem dX9_play_46 : decode cX9_play 46 = .ok (.lstore 4, 2) := by decide +kernel
theorem dX9_play_48 : decode cX9_play 48 = .ok (.lload 4, 2) := by decide +kernel
theorem dX9_play_50 : decode cX9_play 50 = .ok (.lload 4, 2) := by decide +kernel
theorem dX9_play_52 : decode cX9_play 52 = .ok (.bipush 7, 2) := by decide +kernel
theorem dX9_play_54 : decode cX9_play 54 = .ok (.lushr, 1) := by decide +kernel
theorem dX9_play_55 : decode cX9_play 55 = .ok (.lxor, 1) := by decide +kernel
theorem dX9_play_56 : decode cX9_play 56 = .ok (.lstore 4, 2) := by decide +kernel
theorem dX9_play_58 : decode cX9_play 58 = .ok (.lload 4, 2) := by decide +kernel
theorem dX9_play_60 : decode cX9_play 60 = .ok (.lload 4, 2) := by decide +kernel
theorem dX9_play_62 : decode cX9_play 62 = .ok (.bipush 17, 2) := by decide +kernel
theorem dX9_play_64 : decode cX9_play 64 = .ok (.lshl, 1) := by decide +kernel
theorem dX9_play_65 : decode cX9_play 65 = .ok (.lxor, 1) := by decide +kernel
theorem dX9_play_66 : decode cX9_play 66 = .ok (.lstore 4, 2) := by decide +kernel
theorem dX9_play_68 : decode cX9_play 68 = .ok (.aload_n 0, 1) := by decide +kernel
theorem dX9_play_69 : decode cX9_play 69 = .ok (.lload 4, 2) := by decide +kernel
theorem dX9_play_71 : decode cX9_play 71 = .ok (.iconst 1, 1) := by decide +kernel
theorem dX9_play_72 : decode cX9_play 72 = .ok (.lushr, 1) := by decide +kernel
theorem dX9_play_73 : decode cX9_play 73 = .ok (.invokevirtual 261, 3) := by decide +kernel
theorem dX9_play_76 : decode cX9_play 76 = .ok (.iinc 6 1, 3) := by decide +kernel
theorem dX9_play_79 : decode cX9_play 79 = .ok (.goto (-47), 3) := by decide +kernel
theorem dX9_play_82 : decode cX9_play 82 = .ok (.iconst 0, 1) := by decide +kernel
theorem dX9_play_83 : decode cX9_play 83 = .ok (.istore 6, 2) := by decide +kernel
theorem dX9_play_85 : decode cX9_play 85 = .ok (.iconst 0, 1) := by decide +kernel
theorem dX9_play_86 : decode cX9_play 86 = .ok (.istore 7, 2) := by decide +kernel
theorem dX9_play_88 : decode cX9_play 88 = .ok (.iload 7, 2) := by decide +kernel
theorem dX9_play_90 : decode cX9_play 90 = .ok (.aload_n 0, 1) := by decide +kernel
theorem dX9_play_91 : decode cX9_play 91 = .ok (.getfield 82, 3) := by decide +kernel
theorem dX9_play_94 : decode cX9_play 94 = .ok (.if_icmp .ge 30, 3) := by decide +kernel
theorem dX9_play_97 : decode cX9_play 97 = .ok (.iload 6, 2) := by decide +kernel
theorem dX9_play_99 : decode cX9_play 99 = .ok (.aload_n 0, 1) := by decide +kernel
theorem dX9_play_100 : decode cX9_play 100 = .ok (.getfield 20, 3) := by decide +kernel
theorem dX9_play_103 : decode cX9_play 103 = .ok (.iload 7, 2) := by decide +kernel
theorem dX9_play_105 : decode cX9_play 105 = .ok (.iaload, 1) := by decide +kernel
theorem dX9_play_106 : decode cX9_play 106 = .ok (.iconst 3, 1) := by decide +kernel
theorem dX9_play_107 : decode cX9_play 107 = .ok (.if_icmp .ne 7, 3) := by decide +kernel
theorem dX9_play_110 : decode cX9_play 110 = .ok (.iconst 1, 1) := by decide +kernel
theorem dX9_play_111 : decode cX9_play 111 = .ok (.goto 4, 3) := by decide +kernel
theorem dX9_play_114 : decode cX9_play 114 = .ok (.iconst 0, 1) := by decide +kernel
theorem dX9_play_115 : decode cX9_play 115 = .ok (.iadd, 1) := by decide +kernel
theorem dX9_play_116 : decode cX9_play 116 = .ok (.istore 6, 2) := by decide +kernel
theorem dX9_play_118 : decode cX9_play 118 = .ok (.iinc 7 1, 3) := by decide +kernel
theorem dX9_play_121 : decode cX9_play 121 = .ok (.goto (-33), 3) := by decide +kernel
theorem dX9_play_124 : decode cX9_play 124 = .ok (.iload 6, 2) := by decide +kernel
theorem dX9_play_126 : decode cX9_play 126 = .ok (.ireturn, 1) := by decide +kernel
end
section
theorem dL_law_0 : decode cL_law 0 = .ok (.new 7, 3) := by decide +kernel
theorem dL_law_3 : decode cL_law 3 = .ok (.dup, 1) := by decide +kernel
theorem dL_law_4 : decode cL_law 4 = .ok (.invokespecial 9, 3) := by decide +kernel
theorem dL_law_7 : decode cL_law 7 = .ok (.astore_n 1, 1) := by decide +kernel
theorem dL_law_8 : decode cL_law 8 = .ok (.new 10, 3) := by decide +kernel
theorem dL_law_11 : decode cL_law 11 = .ok (.dup, 1) := by decide +kernel
theorem dL_law_12 : decode cL_law 12 = .ok (.invokespecial 12, 3) := by decide +kernel
theorem dL_law_15 : decode cL_law 15 = .ok (.astore_n 2, 1) := by decide +kernel
theorem dL_law_16 : decode cL_law 16 = .ok (.iconst 0, 1) := by decide +kernel
theorem dL_law_17 : decode cL_law 17 = .ok (.istore_n 3, 1) := by decide +kernel
theorem dL_law_18 : decode cL_law 18 = .ok (.iload_n 3, 1) := by decide +kernel
theorem dL_law_19 : decode cL_law 19 = .ok (.aload_n 0, 1) := by decide +kernel
theorem dL_law_20 : decode cL_law 20 = .ok (.arraylength, 1) := by decide +kernel
theorem dL_law_21 : decode cL_law 21 = .ok (.bipush 6, 2) := by decide +kernel
theorem dL_law_23 : decode cL_law 23 = .ok (.isub, 1) := by decide +kernel
theorem dL_law_24 : decode cL_law 24 = .ok (.if_icmp .gt 1348, 3) := by decide +kernel
theorem dL_law_27 : decode cL_law 27 = .ok (.aload_n 0, 1) := by decide +kernel
theorem dL_law_28 : decode cL_law 28 = .ok (.iload_n 3, 1) := by decide +kernel
theorem dL_law_29 : decode cL_law 29 = .ok (.iaload, 1) := by decide +kernel
theorem dL_law_30 : decode cL_law 30 = .ok (.bipush 31, 2) := by decide +kernel
theorem dL_law_32 : decode cL_law 32 = .ok (.iand, 1) := by decide +kernel
theorem dL_law_33 : decode cL_law 33 = .ok (.tableswitch 1333 0 27 #[127, 230, 283, 386, 449, 512, 565, 588, 612, 675, 699, 778, 792, 865, 928, 961, 1014, 1037, 1051, 1064, 1088, 1111, 1135, 1168, 1181, 1214, 1237, 1300], 127) := by decide +kernel
theorem dL_law_160 : decode cL_law 160 = .ok (.aload_n 1, 1) := by decide +kernel
theorem dL_law_161 : decode cL_law 161 = .ok (.aload_n 0, 1) := by decide +kernel
theorem dL_law_162 : decode cL_law 162 = .ok (.iload_n 3, 1) := by decide +kernel
theorem dL_law_163 : decode cL_law 163 = .ok (.iconst 1, 1) := by decide +kernel
theorem dL_law_164 : decode cL_law 164 = .ok (.iadd, 1) := by decide +kernel
theorem dL_law_165 : decode cL_law 165 = .ok (.iaload, 1) := by decide +kernel
theorem dL_law_166 : decode cL_law 166 = .ok (.aload_n 0, 1) := by decide +kernel
theorem dL_law_167 : decode cL_law 167 = .ok (.iload_n 3, 1) := by decide +kernel
theorem dL_law_168 : decode cL_law 168 = .ok (.iconst 2, 1) := by decide +kernel
theorem dL_law_169 : decode cL_law 169 = .ok (.iadd, 1) := by decide +kernel
theorem dL_law_170 : decode cL_law 170 = .ok (.iaload, 1) := by decide +kernel
theorem dL_law_171 : decode cL_law 171 = .ok (.i2l, 1) := by decide +kernel
theorem dL_law_172 : decode cL_law 172 = .ok (.bipush 32, 2) := by decide +kernel
theorem dL_law_174 : decode cL_law 174 = .ok (.lshl, 1) := by decide +kernel
theorem dL_law_175 : decode cL_law 175 = .ok (.aload_n 0, 1) := by decide +kernel
theorem dL_law_176 : decode cL_law 176 = .ok (.iload_n 3, 1) := by decide +kernel
theorem dL_law_177 : decode cL_law 177 = .ok (.iconst 3, 1) := by decide +kernel
theorem dL_law_178 : decode cL_law 178 = .ok (.iadd, 1) := by decide +kernel
theorem dL_law_179 : decode cL_law 179 = .ok (.iaload, 1) := by decide +kernel
theorem dL_law_180 : decode cL_law 180 = .ok (.i2l, 1) := by decide +kernel
theorem dL_law_181 : decode cL_law 181 = .ok (.ldc2_w 13, 3) := by decide +kernel
theorem dL_law_184 : decode cL_law 184 = .ok (.land, 1) := by decide +kernel
theorem dL_law_185 : decode cL_law 185 = .ok (.lor, 1) := by decide +kernel
theorem dL_law_186 : decode cL_law 186 = .ok (.aload_n 0, 1) := by decide +kernel
theorem dL_law_187 : decode cL_law 187 = .ok (.iload_n 3, 1) := by decide +kernel
theorem dL_law_188 : decode cL_law 188 = .ok (.iconst 4, 1) := by decide +kernel
theorem dL_law_189 : decode cL_law 189 = .ok (.iadd, 1) := by decide +kernel
theorem dL_law_190 : decode cL_law 190 = .ok (.iaload, 1) := by decide +kernel
theorem dL_law_191 : decode cL_law 191 = .ok (.i2l, 1) := by decide +kernel
theorem dL_law_192 : decode cL_law 192 = .ok (.bipush 32, 2) := by decide +kernel
theorem dL_law_194 : decode cL_law 194 = .ok (.lshl, 1) := by decide +kernel
theorem dL_law_195 : decode cL_law 195 = .ok (.aload_n 0, 1) := by decide +kernel
theorem dL_law_196 : decode cL_law 196 = .ok (.iload_n 3, 1) := by decide +kernel
theorem dL_law_197 : decode cL_law 197 = .ok (.iconst 5, 1) := by decide +kernel
theorem dL_law_198 : decode cL_law 198 = .ok (.iadd, 1) := by decide +kernel
theorem dL_law_199 : decode cL_law 199 = .ok (.iaload, 1) := by decide +kernel
theorem dL_law_200 : decode cL_law 200 = .ok (.i2l, 1) := by decide +kernel
theorem dL_law_201 : decode cL_law 201 = .ok (.ldc2_w 13, 3) := by decide +kernel
theorem dL_law_204 : decode cL_law 204 = .ok (.land, 1) := by decide +kernel
theorem dL_law_205 : decode cL_law 205 = .ok (.lor, 1) := by decide +kernel
theorem dL_law_206 : decode cL_law 206 = .ok (.invokevirtual 15, 3) := by decide +kernel
theorem dL_law_209 : decode cL_law 209 = .ok (.aload_n 2, 1) := by decide +kernel
theorem dL_law_210 : decode cL_law 210 = .ok (.aload_n 0, 1) := by decide +kernel
theorem dL_law_211 : decode cL_law 211 = .ok (.iload_n 3, 1) := by decide +kernel
theorem dL_law_212 : decode cL_law 212 = .ok (.iconst 1, 1) := by decide +kernel
theorem dL_law_213 : decode cL_law 213 = .ok (.iadd, 1) := by decide +kernel
theorem dL_law_214 : decode cL_law 214 = .ok (.iaload, 1) := by decide +kernel
theorem dL_law_215 : decode cL_law 215 = .ok (.aload_n 0, 1) := by decide +kernel
theorem dL_law_216 : decode cL_law 216 = .ok (.iload_n 3, 1) := by decide +kernel
theorem dL_law_217 : decode cL_law 217 = .ok (.iconst 2, 1) := by decide +kernel
theorem dL_law_218 : decode cL_law 218 = .ok (.iadd, 1) := by decide +kernel
theorem dL_law_219 : decode cL_law 219 = .ok (.iaload, 1) := by decide +kernel
theorem dL_law_220 : decode cL_law 220 = .ok (.i2l, 1) := by decide +kernel
theorem dL_law_221 : decode cL_law 221 = .ok (.bipush 32, 2) := by decide +kernel
theorem dL_law_223 : decode cL_law 223 = .ok (.lshl, 1) := by decide +kernel
theorem dL_law_224 : decode cL_law 224 = .ok (.aload_n 0, 1) := by decide +kernel
theorem dL_law_225 : decode cL_law 225 = .ok (.iload_n 3, 1) := by decide +kernel
theorem dL_law_226 : decode cL_law 226 = .ok (.iconst 3, 1) := by decide +kernel
theorem dL_law_227 : decode cL_law 227 = .ok (.iadd, 1) := by decide +kernel
theorem dL_law_228 : decode cL_law 228 = .ok (.iaload, 1) := by decide +kernel
theorem dL_law_229 : decode cL_law 229 = .ok (.i2l, 1) := by decide +kernel
theorem dL_law_230 : decode cL_law 230 = .ok (.ldc2_w 13, 3) := by decide +kernel
theorem dL_law_233 : decode cL_law 233 = .ok (.land, 1) := by decide +kernel
theorem dL_law_234 : decode cL_law 234 = .ok (.lor, 1) := by decide +kernel
theorem dL_law_235 : decode cL_law 235 = .ok (.aload_n 0, 1) := by decide +kernel
theorem dL_law_236 : decode cL_law 236 = .ok (.iload_n 3, 1) := by decide +kernel
theorem dL_law_237 : decode cL_law 237 = .ok (.iconst 4, 1) := by decide +kernel
theorem dL_law_238 : decode cL_law 238 = .ok (.iadd, 1) := by decide +kernel
theorem dL_law_239 : decode cL_law 239 = .ok (.iaload, 1) := by decide +kernel
theorem dL_law_240 : decode cL_law 240 = .ok (.i2l, 1) := by decide +kernel
theorem dL_law_241 : decode cL_law 241 = .ok (.bipush 32, 2) := by decide +kernel
theorem dL_law_243 : decode cL_law 243 = .ok (.lshl, 1) := by decide +kernel
theorem dL_law_244 : decode cL_law 244 = .ok (.aload_n 0, 1) := by decide +kernel
theorem dL_law_245 : decode cL_law 245 = .ok (.iload_n 3, 1) := by decide +kernel
theorem dL_law_246 : decode cL_law 246 = .ok (.iconst 5, 1) := by decide +kernel
theorem dL_law_247 : decode cL_law 247 = .ok (.iadd, 1) := by decide +kernel
theorem dL_law_248 : decode cL_law 248 = .ok (.iaload, 1) := by decide +kernel
theorem dL_law_249 : decode cL_law 249 = .ok (.i2l, 1) := by decide +kernel
theorem dL_law_250 : decode cL_law 250 = .ok (.ldc2_w 13, 3) := by decide +kernel
theorem dL_law_253 : decode cL_law 253 = .ok (.land, 1) := by decide +kernel
theorem dL_law_254 : decode cL_law 254 = .ok (.lor, 1) := by decide +kernel
theorem dL_law_255 : decode cL_law 255 = .ok (.invokevirtual 19, 3) := by decide +kernel
theorem dL_law_258 : decode cL_law 258 = .ok (.if_icmp .eq 1108, 3) := by decide +kernel
theorem dL_law_261 : decode cL_law 261 = .ok (.iconst 0, 1) := by decide +kernel
theorem dL_law_262 : decode cL_law 262 = .ok (.ireturn, 1) := by decide +kernel
theorem dL_law_263 : decode cL_law 263 = .ok (.aload_n 1, 1) := by decide +kernel
theorem dL_law_264 : decode cL_law 264 = .ok (.aload_n 0, 1) := by decide +kernel
theorem dL_law_265 : decode cL_law 265 = .ok (.iload_n 3, 1) := by decide +kernel
theorem dL_law_266 : decode cL_law 266 = .ok (.iconst 1, 1) := by decide +kernel
theorem dL_law_267 : decode cL_law 267 = .ok (.iadd, 1) := by decide +kernel
theorem dL_law_268 : decode cL_law 268 = .ok (.iaload, 1) := by decide +kernel
theorem dL_law_269 : decode cL_law 269 = .ok (.i2l, 1) := by decide +kernel
theorem dL_law_270 : decode cL_law 270 = .ok (.bipush 32, 2) := by decide +kernel
theorem dL_law_272 : decode cL_law 272 = .ok (.lshl, 1) := by decide +kernel
theorem dL_law_273 : decode cL_law 273 = .ok (.aload_n 0, 1) := by decide +kernel
theorem dL_law_274 : decode cL_law 274 = .ok (.iload_n 3, 1) := by decide +kernel
theorem dL_law_275 : decode cL_law 275 = .ok (.iconst 2, 1) := by decide +kernel
theorem dL_law_276 : decode cL_law 276 = .ok (.iadd, 1) := by decide +kernel
theorem dL_law_277 : decode cL_law 277 = .ok (.iaload, 1) := by decide +kernel
theorem dL_law_278 : decode cL_law 278 = .ok (.i2l, 1) := by decide +kernel
theorem dL_law_279 : decode cL_law 279 = .ok (.ldc2_w 13, 3) := by decide +kernel
theorem dL_law_282 : decode cL_law 282 = .ok (.land, 1) := by decide +kernel
theorem dL_law_283 : decode cL_law 283 = .ok (.lor, 1) := by decide +kernel
theorem dL_law_284 : decode cL_law 284 = .ok (.invokevirtual 20, 3) := by decide +kernel
theorem dL_law_287 : decode cL_law 287 = .ok (.aload_n 2, 1) := by decide +kernel
theorem dL_law_288 : decode cL_law 288 = .ok (.aload_n 0, 1) := by decide +kernel
theorem dL_law_289 : decode cL_law 289 = .ok (.iload_n 3, 1) := by decide +kernel
theorem dL_law_290 : decode cL_law 290 = .ok (.iconst 1, 1) := by decide +kernel
theorem dL_law_291 : decode cL_law 291 = .ok (.iadd, 1) := by decide +kernel
theorem dL_law_292 : decode cL_law 292 = .ok (.iaload, 1) := by decide +kernel
theorem dL_law_293 : decode cL_law 293 = .ok (.i2l, 1) := by decide +kernel
theorem dL_law_294 : decode cL_law 294 = .ok (.bipush 32, 2) := by decide +kernel
theorem dL_law_296 : decode cL_law 296 = .ok (.lshl, 1) := by decide +kernel
theorem dL_law_297 : decode cL_law 297 = .ok (.aload_n 0, 1) := by decide +kernel
theorem dL_law_298 : decode cL_law 298 = .ok (.iload_n 3, 1) := by decide +kernel
theorem dL_law_299 : decode cL_law 299 = .ok (.iconst 2, 1) := by decide +kernel
theorem dL_law_300 : decode cL_law 300 = .ok (.iadd, 1) := by decide +kernel
theorem dL_law_301 : decode cL_law 301 = .ok (.iaload, 1) := by decide +kernel
theorem dL_law_302 : decode cL_law 302 = .ok (.i2l, 1) := by decide +kernel
theorem dL_law_303 : decode cL_law 303 = .ok (.ldc2_w 13, 3) := by decide +kernel
theorem dL_law_306 : decode cL_law 306 = .ok (.land, 1) := by decide +kernel
theorem dL_law_307 : decode cL_law 307 = .ok (.lor, 1) := by decide +kernel
theorem dL_law_308 : decode cL_law 308 = .ok (.invokevirtual 24, 3) := by decide +kernel
theorem dL_law_311 : decode cL_law 311 = .ok (.if_icmp .eq 1055, 3) := by decide +kernel
theorem dL_law_314 : decode cL_law 314 = .ok (.iconst 0, 1) := by decide +kernel
theorem dL_law_315 : decode cL_law 315 = .ok (.ireturn, 1) := by decide +kernel
theorem dL_law_316 : decode cL_law 316 = .ok (.aload_n 1, 1) := by decide +kernel
theorem dL_law_317 : decode cL_law 317 = .ok (.aload_n 0, 1) := by decide +kernel
theorem dL_law_318 : decode cL_law 318 = .ok (.iload_n 3, 1) := by decide +kernel
theorem dL_law_319 : decode cL_law 319 = .ok (.iconst 1, 1) := by decide +kernel
theorem dL_law_320 : decode cL_law 320 = .ok (.iadd, 1) := by decide +kernel
theorem dL_law_321 : decode cL_law 321 = .ok (.iaload, 1) := by decide +kernel
theorem dL_law_322 : decode cL_law 322 = .ok (.aload_n 0, 1) := by decide +kernel
theorem dL_law_323 : decode cL_law 323 = .ok (.iload_n 3, 1) := by decide +kernel
theorem dL_law_324 : decode cL_law 324 = .ok (.iconst 2, 1) := by decide +kernel
theorem dL_law_325 : decode cL_law 325 = .ok (.iadd, 1) := by decide +kernel
theorem dL_law_326 : decode cL_law 326 = .ok (.iaload, 1) := by decide +kernel
theorem dL_law_327 : decode cL_law 327 = .ok (.i2l, 1) := by decide +kernel
theorem dL_law_328 : decode cL_law 328 = .ok (.bipush 32, 2) := by decide +kernel
theorem dL_law_330 : decode cL_law 330 = .ok (.lshl, 1) := by decide +kernel
theorem dL_law_331 : decode cL_law 331 = .ok (.aload_n 0, 1) := by decide +kernel
theorem dL_law_332 : decode cL_law 332 = .ok (.iload_n 3, 1) := by decide +kernel
theorem dL_law_333 : decode cL_law 333 = .ok (.iconst 3, 1) := by decide +kernel
theorem dL_law_334 : decode cL_law 334 = .ok (.iadd, 1) := by decide +kernel
theorem dL_law_335 : decode cL_law 335 = .ok (.iaload, 1) := by decide +kernel
theorem dL_law_336 : decode cL_law 336 = .ok (.i2l, 1) := by decide +kernel
theorem dL_law_337 : decode cL_law 337 = .ok (.ldc2_w 13, 3) := by decide +kernel
theorem dL_law_340 : decode cL_law 340 = .ok (.land, 1) := by decide +kernel
theorem dL_law_341 : decode cL_law 341 = .ok (.lor, 1) := by decide +kernel
theorem dL_law_342 : decode cL_law 342 = .ok (.aload_n 0, 1) := by decide +kernel
theorem dL_law_343 : decode cL_law 343 = .ok (.iload_n 3, 1) := by decide +kernel
theorem dL_law_344 : decode cL_law 344 = .ok (.iconst 4, 1) := by decide +kernel
theorem dL_law_345 : decode cL_law 345 = .ok (.iadd, 1) := by decide +kernel
theorem dL_law_346 : decode cL_law 346 = .ok (.iaload, 1) := by decide +kernel
theorem dL_law_347 : decode cL_law 347 = .ok (.i2l, 1) := by decide +kernel
theorem dL_law_348 : decode cL_law 348 = .ok (.bipush 32, 2) := by decide +kernel
theorem dL_law_350 : decode cL_law 350 = .ok (.lshl, 1) := by decide +kernel
theorem dL_law_351 : decode cL_law 351 = .ok (.aload_n 0, 1) := by decide +kernel
theorem dL_law_352 : decode cL_law 352 = .ok (.iload_n 3, 1) := by decide +kernel
theorem dL_law_353 : decode cL_law 353 = .ok (.iconst 5, 1) := by decide +kernel
theorem dL_law_354 : decode cL_law 354 = .ok (.iadd, 1) := by decide +kernel
theorem dL_law_355 : decode cL_law 355 = .ok (.iaload, 1) := by decide +kernel
theorem dL_law_356 : decode cL_law 356 = .ok (.i2l, 1) := by decide +kernel
theorem dL_law_357 : decode cL_law 357 = .ok (.ldc2_w 13, 3) := by decide +kernel
theorem dL_law_360 : decode cL_law 360 = .ok (.land, 1) := by decide +kernel
theorem dL_law_361 : decode cL_law 361 = .ok (.lor, 1) := by decide +kernel
theorem dL_law_362 : decode cL_law 362 = .ok (.invokevirtual 25, 3) := by decide +kernel
theorem dL_law_365 : decode cL_law 365 = .ok (.aload_n 2, 1) := by decide +kernel
theorem dL_law_366 : decode cL_law 366 = .ok (.aload_n 0, 1) := by decide +kernel
theorem dL_law_367 : decode cL_law 367 = .ok (.iload_n 3, 1) := by decide +kernel
theorem dL_law_368 : decode cL_law 368 = .ok (.iconst 1, 1) := by decide +kernel
theorem dL_law_369 : decode cL_law 369 = .ok (.iadd, 1) := by decide +kernel
theorem dL_law_370 : decode cL_law 370 = .ok (.iaload, 1) := by decide +kernel
theorem dL_law_371 : decode cL_law 371 = .ok (.aload_n 0, 1) := by decide +kernel
theorem dL_law_372 : decode cL_law 372 = .ok (.iload_n 3, 1) := by decide +kernel
theorem dL_law_373 : decode cL_law 373 = .ok (.iconst 2, 1) := by decide +kernel
theorem dL_law_374 : decode cL_law 374 = .ok (.iadd, 1) := by decide +kernel
theorem dL_law_375 : decode cL_law 375 = .ok (.iaload, 1) := by decide +kernel
theorem dL_law_376 : decode cL_law 376 = .ok (.i2l, 1) := by decide +kernel
theorem dL_law_377 : decode cL_law 377 = .ok (.bipush 32, 2) := by decide +kernel
theorem dL_law_379 : decode cL_law 379 = .ok (.lshl, 1) := by decide +kernel
theorem dL_law_380 : decode cL_law 380 = .ok (.aload_n 0, 1) := by decide +kernel
theorem dL_law_381 : decode cL_law 381 = .ok (.iload_n 3, 1) := by decide +kernel
theorem dL_law_382 : decode cL_law 382 = .ok (.iconst 3, 1) := by decide +kernel
theorem dL_law_383 : decode cL_law 383 = .ok (.iadd, 1) := by decide +kernel
theorem dL_law_384 : decode cL_law 384 = .ok (.iaload, 1) := by decide +kernel
theorem dL_law_385 : decode cL_law 385 = .ok (.i2l, 1) := by decide +kernel
theorem dL_law_386 : decode cL_law 386 = .ok (.ldc2_w 13, 3) := by decide +kernel
theorem dL_law_389 : decode cL_law 389 = .ok (.land, 1) := by decide +kernel
theorem dL_law_390 : decode cL_law 390 = .ok (.lor, 1) := by decide +kernel
theorem dL_law_391 : decode cL_law 391 = .ok (.aload_n 0, 1) := by decide +kernel
theorem dL_law_392 : decode cL_law 392 = .ok (.iload_n 3, 1) := by decide +kernel
theorem dL_law_393 : decode cL_law 393 = .ok (.iconst 4, 1) := by decide +kernel
theorem dL_law_394 : decode cL_law 394 = .ok (.iadd, 1) := by decide +kernel
theorem dL_law_395 : decode cL_law 395 = .ok (.iaload, 1) := by decide +kernel
theorem dL_law_396 : decode cL_law 396 = .ok (.i2l, 1) := by decide +kernel
theorem dL_law_397 : decode cL_law 397 = .ok (.bipush 32, 2) := by decide +kernel
theorem dL_law_399 : decode cL_law 399 = .ok (.lshl, 1) := by decide +kernel
theorem dL_law_400 : decode cL_law 400 = .ok (.aload_n 0, 1) := by decide +kernel
theorem dL_law_401 : decode cL_law 401 = .ok (.iload_n 3, 1) := by decide +kernel
theorem dL_law_402 : decode cL_law 402 = .ok (.iconst 5, 1) := by decide +kernel
theorem dL_law_403 : decode cL_law 403 = .ok (.iadd, 1) := by decide +kernel
theorem dL_law_404 : decode cL_law 404 = .ok (.iaload, 1) := by decide +kernel
theorem dL_law_405 : decode cL_law 405 = .ok (.i2l, 1) := by decide +kernel
theorem dL_law_406 : decode cL_law 406 = .ok (.ldc2_w 13, 3) := by decide +kernel
theorem dL_law_409 : decode cL_law 409 = .ok (.land, 1) := by decide +kernel
theorem dL_law_410 : decode cL_law 410 = .ok (.lor, 1) := by decide +kernel
theorem dL_law_411 : decode cL_law 411 = .ok (.invokevirtual 28, 3) := by decide +kernel
theorem dL_law_414 : decode cL_law 414 = .ok (.if_icmp .eq 952, 3) := by decide +kernel
theorem dL_law_417 : decode cL_law 417 = .ok (.iconst 0, 1) := by decide +kernel
theorem dL_law_418 : decode cL_law 418 = .ok (.ireturn, 1) := by decide +kernel
theorem dL_law_419 : decode cL_law 419 = .ok (.aload_n 1, 1) := by decide +kernel
theorem dL_law_420 : decode cL_law 420 = .ok (.aload_n 0, 1) := by decide +kernel
theorem dL_law_421 : decode cL_law 421 = .ok (.iload_n 3, 1) := by decide +kernel
theorem dL_law_422 : decode cL_law 422 = .ok (.iconst 1, 1) := by decide +kernel
theorem dL_law_423 : decode cL_law 423 = .ok (.iadd, 1) := by decide +kernel
theorem dL_law_424 : decode cL_law 424 = .ok (.iaload, 1) := by decide +kernel
theorem dL_law_425 : decode cL_law 425 = .ok (.aload_n 0, 1) := by decide +kernel
theorem dL_law_426 : decode cL_law 426 = .ok (.iload_n 3, 1) := by decide +kernel
theorem dL_law_427 : decode cL_law 427 = .ok (.iconst 2, 1) := by decide +kernel
theorem dL_law_428 : decode cL_law 428 = .ok (.iadd, 1) := by decide +kernel
theorem dL_law_429 : decode cL_law 429 = .ok (.iaload, 1) := by decide +kernel
theorem dL_law_430 : decode cL_law 430 = .ok (.i2l, 1) := by decide +kernel
theorem dL_law_431 : decode cL_law 431 = .ok (.bipush 32, 2) := by decide +kernel
theorem dL_law_433 : decode cL_law 433 = .ok (.lshl, 1) := by decide +kernel
theorem dL_law_434 : decode cL_law 434 = .ok (.aload_n 0, 1) := by decide +kernel
theorem dL_law_435 : decode cL_law 435 = .ok (.iload_n 3, 1) := by decide +kernel
theorem dL_law_436 : decode cL_law 436 = .ok (.iconst 3, 1) := by decide +kernel
theorem dL_law_437 : decode cL_law 437 = .ok (.iadd, 1) := by decide +kernel
theorem dL_law_438 : decode cL_law 438 = .ok (.iaload, 1) := by decide +kernel
theorem dL_law_439 : decode cL_law 439 = .ok (.i2l, 1) := by decide +kernel
theorem dL_law_440 : decode cL_law 440 = .ok (.ldc2_w 13, 3) := by decide +kernel
theorem dL_law_443 : decode cL_law 443 = .ok (.land, 1) := by decide +kernel
theorem dL_law_444 : decode cL_law 444 = .ok (.lor, 1) := by decide +kernel
theorem dL_law_445 : decode cL_law 445 = .ok (.invokevirtual 29, 3) := by decide +kernel
theorem dL_law_448 : decode cL_law 448 = .ok (.aload_n 2, 1) := by decide +kernel
theorem dL_law_449 : decode cL_law 449 = .ok (.aload_n 0, 1) := by decide +kernel
theorem dL_law_450 : decode cL_law 450 = .ok (.iload_n 3, 1) := by decide +kernel
theorem dL_law_451 : decode cL_law 451 = .ok (.iconst 1, 1) := by decide +kernel
theorem dL_law_452 : decode cL_law 452 = .ok (.iadd, 1) := by decide +kernel
theorem dL_law_453 : decode cL_law 453 = .ok (.iaload, 1) := by decide +kernel
theorem dL_law_454 : decode cL_law 454 = .ok (.aload_n 0, 1) := by decide +kernel
theorem dL_law_455 : decode cL_law 455 = .ok (.iload_n 3, 1) := by decide +kernel
theorem dL_law_456 : decode cL_law 456 = .ok (.iconst 2, 1) := by decide +kernel
theorem dL_law_457 : decode cL_law 457 = .ok (.iadd, 1) := by decide +kernel
theorem dL_law_458 : decode cL_law 458 = .ok (.iaload, 1) := by decide +kernel
theorem dL_law_459 : decode cL_law 459 = .ok (.i2l, 1) := by decide +kernel
theorem dL_law_460 : decode cL_law 460 = .ok (.bipush 32, 2) := by decide +kernel
theorem dL_law_462 : decode cL_law 462 = .ok (.lshl, 1) := by decide +kernel
theorem dL_law_463 : decode cL_law 463 = .ok (.aload_n 0, 1) := by decide +kernel
theorem dL_law_464 : decode cL_law 464 = .ok (.iload_n 3, 1) := by decide +kernel
theorem dL_law_465 : decode cL_law 465 = .ok (.iconst 3, 1) := by decide +kernel
theorem dL_law_466 : decode cL_law 466 = .ok (.iadd, 1) := by decide +kernel
theorem dL_law_467 : decode cL_law 467 = .ok (.iaload, 1) := by decide +kernel
theorem dL_law_468 : decode cL_law 468 = .ok (.i2l, 1) := by decide +kernel
theorem dL_law_469 : decode cL_law 469 = .ok (.ldc2_w 13, 3) := by decide +kernel
theorem dL_law_472 : decode cL_law 472 = .ok (.land, 1) := by decide +kernel
theorem dL_law_473 : decode cL_law 473 = .ok (.lor, 1) := by decide +kernel
theorem dL_law_474 : decode cL_law 474 = .ok (.invokevirtual 33, 3) := by decide +kernel
theorem dL_law_477 : decode cL_law 477 = .ok (.if_icmp .eq 889, 3) := by decide +kernel
theorem dL_law_480 : decode cL_law 480 = .ok (.iconst 0, 1) := by decide +kernel
theorem dL_law_481 : decode cL_law 481 = .ok (.ireturn, 1) := by decide +kernel
theorem dL_law_482 : decode cL_law 482 = .ok (.aload_n 1, 1) := by decide +kernel
theorem dL_law_483 : decode cL_law 483 = .ok (.aload_n 0, 1) := by decide +kernel
theorem dL_law_484 : decode cL_law 484 = .ok (.iload_n 3, 1) := by decide +kernel
theorem dL_law_485 : decode cL_law 485 = .ok (.iconst 1, 1) := by decide +kernel
theorem dL_law_486 : decode cL_law 486 = .ok (.iadd, 1) := by decide +kernel
theorem dL_law_487 : decode cL_law 487 = .ok (.iaload, 1) := by decide +kernel
theorem dL_law_488 : decode cL_law 488 = .ok (.aload_n 0, 1) := by decide +kernel
theorem dL_law_489 : decode cL_law 489 = .ok (.iload_n 3, 1) := by decide +kernel
theorem dL_law_490 : decode cL_law 490 = .ok (.iconst 2, 1) := by decide +kernel
theorem dL_law_491 : decode cL_law 491 = .ok (.iadd, 1) := by decide +kernel
theorem dL_law_492 : decode cL_law 492 = .ok (.iaload, 1) := by decide +kernel
theorem dL_law_493 : decode cL_law 493 = .ok (.i2l, 1) := by decide +kernel
theorem dL_law_494 : decode cL_law 494 = .ok (.bipush 32, 2) := by decide +kernel
theorem dL_law_496 : decode cL_law 496 = .ok (.lshl, 1) := by decide +kernel
theorem dL_law_497 : decode cL_law 497 = .ok (.aload_n 0, 1) := by decide +kernel
theorem dL_law_498 : decode cL_law 498 = .ok (.iload_n 3, 1) := by decide +kernel
theorem dL_law_499 : decode cL_law 499 = .ok (.iconst 3, 1) := by decide +kernel
theorem dL_law_500 : decode cL_law 500 = .ok (.iadd, 1) := by decide +kernel
theorem dL_law_501 : decode cL_law 501 = .ok (.iaload, 1) := by decide +kernel
theorem dL_law_502 : decode cL_law 502 = .ok (.i2l, 1) := by decide +kernel
theorem dL_law_503 : decode cL_law 503 = .ok (.ldc2_w 13, 3) := by decide +kernel
theorem dL_law_506 : decode cL_law 506 = .ok (.land, 1) := by decide +kernel
theorem dL_law_507 : decode cL_law 507 = .ok (.lor, 1) := by decide +kernel
theorem dL_law_508 : decode cL_law 508 = .ok (.invokevirtual 34, 3) := by decide +kernel
theorem dL_law_511 : decode cL_law 511 = .ok (.aload_n 2, 1) := by decide +kernel
theorem dL_law_512 : decode cL_law 512 = .ok (.aload_n 0, 1) := by decide +kernel
theorem dL_law_513 : decode cL_law 513 = .ok (.iload_n 3, 1) := by decide +kernel
theorem dL_law_514 : decode cL_law 514 = .ok (.iconst 1, 1) := by decide +kernel
theorem dL_law_515 : decode cL_law 515 = .ok (.iadd, 1) := by decide +kernel
theorem dL_law_516 : decode cL_law 516 = .ok (.iaload, 1) := by decide +kernel
theorem dL_law_517 : decode cL_law 517 = .ok (.aload_n 0, 1) := by decide +kernel
theorem dL_law_518 : decode cL_law 518 = .ok (.iload_n 3, 1) := by decide +kernel
theorem dL_law_519 : decode cL_law 519 = .ok (.iconst 2, 1) := by decide +kernel
theorem dL_law_520 : decode cL_law 520 = .ok (.iadd, 1) := by decide +kernel
theorem dL_law_521 : decode cL_law 521 = .ok (.iaload, 1) := by decide +kernel
theorem dL_law_522 : decode cL_law 522 = .ok (.i2l, 1) := by decide +kernel
theorem dL_law_523 : decode cL_law 523 = .ok (.bipush 32, 2) := by decide +kernel
theorem dL_law_525 : decode cL_law 525 = .ok (.lshl, 1) := by decide +kernel
theorem dL_law_526 : decode cL_law 526 = .ok (.aload_n 0, 1) := by decide +kernel
theorem dL_law_527 : decode cL_law 527 = .ok (.iload_n 3, 1) := by decide +kernel
theorem dL_law_528 : decode cL_law 528 = .ok (.iconst 3, 1) := by decide +kernel
theorem dL_law_529 : decode cL_law 529 = .ok (.iadd, 1) := by decide +kernel
theorem dL_law_530 : decode cL_law 530 = .ok (.iaload, 1) := by decide +kernel
theorem dL_law_531 : decode cL_law 531 = .ok (.i2l, 1) := by decide +kernel
theorem dL_law_532 : decode cL_law 532 = .ok (.ldc2_w 13, 3) := by decide +kernel
theorem dL_law_535 : decode cL_law 535 = .ok (.land, 1) := by decide +kernel
theorem dL_law_536 : decode cL_law 536 = .ok (.lor, 1) := by decide +kernel
theorem dL_law_537 : decode cL_law 537 = .ok (.invokevirtual 37, 3) := by decide +kernel
theorem dL_law_540 : decode cL_law 540 = .ok (.if_icmp .eq 826, 3) := by decide +kernel
theorem dL_law_543 : decode cL_law 543 = .ok (.iconst 0, 1) := by decide +kernel
theorem dL_law_544 : decode cL_law 544 = .ok (.ireturn, 1) := by decide +kernel
theorem dL_law_545 : decode cL_law 545 = .ok (.aload_n 1, 1) := by decide +kernel
theorem dL_law_546 : decode cL_law 546 = .ok (.aload_n 0, 1) := by decide +kernel
theorem dL_law_547 : decode cL_law 547 = .ok (.iload_n 3, 1) := by decide +kernel
theorem dL_law_548 : decode cL_law 548 = .ok (.iconst 1, 1) := by decide +kernel
theorem dL_law_549 : decode cL_law 549 = .ok (.iadd, 1) := by decide +kernel
theorem dL_law_550 : decode cL_law 550 = .ok (.iaload, 1) := by decide +kernel
theorem dL_law_551 : decode cL_law 551 = .ok (.i2l, 1) := by decide +kernel
theorem dL_law_552 : decode cL_law 552 = .ok (.bipush 32, 2) := by decide +kernel
theorem dL_law_554 : decode cL_law 554 = .ok (.lshl, 1) := by decide +kernel
theorem dL_law_555 : decode cL_law 555 = .ok (.aload_n 0, 1) := by decide +kernel
theorem dL_law_556 : decode cL_law 556 = .ok (.iload_n 3, 1) := by decide +kernel
theorem dL_law_557 : decode cL_law 557 = .ok (.iconst 2, 1) := by decide +kernel
theorem dL_law_558 : decode cL_law 558 = .ok (.iadd, 1) := by decide +kernel
theorem dL_law_559 : decode cL_law 559 = .ok (.iaload, 1) := by decide +kernel
theorem dL_law_560 : decode cL_law 560 = .ok (.i2l, 1) := by decide +kernel
theorem dL_law_561 : decode cL_law 561 = .ok (.ldc2_w 13, 3) := by decide +kernel
theorem dL_law_564 : decode cL_law 564 = .ok (.land, 1) := by decide +kernel
theorem dL_law_565 : decode cL_law 565 = .ok (.lor, 1) := by decide +kernel
theorem dL_law_566 : decode cL_law 566 = .ok (.invokevirtual 38, 3) := by decide +kernel
theorem dL_law_569 : decode cL_law 569 = .ok (.aload_n 2, 1) := by decide +kernel
theorem dL_law_570 : decode cL_law 570 = .ok (.aload_n 0, 1) := by decide +kernel
theorem dL_law_571 : decode cL_law 571 = .ok (.iload_n 3, 1) := by decide +kernel
theorem dL_law_572 : decode cL_law 572 = .ok (.iconst 1, 1) := by decide +kernel
theorem dL_law_573 : decode cL_law 573 = .ok (.iadd, 1) := by decide +kernel
theorem dL_law_574 : decode cL_law 574 = .ok (.iaload, 1) := by decide +kernel
theorem dL_law_575 : decode cL_law 575 = .ok (.i2l, 1) := by decide +kernel
theorem dL_law_576 : decode cL_law 576 = .ok (.bipush 32, 2) := by decide +kernel
theorem dL_law_578 : decode cL_law 578 = .ok (.lshl, 1) := by decide +kernel
theorem dL_law_579 : decode cL_law 579 = .ok (.aload_n 0, 1) := by decide +kernel
theorem dL_law_580 : decode cL_law 580 = .ok (.iload_n 3, 1) := by decide +kernel
theorem dL_law_581 : decode cL_law 581 = .ok (.iconst 2, 1) := by decide +kernel
theorem dL_law_582 : decode cL_law 582 = .ok (.iadd, 1) := by decide +kernel
theorem dL_law_583 : decode cL_law 583 = .ok (.iaload, 1) := by decide +kernel
theorem dL_law_584 : decode cL_law 584 = .ok (.i2l, 1) := by decide +kernel
theorem dL_law_585 : decode cL_law 585 = .ok (.ldc2_w 13, 3) := by decide +kernel
theorem dL_law_588 : decode cL_law 588 = .ok (.land, 1) := by decide +kernel
theorem dL_law_589 : decode cL_law 589 = .ok (.lor, 1) := by decide +kernel
theorem dL_law_590 : decode cL_law 590 = .ok (.invokevirtual 41, 3) := by decide +kernel
theorem dL_law_593 : decode cL_law 593 = .ok (.if_icmp .eq 773, 3) := by decide +kernel
theorem dL_law_596 : decode cL_law 596 = .ok (.iconst 0, 1) := by decide +kernel
theorem dL_law_597 : decode cL_law 597 = .ok (.ireturn, 1) := by decide +kernel
theorem dL_law_598 : decode cL_law 598 = .ok (.aload_n 1, 1) := by decide +kernel
theorem dL_law_599 : decode cL_law 599 = .ok (.aload_n 0, 1) := by decide +kernel
theorem dL_law_600 : decode cL_law 600 = .ok (.iload_n 3, 1) := by decide +kernel
theorem dL_law_601 : decode cL_law 601 = .ok (.iconst 1, 1) := by decide +kernel
theorem dL_law_602 : decode cL_law 602 = .ok (.iadd, 1) := by decide +kernel
theorem dL_law_603 : decode cL_law 603 = .ok (.iaload, 1) := by decide +kernel
theorem dL_law_604 : decode cL_law 604 = .ok (.invokevirtual 42, 3) := by decide +kernel
theorem dL_law_607 : decode cL_law 607 = .ok (.aload_n 2, 1) := by decide +kernel
theorem dL_law_608 : decode cL_law 608 = .ok (.aload_n 0, 1) := by decide +kernel
theorem dL_law_609 : decode cL_law 609 = .ok (.iload_n 3, 1) := by decide +kernel
theorem dL_law_610 : decode cL_law 610 = .ok (.iconst 1, 1) := by decide +kernel
theorem dL_law_611 : decode cL_law 611 = .ok (.iadd, 1) := by decide +kernel
theorem dL_law_612 : decode cL_law 612 = .ok (.iaload, 1) := by decide +kernel
theorem dL_law_613 : decode cL_law 613 = .ok (.invokevirtual 46, 3) := by decide +kernel
theorem dL_law_616 : decode cL_law 616 = .ok (.if_icmp .eq 750, 3) := by decide +kernel
theorem dL_law_619 : decode cL_law 619 = .ok (.iconst 0, 1) := by decide +kernel
theorem dL_law_620 : decode cL_law 620 = .ok (.ireturn, 1) := by decide +kernel
theorem dL_law_621 : decode cL_law 621 = .ok (.aload_n 1, 1) := by decide +kernel
theorem dL_law_622 : decode cL_law 622 = .ok (.aload_n 0, 1) := by decide +kernel
theorem dL_law_623 : decode cL_law 623 = .ok (.iload_n 3, 1) := by decide +kernel
theorem dL_law_624 : decode cL_law 624 = .ok (.iconst 1, 1) := by decide +kernel
theorem dL_law_625 : decode cL_law 625 = .ok (.iadd, 1) := by decide +kernel
theorem dL_law_626 : decode cL_law 626 = .ok (.iaload, 1) := by decide +kernel
theorem dL_law_627 : decode cL_law 627 = .ok (.invokevirtual 47, 3) := by decide +kernel
theorem dL_law_630 : decode cL_law 630 = .ok (.aload_n 2, 1) := by decide +kernel
theorem dL_law_631 : decode cL_law 631 = .ok (.aload_n 0, 1) := by decide +kernel
theorem dL_law_632 : decode cL_law 632 = .ok (.iload_n 3, 1) := by decide +kernel
theorem dL_law_633 : decode cL_law 633 = .ok (.iconst 1, 1) := by decide +kernel
theorem dL_law_634 : decode cL_law 634 = .ok (.iadd, 1) := by decide +kernel
theorem dL_law_635 : decode cL_law 635 = .ok (.iaload, 1) := by decide +kernel
theorem dL_law_636 : decode cL_law 636 = .ok (.invokevirtual 51, 3) := by decide +kernel
theorem dL_law_639 : decode cL_law 639 = .ok (.lcmp, 1) := by decide +kernel
theorem dL_law_640 : decode cL_law 640 = .ok (.ifCond .eq 726, 3) := by decide +kernel
theorem dL_law_643 : decode cL_law 643 = .ok (.iconst 0, 1) := by decide +kernel
theorem dL_law_644 : decode cL_law 644 = .ok (.ireturn, 1) := by decide +kernel
theorem dL_law_645 : decode cL_law 645 = .ok (.aload_n 1, 1) := by decide +kernel
theorem dL_law_646 : decode cL_law 646 = .ok (.aload_n 0, 1) := by decide +kernel
theorem dL_law_647 : decode cL_law 647 = .ok (.iload_n 3, 1) := by decide +kernel
theorem dL_law_648 : decode cL_law 648 = .ok (.iconst 1, 1) := by decide +kernel
theorem dL_law_649 : decode cL_law 649 = .ok (.iadd, 1) := by decide +kernel
theorem dL_law_650 : decode cL_law 650 = .ok (.iaload, 1) := by decide +kernel
theorem dL_law_651 : decode cL_law 651 = .ok (.aload_n 0, 1) := by decide +kernel
theorem dL_law_652 : decode cL_law 652 = .ok (.iload_n 3, 1) := by decide +kernel
theorem dL_law_653 : decode cL_law 653 = .ok (.iconst 2, 1) := by decide +kernel
theorem dL_law_654 : decode cL_law 654 = .ok (.iadd, 1) := by decide +kernel
theorem dL_law_655 : decode cL_law 655 = .ok (.iaload, 1) := by decide +kernel
theorem dL_law_656 : decode cL_law 656 = .ok (.i2l, 1) := by decide +kernel
theorem dL_law_657 : decode cL_law 657 = .ok (.bipush 32, 2) := by decide +kernel
theorem dL_law_659 : decode cL_law 659 = .ok (.lshl, 1) := by decide +kernel
theorem dL_law_660 : decode cL_law 660 = .ok (.aload_n 0, 1) := by decide +kernel
theorem dL_law_661 : decode cL_law 661 = .ok (.iload_n 3, 1) := by decide +kernel
theorem dL_law_662 : decode cL_law 662 = .ok (.iconst 3, 1) := by decide +kernel
theorem dL_law_663 : decode cL_law 663 = .ok (.iadd, 1) := by decide +kernel
theorem dL_law_664 : decode cL_law 664 = .ok (.iaload, 1) := by decide +kernel
theorem dL_law_665 : decode cL_law 665 = .ok (.i2l, 1) := by decide +kernel
theorem dL_law_666 : decode cL_law 666 = .ok (.ldc2_w 13, 3) := by decide +kernel
theorem dL_law_669 : decode cL_law 669 = .ok (.land, 1) := by decide +kernel
theorem dL_law_670 : decode cL_law 670 = .ok (.lor, 1) := by decide +kernel
theorem dL_law_671 : decode cL_law 671 = .ok (.invokevirtual 52, 3) := by decide +kernel
theorem dL_law_674 : decode cL_law 674 = .ok (.aload_n 2, 1) := by decide +kernel
theorem dL_law_675 : decode cL_law 675 = .ok (.aload_n 0, 1) := by decide +kernel
theorem dL_law_676 : decode cL_law 676 = .ok (.iload_n 3, 1) := by decide +kernel
theorem dL_law_677 : decode cL_law 677 = .ok (.iconst 1, 1) := by decide +kernel
theorem dL_law_678 : decode cL_law 678 = .ok (.iadd, 1) := by decide +kernel
theorem dL_law_679 : decode cL_law 679 = .ok (.iaload, 1) := by decide +kernel
theorem dL_law_680 : decode cL_law 680 = .ok (.aload_n 0, 1) := by decide +kernel
theorem dL_law_681 : decode cL_law 681 = .ok (.iload_n 3, 1) := by decide +kernel
theorem dL_law_682 : decode cL_law 682 = .ok (.iconst 2, 1) := by decide +kernel
theorem dL_law_683 : decode cL_law 683 = .ok (.iadd, 1) := by decide +kernel
theorem dL_law_684 : decode cL_law 684 = .ok (.iaload, 1) := by decide +kernel
theorem dL_law_685 : decode cL_law 685 = .ok (.i2l, 1) := by decide +kernel
theorem dL_law_686 : decode cL_law 686 = .ok (.bipush 32, 2) := by decide +kernel
theorem dL_law_688 : decode cL_law 688 = .ok (.lshl, 1) := by decide +kernel
theorem dL_law_689 : decode cL_law 689 = .ok (.aload_n 0, 1) := by decide +kernel
theorem dL_law_690 : decode cL_law 690 = .ok (.iload_n 3, 1) := by decide +kernel
theorem dL_law_691 : decode cL_law 691 = .ok (.iconst 3, 1) := by decide +kernel
theorem dL_law_692 : decode cL_law 692 = .ok (.iadd, 1) := by decide +kernel
theorem dL_law_693 : decode cL_law 693 = .ok (.iaload, 1) := by decide +kernel
theorem dL_law_694 : decode cL_law 694 = .ok (.i2l, 1) := by decide +kernel
theorem dL_law_695 : decode cL_law 695 = .ok (.ldc2_w 13, 3) := by decide +kernel
theorem dL_law_698 : decode cL_law 698 = .ok (.land, 1) := by decide +kernel
theorem dL_law_699 : decode cL_law 699 = .ok (.lor, 1) := by decide +kernel
theorem dL_law_700 : decode cL_law 700 = .ok (.invokevirtual 56, 3) := by decide +kernel
theorem dL_law_703 : decode cL_law 703 = .ok (.if_icmp .eq 663, 3) := by decide +kernel
theorem dL_law_706 : decode cL_law 706 = .ok (.iconst 0, 1) := by decide +kernel
theorem dL_law_707 : decode cL_law 707 = .ok (.ireturn, 1) := by decide +kernel
theorem dL_law_708 : decode cL_law 708 = .ok (.aload_n 1, 1) := by decide +kernel
theorem dL_law_709 : decode cL_law 709 = .ok (.aload_n 0, 1) := by decide +kernel
theorem dL_law_710 : decode cL_law 710 = .ok (.iload_n 3, 1) := by decide +kernel
theorem dL_law_711 : decode cL_law 711 = .ok (.iconst 1, 1) := by decide +kernel
theorem dL_law_712 : decode cL_law 712 = .ok (.iadd, 1) := by decide +kernel
theorem dL_law_713 : decode cL_law 713 = .ok (.iaload, 1) := by decide +kernel
theorem dL_law_714 : decode cL_law 714 = .ok (.invokevirtual 57, 3) := by decide +kernel
theorem dL_law_717 : decode cL_law 717 = .ok (.aload_n 2, 1) := by decide +kernel
theorem dL_law_718 : decode cL_law 718 = .ok (.aload_n 0, 1) := by decide +kernel
theorem dL_law_719 : decode cL_law 719 = .ok (.iload_n 3, 1) := by decide +kernel
theorem dL_law_720 : decode cL_law 720 = .ok (.iconst 1, 1) := by decide +kernel
theorem dL_law_721 : decode cL_law 721 = .ok (.iadd, 1) := by decide +kernel
theorem dL_law_722 : decode cL_law 722 = .ok (.iaload, 1) := by decide +kernel
theorem dL_law_723 : decode cL_law 723 = .ok (.invokevirtual 60, 3) := by decide +kernel
theorem dL_law_726 : decode cL_law 726 = .ok (.lcmp, 1) := by decide +kernel
theorem dL_law_727 : decode cL_law 727 = .ok (.ifCond .eq 639, 3) := by decide +kernel
theorem dL_law_730 : decode cL_law 730 = .ok (.iconst 0, 1) := by decide +kernel
theorem dL_law_731 : decode cL_law 731 = .ok (.ireturn, 1) := by decide +kernel
theorem dL_law_732 : decode cL_law 732 = .ok (.aload_n 1, 1) := by decide +kernel
theorem dL_law_733 : decode cL_law 733 = .ok (.aload_n 0, 1) := by decide +kernel
theorem dL_law_734 : decode cL_law 734 = .ok (.iload_n 3, 1) := by decide +kernel
theorem dL_law_735 : decode cL_law 735 = .ok (.iconst 1, 1) := by decide +kernel
theorem dL_law_736 : decode cL_law 736 = .ok (.iadd, 1) := by decide +kernel
theorem dL_law_737 : decode cL_law 737 = .ok (.iaload, 1) := by decide +kernel
theorem dL_law_738 : decode cL_law 738 = .ok (.i2l, 1) := by decide +kernel
theorem dL_law_739 : decode cL_law 739 = .ok (.bipush 32, 2) := by decide +kernel
theorem dL_law_741 : decode cL_law 741 = .ok (.lshl, 1) := by decide +kernel
theorem dL_law_742 : decode cL_law 742 = .ok (.aload_n 0, 1) := by decide +kernel
theorem dL_law_743 : decode cL_law 743 = .ok (.iload_n 3, 1) := by decide +kernel
theorem dL_law_744 : decode cL_law 744 = .ok (.iconst 2, 1) := by decide +kernel
theorem dL_law_745 : decode cL_law 745 = .ok (.iadd, 1) := by decide +kernel
theorem dL_law_746 : decode cL_law 746 = .ok (.iaload, 1) := by decide +kernel
theorem dL_law_747 : decode cL_law 747 = .ok (.i2l, 1) := by decide +kernel
theorem dL_law_748 : decode cL_law 748 = .ok (.ldc2_w 13, 3) := by decide +kernel
theorem dL_law_751 : decode cL_law 751 = .ok (.land, 1) := by decide +kernel
theorem dL_law_752 : decode cL_law 752 = .ok (.lor, 1) := by decide +kernel
theorem dL_law_753 : decode cL_law 753 = .ok (.aload_n 0, 1) := by decide +kernel
theorem dL_law_754 : decode cL_law 754 = .ok (.iload_n 3, 1) := by decide +kernel
theorem dL_law_755 : decode cL_law 755 = .ok (.iconst 3, 1) := by decide +kernel
theorem dL_law_756 : decode cL_law 756 = .ok (.iadd, 1) := by decide +kernel
theorem dL_law_757 : decode cL_law 757 = .ok (.iaload, 1) := by decide +kernel
theorem dL_law_758 : decode cL_law 758 = .ok (.ifCond .eq 7, 3) := by decide +kernel
theorem dL_law_761 : decode cL_law 761 = .ok (.iconst 1, 1) := by decide +kernel
theorem dL_law_762 : decode cL_law 762 = .ok (.goto 4, 3) := by decide +kernel
theorem dL_law_765 : decode cL_law 765 = .ok (.iconst 0, 1) := by decide +kernel
theorem dL_law_766 : decode cL_law 766 = .ok (.invokevirtual 61, 3) := by decide +kernel
theorem dL_law_769 : decode cL_law 769 = .ok (.aload_n 2, 1) := by decide +kernel
theorem dL_law_770 : decode cL_law 770 = .ok (.aload_n 0, 1) := by decide +kernel
theorem dL_law_771 : decode cL_law 771 = .ok (.iload_n 3, 1) := by decide +kernel
theorem dL_law_772 : decode cL_law 772 = .ok (.iconst 1, 1) := by decide +kernel
theorem dL_law_773 : decode cL_law 773 = .ok (.iadd, 1) := by decide +kernel
theorem dL_law_774 : decode cL_law 774 = .ok (.iaload, 1) := by decide +kernel
theorem dL_law_775 : decode cL_law 775 = .ok (.i2l, 1) := by decide +kernel
theorem dL_law_776 : decode cL_law 776 = .ok (.bipush 32, 2) := by decide +kernel
theorem dL_law_778 : decode cL_law 778 = .ok (.lshl, 1) := by decide +kernel
theorem dL_law_779 : decode cL_law 779 = .ok (.aload_n 0, 1) := by decide +kernel
theorem dL_law_780 : decode cL_law 780 = .ok (.iload_n 3, 1) := by decide +kernel
theorem dL_law_781 : decode cL_law 781 = .ok (.iconst 2, 1) := by decide +kernel
theorem dL_law_782 : decode cL_law 782 = .ok (.iadd, 1) := by decide +kernel
theorem dL_law_783 : decode cL_law 783 = .ok (.iaload, 1) := by decide +kernel
theorem dL_law_784 : decode cL_law 784 = .ok (.i2l, 1) := by decide +kernel
theorem dL_law_785 : decode cL_law 785 = .ok (.ldc2_w 13, 3) := by decide +kernel
theorem dL_law_788 : decode cL_law 788 = .ok (.land, 1) := by decide +kernel
theorem dL_law_789 : decode cL_law 789 = .ok (.lor, 1) := by decide +kernel
theorem dL_law_790 : decode cL_law 790 = .ok (.aload_n 0, 1) := by decide +kernel
theorem dL_law_791 : decode cL_law 791 = .ok (.iload_n 3, 1) := by decide +kernel
theorem dL_law_792 : decode cL_law 792 = .ok (.iconst 3, 1) := by decide +kernel
theorem dL_law_793 : decode cL_law 793 = .ok (.iadd, 1) := by decide +kernel
theorem dL_law_794 : decode cL_law 794 = .ok (.iaload, 1) := by decide +kernel
theorem dL_law_795 : decode cL_law 795 = .ok (.ifCond .eq 7, 3) := by decide +kernel
theorem dL_law_798 : decode cL_law 798 = .ok (.iconst 1, 1) := by decide +kernel
theorem dL_law_799 : decode cL_law 799 = .ok (.goto 4, 3) := by decide +kernel
theorem dL_law_802 : decode cL_law 802 = .ok (.iconst 0, 1) := by decide +kernel
theorem dL_law_803 : decode cL_law 803 = .ok (.invokevirtual 65, 3) := by decide +kernel
theorem dL_law_806 : decode cL_law 806 = .ok (.if_icmp .eq 560, 3) := by decide +kernel
theorem dL_law_809 : decode cL_law 809 = .ok (.iconst 0, 1) := by decide +kernel
theorem dL_law_810 : decode cL_law 810 = .ok (.ireturn, 1) := by decide +kernel
theorem dL_law_811 : decode cL_law 811 = .ok (.aload_n 1, 1) := by decide +kernel
theorem dL_law_812 : decode cL_law 812 = .ok (.invokevirtual 66, 3) := by decide +kernel
theorem dL_law_815 : decode cL_law 815 = .ok (.aload_n 2, 1) := by decide +kernel
theorem dL_law_816 : decode cL_law 816 = .ok (.invokevirtual 70, 3) := by decide +kernel
theorem dL_law_819 : decode cL_law 819 = .ok (.lcmp, 1) := by decide +kernel
theorem dL_law_820 : decode cL_law 820 = .ok (.ifCond .eq 546, 3) := by decide +kernel
theorem dL_law_823 : decode cL_law 823 = .ok (.iconst 0, 1) := by decide +kernel
theorem dL_law_824 : decode cL_law 824 = .ok (.ireturn, 1) := by decide +kernel
theorem dL_law_825 : decode cL_law 825 = .ok (.aload_n 1, 1) := by decide +kernel
theorem dL_law_826 : decode cL_law 826 = .ok (.aload_n 0, 1) := by decide +kernel
theorem dL_law_827 : decode cL_law 827 = .ok (.iload_n 3, 1) := by decide +kernel
theorem dL_law_828 : decode cL_law 828 = .ok (.iconst 1, 1) := by decide +kernel
theorem dL_law_829 : decode cL_law 829 = .ok (.iadd, 1) := by decide +kernel
theorem dL_law_830 : decode cL_law 830 = .ok (.iaload, 1) := by decide +kernel
theorem dL_law_831 : decode cL_law 831 = .ok (.aload_n 0, 1) := by decide +kernel
theorem dL_law_832 : decode cL_law 832 = .ok (.iload_n 3, 1) := by decide +kernel
theorem dL_law_833 : decode cL_law 833 = .ok (.iconst 2, 1) := by decide +kernel
theorem dL_law_834 : decode cL_law 834 = .ok (.iadd, 1) := by decide +kernel
theorem dL_law_835 : decode cL_law 835 = .ok (.iaload, 1) := by decide +kernel
theorem dL_law_836 : decode cL_law 836 = .ok (.aload_n 0, 1) := by decide +kernel
theorem dL_law_837 : decode cL_law 837 = .ok (.iload_n 3, 1) := by decide +kernel
theorem dL_law_838 : decode cL_law 838 = .ok (.iconst 3, 1) := by decide +kernel
theorem dL_law_839 : decode cL_law 839 = .ok (.iadd, 1) := by decide +kernel
theorem dL_law_840 : decode cL_law 840 = .ok (.iaload, 1) := by decide +kernel
theorem dL_law_841 : decode cL_law 841 = .ok (.i2l, 1) := by decide +kernel
theorem dL_law_842 : decode cL_law 842 = .ok (.bipush 32, 2) := by decide +kernel
theorem dL_law_844 : decode cL_law 844 = .ok (.lshl, 1) := by decide +kernel
theorem dL_law_845 : decode cL_law 845 = .ok (.aload_n 0, 1) := by decide +kernel
theorem dL_law_846 : decode cL_law 846 = .ok (.iload_n 3, 1) := by decide +kernel
theorem dL_law_847 : decode cL_law 847 = .ok (.iconst 4, 1) := by decide +kernel
theorem dL_law_848 : decode cL_law 848 = .ok (.iadd, 1) := by decide +kernel
theorem dL_law_849 : decode cL_law 849 = .ok (.iaload, 1) := by decide +kernel
theorem dL_law_850 : decode cL_law 850 = .ok (.i2l, 1) := by decide +kernel
theorem dL_law_851 : decode cL_law 851 = .ok (.ldc2_w 13, 3) := by decide +kernel
theorem dL_law_854 : decode cL_law 854 = .ok (.land, 1) := by decide +kernel
theorem dL_law_855 : decode cL_law 855 = .ok (.lor, 1) := by decide +kernel
theorem dL_law_856 : decode cL_law 856 = .ok (.invokevirtual 71, 3) := by decide +kernel
theorem dL_law_859 : decode cL_law 859 = .ok (.aload_n 2, 1) := by decide +kernel
theorem dL_law_860 : decode cL_law 860 = .ok (.aload_n 0, 1) := by decide +kernel
theorem dL_law_861 : decode cL_law 861 = .ok (.iload_n 3, 1) := by decide +kernel
theorem dL_law_862 : decode cL_law 862 = .ok (.iconst 1, 1) := by decide +kernel
theorem dL_law_863 : decode cL_law 863 = .ok (.iadd, 1) := by decide +kernel
theorem dL_law_864 : decode cL_law 864 = .ok (.iaload, 1) := by decide +kernel
theorem dL_law_865 : decode cL_law 865 = .ok (.aload_n 0, 1) := by decide +kernel
theorem dL_law_866 : decode cL_law 866 = .ok (.iload_n 3, 1) := by decide +kernel
theorem dL_law_867 : decode cL_law 867 = .ok (.iconst 2, 1) := by decide +kernel
theorem dL_law_868 : decode cL_law 868 = .ok (.iadd, 1) := by decide +kernel
theorem dL_law_869 : decode cL_law 869 = .ok (.iaload, 1) := by decide +kernel
theorem dL_law_870 : decode cL_law 870 = .ok (.aload_n 0, 1) := by decide +kernel
theorem dL_law_871 : decode cL_law 871 = .ok (.iload_n 3, 1) := by decide +kernel
theorem dL_law_872 : decode cL_law 872 = .ok (.iconst 3, 1) := by decide +kernel
theorem dL_law_873 : decode cL_law 873 = .ok (.iadd, 1) := by decide +kernel
theorem dL_law_874 : decode cL_law 874 = .ok (.iaload, 1) := by decide +kernel
theorem dL_law_875 : decode cL_law 875 = .ok (.i2l, 1) := by decide +kernel
theorem dL_law_876 : decode cL_law 876 = .ok (.bipush 32, 2) := by decide +kernel
theorem dL_law_878 : decode cL_law 878 = .ok (.lshl, 1) := by decide +kernel
theorem dL_law_879 : decode cL_law 879 = .ok (.aload_n 0, 1) := by decide +kernel
theorem dL_law_880 : decode cL_law 880 = .ok (.iload_n 3, 1) := by decide +kernel
theorem dL_law_881 : decode cL_law 881 = .ok (.iconst 4, 1) := by decide +kernel
theorem dL_law_882 : decode cL_law 882 = .ok (.iadd, 1) := by decide +kernel
theorem dL_law_883 : decode cL_law 883 = .ok (.iaload, 1) := by decide +kernel
theorem dL_law_884 : decode cL_law 884 = .ok (.i2l, 1) := by decide +kernel
theorem dL_law_885 : decode cL_law 885 = .ok (.ldc2_w 13, 3) := by decide +kernel
theorem dL_law_888 : decode cL_law 888 = .ok (.land, 1) := by decide +kernel
theorem dL_law_889 : decode cL_law 889 = .ok (.lor, 1) := by decide +kernel
theorem dL_law_890 : decode cL_law 890 = .ok (.invokevirtual 75, 3) := by decide +kernel
theorem dL_law_893 : decode cL_law 893 = .ok (.if_icmp .eq 473, 3) := by decide +kernel
theorem dL_law_896 : decode cL_law 896 = .ok (.iconst 0, 1) := by decide +kernel
theorem dL_law_897 : decode cL_law 897 = .ok (.ireturn, 1) := by decide +kernel
theorem dL_law_898 : decode cL_law 898 = .ok (.aload_n 1, 1) := by decide +kernel
theorem dL_law_899 : decode cL_law 899 = .ok (.aload_n 0, 1) := by decide +kernel
theorem dL_law_900 : decode cL_law 900 = .ok (.iload_n 3, 1) := by decide +kernel
theorem dL_law_901 : decode cL_law 901 = .ok (.iconst 1, 1) := by decide +kernel
theorem dL_law_902 : decode cL_law 902 = .ok (.iadd, 1) := by decide +kernel
theorem dL_law_903 : decode cL_law 903 = .ok (.iaload, 1) := by decide +kernel
theorem dL_law_904 : decode cL_law 904 = .ok (.aload_n 0, 1) := by decide +kernel
theorem dL_law_905 : decode cL_law 905 = .ok (.iload_n 3, 1) := by decide +kernel
theorem dL_law_906 : decode cL_law 906 = .ok (.iconst 2, 1) := by decide +kernel
theorem dL_law_907 : decode cL_law 907 = .ok (.iadd, 1) := by decide +kernel
theorem dL_law_908 : decode cL_law 908 = .ok (.iaload, 1) := by decide +kernel
theorem dL_law_909 : decode cL_law 909 = .ok (.i2l, 1) := by decide +kernel
theorem dL_law_910 : decode cL_law 910 = .ok (.bipush 32, 2) := by decide +kernel
theorem dL_law_912 : decode cL_law 912 = .ok (.lshl, 1) := by decide +kernel
theorem dL_law_913 : decode cL_law 913 = .ok (.aload_n 0, 1) := by decide +kernel
theorem dL_law_914 : decode cL_law 914 = .ok (.iload_n 3, 1) := by decide +kernel
theorem dL_law_915 : decode cL_law 915 = .ok (.iconst 3, 1) := by decide +kernel
theorem dL_law_916 : decode cL_law 916 = .ok (.iadd, 1) := by decide +kernel
theorem dL_law_917 : decode cL_law 917 = .ok (.iaload, 1) := by decide +kernel
theorem dL_law_918 : decode cL_law 918 = .ok (.i2l, 1) := by decide +kernel
theorem dL_law_919 : decode cL_law 919 = .ok (.ldc2_w 13, 3) := by decide +kernel
theorem dL_law_922 : decode cL_law 922 = .ok (.land, 1) := by decide +kernel
theorem dL_law_923 : decode cL_law 923 = .ok (.lor, 1) := by decide +kernel
theorem dL_law_924 : decode cL_law 924 = .ok (.invokevirtual 76, 3) := by decide +kernel
theorem dL_law_927 : decode cL_law 927 = .ok (.aload_n 2, 1) := by decide +kernel
theorem dL_law_928 : decode cL_law 928 = .ok (.aload_n 0, 1) := by decide +kernel
theorem dL_law_929 : decode cL_law 929 = .ok (.iload_n 3, 1) := by decide +kernel
theorem dL_law_930 : decode cL_law 930 = .ok (.iconst 1, 1) := by decide +kernel
theorem dL_law_931 : decode cL_law 931 = .ok (.iadd, 1) := by decide +kernel
theorem dL_law_932 : decode cL_law 932 = .ok (.iaload, 1) := by decide +kernel
theorem dL_law_933 : decode cL_law 933 = .ok (.aload_n 0, 1) := by decide +kernel
theorem dL_law_934 : decode cL_law 934 = .ok (.iload_n 3, 1) := by decide +kernel
theorem dL_law_935 : decode cL_law 935 = .ok (.iconst 2, 1) := by decide +kernel
theorem dL_law_936 : decode cL_law 936 = .ok (.iadd, 1) := by decide +kernel
theorem dL_law_937 : decode cL_law 937 = .ok (.iaload, 1) := by decide +kernel
theorem dL_law_938 : decode cL_law 938 = .ok (.i2l, 1) := by decide +kernel
theorem dL_law_939 : decode cL_law 939 = .ok (.bipush 32, 2) := by decide +kernel
theorem dL_law_941 : decode cL_law 941 = .ok (.lshl, 1) := by decide +kernel
theorem dL_law_942 : decode cL_law 942 = .ok (.aload_n 0, 1) := by decide +kernel
theorem dL_law_943 : decode cL_law 943 = .ok (.iload_n 3, 1) := by decide +kernel
theorem dL_law_944 : decode cL_law 944 = .ok (.iconst 3, 1) := by decide +kernel
theorem dL_law_945 : decode cL_law 945 = .ok (.iadd, 1) := by decide +kernel
theorem dL_law_946 : decode cL_law 946 = .ok (.iaload, 1) := by decide +kernel
theorem dL_law_947 : decode cL_law 947 = .ok (.i2l, 1) := by decide +kernel
theorem dL_law_948 : decode cL_law 948 = .ok (.ldc2_w 13, 3) := by decide +kernel
theorem dL_law_951 : decode cL_law 951 = .ok (.land, 1) := by decide +kernel
theorem dL_law_952 : decode cL_law 952 = .ok (.lor, 1) := by decide +kernel
theorem dL_law_953 : decode cL_law 953 = .ok (.invokevirtual 79, 3) := by decide +kernel
theorem dL_law_956 : decode cL_law 956 = .ok (.if_icmp .eq 410, 3) := by decide +kernel
theorem dL_law_959 : decode cL_law 959 = .ok (.iconst 0, 1) := by decide +kernel
theorem dL_law_960 : decode cL_law 960 = .ok (.ireturn, 1) := by decide +kernel
theorem dL_law_961 : decode cL_law 961 = .ok (.aload_n 1, 1) := by decide +kernel
theorem dL_law_962 : decode cL_law 962 = .ok (.aload_n 0, 1) := by decide +kernel
theorem dL_law_963 : decode cL_law 963 = .ok (.iload_n 3, 1) := by decide +kernel
theorem dL_law_964 : decode cL_law 964 = .ok (.iconst 1, 1) := by decide +kernel
theorem dL_law_965 : decode cL_law 965 = .ok (.iadd, 1) := by decide +kernel
theorem dL_law_966 : decode cL_law 966 = .ok (.iaload, 1) := by decide +kernel
theorem dL_law_967 : decode cL_law 967 = .ok (.aload_n 0, 1) := by decide +kernel
theorem dL_law_968 : decode cL_law 968 = .ok (.iload_n 3, 1) := by decide +kernel
theorem dL_law_969 : decode cL_law 969 = .ok (.iconst 2, 1) := by decide +kernel
theorem dL_law_970 : decode cL_law 970 = .ok (.iadd, 1) := by decide +kernel
theorem dL_law_971 : decode cL_law 971 = .ok (.iaload, 1) := by decide +kernel
theorem dL_law_972 : decode cL_law 972 = .ok (.invokevirtual 80, 3) := by decide +kernel
theorem dL_law_975 : decode cL_law 975 = .ok (.aload_n 2, 1) := by decide +kernel
theorem dL_law_976 : decode cL_law 976 = .ok (.aload_n 0, 1) := by decide +kernel
theorem dL_law_977 : decode cL_law 977 = .ok (.iload_n 3, 1) := by decide +kernel
theorem dL_law_978 : decode cL_law 978 = .ok (.iconst 1, 1) := by decide +kernel
theorem dL_law_979 : decode cL_law 979 = .ok (.iadd, 1) := by decide +kernel
theorem dL_law_980 : decode cL_law 980 = .ok (.iaload, 1) := by decide +kernel
theorem dL_law_981 : decode cL_law 981 = .ok (.aload_n 0, 1) := by decide +kernel
theorem dL_law_982 : decode cL_law 982 = .ok (.iload_n 3, 1) := by decide +kernel
theorem dL_law_983 : decode cL_law 983 = .ok (.iconst 2, 1) := by decide +kernel
theorem dL_law_984 : decode cL_law 984 = .ok (.iadd, 1) := by decide +kernel
theorem dL_law_985 : decode cL_law 985 = .ok (.iaload, 1) := by decide +kernel
theorem dL_law_986 : decode cL_law 986 = .ok (.invokevirtual 84, 3) := by decide +kernel
theorem dL_law_989 : decode cL_law 989 = .ok (.if_icmp .eq 377, 3) := by decide +kernel
theorem dL_law_992 : decode cL_law 992 = .ok (.iconst 0, 1) := by decide +kernel
theorem dL_law_993 : decode cL_law 993 = .ok (.ireturn, 1) := by decide +kernel
theorem dL_law_994 : decode cL_law 994 = .ok (.aload_n 1, 1) := by decide +kernel
theorem dL_law_995 : decode cL_law 995 = .ok (.aload_n 0, 1) := by decide +kernel
theorem dL_law_996 : decode cL_law 996 = .ok (.iload_n 3, 1) := by decide +kernel
theorem dL_law_997 : decode cL_law 997 = .ok (.iconst 1, 1) := by decide +kernel
theorem dL_law_998 : decode cL_law 998 = .ok (.iadd, 1) := by decide +kernel
theorem dL_law_999 : decode cL_law 999 = .ok (.iaload, 1) := by decide +kernel
theorem dL_law_1000 : decode cL_law 1000 = .ok (.i2l, 1) := by decide +kernel
theorem dL_law_1001 : decode cL_law 1001 = .ok (.bipush 32, 2) := by decide +kernel
theorem dL_law_1003 : decode cL_law 1003 = .ok (.lshl, 1) := by decide +kernel
theorem dL_law_1004 : decode cL_law 1004 = .ok (.aload_n 0, 1) := by decide +kernel
theorem dL_law_1005 : decode cL_law 1005 = .ok (.iload_n 3, 1) := by decide +kernel
theorem dL_law_1006 : decode cL_law 1006 = .ok (.iconst 2, 1) := by decide +kernel
theorem dL_law_1007 : decode cL_law 1007 = .ok (.iadd, 1) := by decide +kernel
theorem dL_law_1008 : decode cL_law 1008 = .ok (.iaload, 1) := by decide +kernel
theorem dL_law_1009 : decode cL_law 1009 = .ok (.i2l, 1) := by decide +kernel
theorem dL_law_1010 : decode cL_law 1010 = .ok (.ldc2_w 13, 3) := by decide +kernel
theorem dL_law_1013 : decode cL_law 1013 = .ok (.land, 1) := by decide +kernel
theorem dL_law_1014 : decode cL_law 1014 = .ok (.lor, 1) := by decide +kernel
theorem dL_law_1015 : decode cL_law 1015 = .ok (.invokevirtual 85, 3) := by decide +kernel
theorem dL_law_1018 : decode cL_law 1018 = .ok (.aload_n 2, 1) := by decide +kernel
theorem dL_law_1019 : decode cL_law 1019 = .ok (.aload_n 0, 1) := by decide +kernel
theorem dL_law_1020 : decode cL_law 1020 = .ok (.iload_n 3, 1) := by decide +kernel
theorem dL_law_1021 : decode cL_law 1021 = .ok (.iconst 1, 1) := by decide +kernel
theorem dL_law_1022 : decode cL_law 1022 = .ok (.iadd, 1) := by decide +kernel
theorem dL_law_1023 : decode cL_law 1023 = .ok (.iaload, 1) := by decide +kernel
theorem dL_law_1024 : decode cL_law 1024 = .ok (.i2l, 1) := by decide +kernel
theorem dL_law_1025 : decode cL_law 1025 = .ok (.bipush 32, 2) := by decide +kernel
theorem dL_law_1027 : decode cL_law 1027 = .ok (.lshl, 1) := by decide +kernel
theorem dL_law_1028 : decode cL_law 1028 = .ok (.aload_n 0, 1) := by decide +kernel
theorem dL_law_1029 : decode cL_law 1029 = .ok (.iload_n 3, 1) := by decide +kernel
theorem dL_law_1030 : decode cL_law 1030 = .ok (.iconst 2, 1) := by decide +kernel
theorem dL_law_1031 : decode cL_law 1031 = .ok (.iadd, 1) := by decide +kernel
theorem dL_law_1032 : decode cL_law 1032 = .ok (.iaload, 1) := by decide +kernel
theorem dL_law_1033 : decode cL_law 1033 = .ok (.i2l, 1) := by decide +kernel
theorem dL_law_1034 : decode cL_law 1034 = .ok (.ldc2_w 13, 3) := by decide +kernel
theorem dL_law_1037 : decode cL_law 1037 = .ok (.land, 1) := by decide +kernel
theorem dL_law_1038 : decode cL_law 1038 = .ok (.lor, 1) := by decide +kernel
theorem dL_law_1039 : decode cL_law 1039 = .ok (.invokevirtual 88, 3) := by decide +kernel
theorem dL_law_1042 : decode cL_law 1042 = .ok (.if_icmp .eq 324, 3) := by decide +kernel
theorem dL_law_1045 : decode cL_law 1045 = .ok (.iconst 0, 1) := by decide +kernel
theorem dL_law_1046 : decode cL_law 1046 = .ok (.ireturn, 1) := by decide +kernel
theorem dL_law_1047 : decode cL_law 1047 = .ok (.aload_n 1, 1) := by decide +kernel
theorem dL_law_1048 : decode cL_law 1048 = .ok (.aload_n 0, 1) := by decide +kernel
theorem dL_law_1049 : decode cL_law 1049 = .ok (.iload_n 3, 1) := by decide +kernel
theorem dL_law_1050 : decode cL_law 1050 = .ok (.iconst 1, 1) := by decide +kernel
theorem dL_law_1051 : decode cL_law 1051 = .ok (.iadd, 1) := by decide +kernel
theorem dL_law_1052 : decode cL_law 1052 = .ok (.iaload, 1) := by decide +kernel
theorem dL_law_1053 : decode cL_law 1053 = .ok (.invokevirtual 89, 3) := by decide +kernel
theorem dL_law_1056 : decode cL_law 1056 = .ok (.aload_n 2, 1) := by decide +kernel
theorem dL_law_1057 : decode cL_law 1057 = .ok (.aload_n 0, 1) := by decide +kernel
theorem dL_law_1058 : decode cL_law 1058 = .ok (.iload_n 3, 1) := by decide +kernel
theorem dL_law_1059 : decode cL_law 1059 = .ok (.iconst 1, 1) := by decide +kernel
theorem dL_law_1060 : decode cL_law 1060 = .ok (.iadd, 1) := by decide +kernel
theorem dL_law_1061 : decode cL_law 1061 = .ok (.iaload, 1) := by decide +kernel
theorem dL_law_1062 : decode cL_law 1062 = .ok (.invokevirtual 93, 3) := by decide +kernel
theorem dL_law_1065 : decode cL_law 1065 = .ok (.if_icmp .eq 301, 3) := by decide +kernel
theorem dL_law_1068 : decode cL_law 1068 = .ok (.iconst 0, 1) := by decide +kernel
theorem dL_law_1069 : decode cL_law 1069 = .ok (.ireturn, 1) := by decide +kernel
theorem dL_law_1070 : decode cL_law 1070 = .ok (.aload_n 1, 1) := by decide +kernel
theorem dL_law_1071 : decode cL_law 1071 = .ok (.invokevirtual 94, 3) := by decide +kernel
theorem dL_law_1074 : decode cL_law 1074 = .ok (.aload_n 2, 1) := by decide +kernel
theorem dL_law_1075 : decode cL_law 1075 = .ok (.invokevirtual 97, 3) := by decide +kernel
theorem dL_law_1078 : decode cL_law 1078 = .ok (.lcmp, 1) := by decide +kernel
theorem dL_law_1079 : decode cL_law 1079 = .ok (.ifCond .eq 287, 3) := by decide +kernel
theorem dL_law_1082 : decode cL_law 1082 = .ok (.iconst 0, 1) := by decide +kernel
theorem dL_law_1083 : decode cL_law 1083 = .ok (.ireturn, 1) := by decide +kernel
theorem dL_law_1084 : decode cL_law 1084 = .ok (.aload_n 1, 1) := by decide +kernel
theorem dL_law_1085 : decode cL_law 1085 = .ok (.invokevirtual 98, 3) := by decide +kernel
theorem dL_law_1088 : decode cL_law 1088 = .ok (.aload_n 2, 1) := by decide +kernel
theorem dL_law_1089 : decode cL_law 1089 = .ok (.invokevirtual 102, 3) := by decide +kernel
theorem dL_law_1092 : decode cL_law 1092 = .ok (.if_icmp .eq 274, 3) := by decide +kernel
theorem dL_law_1095 : decode cL_law 1095 = .ok (.iconst 0, 1) := by decide +kernel
theorem dL_law_1096 : decode cL_law 1096 = .ok (.ireturn, 1) := by decide +kernel
theorem dL_law_1097 : decode cL_law 1097 = .ok (.aload_n 1, 1) := by decide +kernel
theorem dL_law_1098 : decode cL_law 1098 = .ok (.aload_n 0, 1) := by decide +kernel
theorem dL_law_1099 : decode cL_law 1099 = .ok (.iload_n 3, 1) := by decide +kernel
theorem dL_law_1100 : decode cL_law 1100 = .ok (.iconst 1, 1) := by decide +kernel
theorem dL_law_1101 : decode cL_law 1101 = .ok (.iadd, 1) := by decide +kernel
theorem dL_law_1102 : decode cL_law 1102 = .ok (.iaload, 1) := by decide +kernel
theorem dL_law_1103 : decode cL_law 1103 = .ok (.invokevirtual 103, 3) := by decide +kernel
theorem dL_law_1106 : decode cL_law 1106 = .ok (.aload_n 2, 1) := by decide +kernel
theorem dL_law_1107 : decode cL_law 1107 = .ok (.aload_n 0, 1) := by decide +kernel
theorem dL_law_1108 : decode cL_law 1108 = .ok (.iload_n 3, 1) := by decide +kernel
theorem dL_law_1109 : decode cL_law 1109 = .ok (.iconst 1, 1) := by decide +kernel
theorem dL_law_1110 : decode cL_law 1110 = .ok (.iadd, 1) := by decide +kernel
theorem dL_law_1111 : decode cL_law 1111 = .ok (.iaload, 1) := by decide +kernel
theorem dL_law_1112 : decode cL_law 1112 = .ok (.invokevirtual 106, 3) := by decide +kernel
theorem dL_law_1115 : decode cL_law 1115 = .ok (.lcmp, 1) := by decide +kernel
theorem dL_law_1116 : decode cL_law 1116 = .ok (.ifCond .eq 250, 3) := by decide +kernel
theorem dL_law_1119 : decode cL_law 1119 = .ok (.iconst 0, 1) := by decide +kernel
theorem dL_law_1120 : decode cL_law 1120 = .ok (.ireturn, 1) := by decide +kernel
theorem dL_law_1121 : decode cL_law 1121 = .ok (.aload_n 1, 1) := by decide +kernel
theorem dL_law_1122 : decode cL_law 1122 = .ok (.aload_n 0, 1) := by decide +kernel
theorem dL_law_1123 : decode cL_law 1123 = .ok (.iload_n 3, 1) := by decide +kernel
theorem dL_law_1124 : decode cL_law 1124 = .ok (.iconst 1, 1) := by decide +kernel
theorem dL_law_1125 : decode cL_law 1125 = .ok (.iadd, 1) := by decide +kernel
theorem dL_law_1126 : decode cL_law 1126 = .ok (.iaload, 1) := by decide +kernel
theorem dL_law_1127 : decode cL_law 1127 = .ok (.invokevirtual 107, 3) := by decide +kernel
theorem dL_law_1130 : decode cL_law 1130 = .ok (.aload_n 2, 1) := by decide +kernel
theorem dL_law_1131 : decode cL_law 1131 = .ok (.aload_n 0, 1) := by decide +kernel
theorem dL_law_1132 : decode cL_law 1132 = .ok (.iload_n 3, 1) := by decide +kernel
theorem dL_law_1133 : decode cL_law 1133 = .ok (.iconst 1, 1) := by decide +kernel
theorem dL_law_1134 : decode cL_law 1134 = .ok (.iadd, 1) := by decide +kernel
theorem dL_law_1135 : decode cL_law 1135 = .ok (.iaload, 1) := by decide +kernel
theorem dL_law_1136 : decode cL_law 1136 = .ok (.invokevirtual 110, 3) := by decide +kernel
theorem dL_law_1139 : decode cL_law 1139 = .ok (.if_icmp .eq 227, 3) := by decide +kernel
theorem dL_law_1142 : decode cL_law 1142 = .ok (.iconst 0, 1) := by decide +kernel
theorem dL_law_1143 : decode cL_law 1143 = .ok (.ireturn, 1) := by decide +kernel
theorem dL_law_1144 : decode cL_law 1144 = .ok (.aload_n 1, 1) := by decide +kernel
theorem dL_law_1145 : decode cL_law 1145 = .ok (.aload_n 0, 1) := by decide +kernel
theorem dL_law_1146 : decode cL_law 1146 = .ok (.iload_n 3, 1) := by decide +kernel
theorem dL_law_1147 : decode cL_law 1147 = .ok (.iconst 1, 1) := by decide +kernel
theorem dL_law_1148 : decode cL_law 1148 = .ok (.iadd, 1) := by decide +kernel
theorem dL_law_1149 : decode cL_law 1149 = .ok (.iaload, 1) := by decide +kernel
theorem dL_law_1150 : decode cL_law 1150 = .ok (.invokevirtual 111, 3) := by decide +kernel
theorem dL_law_1153 : decode cL_law 1153 = .ok (.aload_n 2, 1) := by decide +kernel
theorem dL_law_1154 : decode cL_law 1154 = .ok (.aload_n 0, 1) := by decide +kernel
theorem dL_law_1155 : decode cL_law 1155 = .ok (.iload_n 3, 1) := by decide +kernel
theorem dL_law_1156 : decode cL_law 1156 = .ok (.iconst 1, 1) := by decide +kernel
theorem dL_law_1157 : decode cL_law 1157 = .ok (.iadd, 1) := by decide +kernel
theorem dL_law_1158 : decode cL_law 1158 = .ok (.iaload, 1) := by decide +kernel
theorem dL_law_1159 : decode cL_law 1159 = .ok (.invokevirtual 114, 3) := by decide +kernel
theorem dL_law_1162 : decode cL_law 1162 = .ok (.lcmp, 1) := by decide +kernel
theorem dL_law_1163 : decode cL_law 1163 = .ok (.ifCond .eq 203, 3) := by decide +kernel
theorem dL_law_1166 : decode cL_law 1166 = .ok (.iconst 0, 1) := by decide +kernel
theorem dL_law_1167 : decode cL_law 1167 = .ok (.ireturn, 1) := by decide +kernel
theorem dL_law_1168 : decode cL_law 1168 = .ok (.aload_n 1, 1) := by decide +kernel
theorem dL_law_1169 : decode cL_law 1169 = .ok (.aload_n 0, 1) := by decide +kernel
theorem dL_law_1170 : decode cL_law 1170 = .ok (.iload_n 3, 1) := by decide +kernel
theorem dL_law_1171 : decode cL_law 1171 = .ok (.iconst 1, 1) := by decide +kernel
theorem dL_law_1172 : decode cL_law 1172 = .ok (.iadd, 1) := by decide +kernel
theorem dL_law_1173 : decode cL_law 1173 = .ok (.iaload, 1) := by decide +kernel
theorem dL_law_1174 : decode cL_law 1174 = .ok (.aload_n 0, 1) := by decide +kernel
theorem dL_law_1175 : decode cL_law 1175 = .ok (.iload_n 3, 1) := by decide +kernel
theorem dL_law_1176 : decode cL_law 1176 = .ok (.iconst 2, 1) := by decide +kernel
theorem dL_law_1177 : decode cL_law 1177 = .ok (.iadd, 1) := by decide +kernel
theorem dL_law_1178 : decode cL_law 1178 = .ok (.iaload, 1) := by decide +kernel
theorem dL_law_1179 : decode cL_law 1179 = .ok (.invokevirtual 115, 3) := by decide +kernel
theorem dL_law_1182 : decode cL_law 1182 = .ok (.aload_n 2, 1) := by decide +kernel
theorem dL_law_1183 : decode cL_law 1183 = .ok (.aload_n 0, 1) := by decide +kernel
theorem dL_law_1184 : decode cL_law 1184 = .ok (.iload_n 3, 1) := by decide +kernel
theorem dL_law_1185 : decode cL_law 1185 = .ok (.iconst 1, 1) := by decide +kernel
theorem dL_law_1186 : decode cL_law 1186 = .ok (.iadd, 1) := by decide +kernel
theorem dL_law_1187 : decode cL_law 1187 = .ok (.iaload, 1) := by decide +kernel
theorem dL_law_1188 : decode cL_law 1188 = .ok (.aload_n 0, 1) := by decide +kernel
theorem dL_law_1189 : decode cL_law 1189 = .ok (.iload_n 3, 1) := by decide +kernel
theorem dL_law_1190 : decode cL_law 1190 = .ok (.iconst 2, 1) := by decide +kernel
theorem dL_law_1191 : decode cL_law 1191 = .ok (.iadd, 1) := by decide +kernel
theorem dL_law_1192 : decode cL_law 1192 = .ok (.iaload, 1) := by decide +kernel
theorem dL_law_1193 : decode cL_law 1193 = .ok (.invokevirtual 119, 3) := by decide +kernel
theorem dL_law_1196 : decode cL_law 1196 = .ok (.if_icmp .eq 170, 3) := by decide +kernel
theorem dL_law_1199 : decode cL_law 1199 = .ok (.iconst 0, 1) := by decide +kernel
theorem dL_law_1200 : decode cL_law 1200 = .ok (.ireturn, 1) := by decide +kernel
theorem dL_law_1201 : decode cL_law 1201 = .ok (.aload_n 1, 1) := by decide +kernel
theorem dL_law_1202 : decode cL_law 1202 = .ok (.invokevirtual 120, 3) := by decide +kernel
theorem dL_law_1205 : decode cL_law 1205 = .ok (.aload_n 2, 1) := by decide +kernel
theorem dL_law_1206 : decode cL_law 1206 = .ok (.invokevirtual 123, 3) := by decide +kernel
theorem dL_law_1209 : decode cL_law 1209 = .ok (.if_icmp .eq 157, 3) := by decide +kernel
theorem dL_law_1212 : decode cL_law 1212 = .ok (.iconst 0, 1) := by decide +kernel
theorem dL_law_1213 : decode cL_law 1213 = .ok (.ireturn, 1) := by decide +kernel
theorem dL_law_1214 : decode cL_law 1214 = .ok (.aload_n 1, 1) := by decide +kernel
theorem dL_law_1215 : decode cL_law 1215 = .ok (.aload_n 0, 1) := by decide +kernel
theorem dL_law_1216 : decode cL_law 1216 = .ok (.iload_n 3, 1) := by decide +kernel
theorem dL_law_1217 : decode cL_law 1217 = .ok (.iconst 1, 1) := by decide +kernel
theorem dL_law_1218 : decode cL_law 1218 = .ok (.iadd, 1) := by decide +kernel
theorem dL_law_1219 : decode cL_law 1219 = .ok (.iaload, 1) := by decide +kernel
theorem dL_law_1220 : decode cL_law 1220 = .ok (.aload_n 0, 1) := by decide +kernel
theorem dL_law_1221 : decode cL_law 1221 = .ok (.iload_n 3, 1) := by decide +kernel
theorem dL_law_1222 : decode cL_law 1222 = .ok (.iconst 2, 1) := by decide +kernel
theorem dL_law_1223 : decode cL_law 1223 = .ok (.iadd, 1) := by decide +kernel
theorem dL_law_1224 : decode cL_law 1224 = .ok (.iaload, 1) := by decide +kernel
theorem dL_law_1225 : decode cL_law 1225 = .ok (.invokevirtual 124, 3) := by decide +kernel
theorem dL_law_1228 : decode cL_law 1228 = .ok (.aload_n 2, 1) := by decide +kernel
theorem dL_law_1229 : decode cL_law 1229 = .ok (.aload_n 0, 1) := by decide +kernel
theorem dL_law_1230 : decode cL_law 1230 = .ok (.iload_n 3, 1) := by decide +kernel
theorem dL_law_1231 : decode cL_law 1231 = .ok (.iconst 1, 1) := by decide +kernel
theorem dL_law_1232 : decode cL_law 1232 = .ok (.iadd, 1) := by decide +kernel
theorem dL_law_1233 : decode cL_law 1233 = .ok (.iaload, 1) := by decide +kernel
theorem dL_law_1234 : decode cL_law 1234 = .ok (.aload_n 0, 1) := by decide +kernel
theorem dL_law_1235 : decode cL_law 1235 = .ok (.iload_n 3, 1) := by decide +kernel
theorem dL_law_1236 : decode cL_law 1236 = .ok (.iconst 2, 1) := by decide +kernel
theorem dL_law_1237 : decode cL_law 1237 = .ok (.iadd, 1) := by decide +kernel
theorem dL_law_1238 : decode cL_law 1238 = .ok (.iaload, 1) := by decide +kernel
theorem dL_law_1239 : decode cL_law 1239 = .ok (.invokevirtual 127, 3) := by decide +kernel
theorem dL_law_1242 : decode cL_law 1242 = .ok (.if_icmp .eq 124, 3) := by decide +kernel
theorem dL_law_1245 : decode cL_law 1245 = .ok (.iconst 0, 1) := by decide +kernel
theorem dL_law_1246 : decode cL_law 1246 = .ok (.ireturn, 1) := by decide +kernel
theorem dL_law_1247 : decode cL_law 1247 = .ok (.aload_n 1, 1) := by decide +kernel
theorem dL_law_1248 : decode cL_law 1248 = .ok (.aload_n 0, 1) := by decide +kernel
theorem dL_law_1249 : decode cL_law 1249 = .ok (.iload_n 3, 1) := by decide +kernel
theorem dL_law_1250 : decode cL_law 1250 = .ok (.iconst 1, 1) := by decide +kernel
theorem dL_law_1251 : decode cL_law 1251 = .ok (.iadd, 1) := by decide +kernel
theorem dL_law_1252 : decode cL_law 1252 = .ok (.iaload, 1) := by decide +kernel
theorem dL_law_1253 : decode cL_law 1253 = .ok (.invokevirtual 128, 3) := by decide +kernel
theorem dL_law_1256 : decode cL_law 1256 = .ok (.aload_n 2, 1) := by decide +kernel
theorem dL_law_1257 : decode cL_law 1257 = .ok (.aload_n 0, 1) := by decide +kernel
theorem dL_law_1258 : decode cL_law 1258 = .ok (.iload_n 3, 1) := by decide +kernel
theorem dL_law_1259 : decode cL_law 1259 = .ok (.iconst 1, 1) := by decide +kernel
theorem dL_law_1260 : decode cL_law 1260 = .ok (.iadd, 1) := by decide +kernel
theorem dL_law_1261 : decode cL_law 1261 = .ok (.iaload, 1) := by decide +kernel
theorem dL_law_1262 : decode cL_law 1262 = .ok (.invokevirtual 131, 3) := by decide +kernel
theorem dL_law_1265 : decode cL_law 1265 = .ok (.if_icmp .eq 101, 3) := by decide +kernel
theorem dL_law_1268 : decode cL_law 1268 = .ok (.iconst 0, 1) := by decide +kernel
theorem dL_law_1269 : decode cL_law 1269 = .ok (.ireturn, 1) := by decide +kernel
theorem dL_law_1270 : decode cL_law 1270 = .ok (.aload_n 1, 1) := by decide +kernel
theorem dL_law_1271 : decode cL_law 1271 = .ok (.aload_n 0, 1) := by decide +kernel
theorem dL_law_1272 : decode cL_law 1272 = .ok (.iload_n 3, 1) := by decide +kernel
theorem dL_law_1273 : decode cL_law 1273 = .ok (.iconst 1, 1) := by decide +kernel
theorem dL_law_1274 : decode cL_law 1274 = .ok (.iadd, 1) := by decide +kernel
theorem dL_law_1275 : decode cL_law 1275 = .ok (.iaload, 1) := by decide +kernel
theorem dL_law_1276 : decode cL_law 1276 = .ok (.i2l, 1) := by decide +kernel
theorem dL_law_1277 : decode cL_law 1277 = .ok (.bipush 32, 2) := by decide +kernel
theorem dL_law_1279 : decode cL_law 1279 = .ok (.lshl, 1) := by decide +kernel
theorem dL_law_1280 : decode cL_law 1280 = .ok (.aload_n 0, 1) := by decide +kernel
theorem dL_law_1281 : decode cL_law 1281 = .ok (.iload_n 3, 1) := by decide +kernel
theorem dL_law_1282 : decode cL_law 1282 = .ok (.iconst 2, 1) := by decide +kernel
theorem dL_law_1283 : decode cL_law 1283 = .ok (.iadd, 1) := by decide +kernel
theorem dL_law_1284 : decode cL_law 1284 = .ok (.iaload, 1) := by decide +kernel
theorem dL_law_1285 : decode cL_law 1285 = .ok (.i2l, 1) := by decide +kernel
theorem dL_law_1286 : decode cL_law 1286 = .ok (.ldc2_w 13, 3) := by decide +kernel
theorem dL_law_1289 : decode cL_law 1289 = .ok (.land, 1) := by decide +kernel
theorem dL_law_1290 : decode cL_law 1290 = .ok (.lor, 1) := by decide +kernel
theorem dL_law_1291 : decode cL_law 1291 = .ok (.aload_n 0, 1) := by decide +kernel
theorem dL_law_1292 : decode cL_law 1292 = .ok (.iload_n 3, 1) := by decide +kernel
theorem dL_law_1293 : decode cL_law 1293 = .ok (.iconst 3, 1) := by decide +kernel
theorem dL_law_1294 : decode cL_law 1294 = .ok (.iadd, 1) := by decide +kernel
theorem dL_law_1295 : decode cL_law 1295 = .ok (.iaload, 1) := by decide +kernel
theorem dL_law_1296 : decode cL_law 1296 = .ok (.invokevirtual 132, 3) := by decide +kernel
theorem dL_law_1299 : decode cL_law 1299 = .ok (.aload_n 2, 1) := by decide +kernel
theorem dL_law_1300 : decode cL_law 1300 = .ok (.aload_n 0, 1) := by decide +kernel
theorem dL_law_1301 : decode cL_law 1301 = .ok (.iload_n 3, 1) := by decide +kernel
theorem dL_law_1302 : decode cL_law 1302 = .ok (.iconst 1, 1) := by decide +kernel
theorem dL_law_1303 : decode cL_law 1303 = .ok (.iadd, 1) := by decide +kernel
theorem dL_law_1304 : decode cL_law 1304 = .ok (.iaload, 1) := by decide +kernel
theorem dL_law_1305 : decode cL_law 1305 = .ok (.i2l, 1) := by decide +kernel
theorem dL_law_1306 : decode cL_law 1306 = .ok (.bipush 32, 2) := by decide +kernel
theorem dL_law_1308 : decode cL_law 1308 = .ok (.lshl, 1) := by decide +kernel
theorem dL_law_1309 : decode cL_law 1309 = .ok (.aload_n 0, 1) := by decide +kernel
theorem dL_law_1310 : decode cL_law 1310 = .ok (.iload_n 3, 1) := by decide +kernel
theorem dL_law_1311 : decode cL_law 1311 = .ok (.iconst 2, 1) := by decide +kernel
theorem dL_law_1312 : decode cL_law 1312 = .ok (.iadd, 1) := by decide +kernel
theorem dL_law_1313 : decode cL_law 1313 = .ok (.iaload, 1) := by decide +kernel
theorem dL_law_1314 : decode cL_law 1314 = .ok (.i2l, 1) := by decide +kernel
theorem dL_law_1315 : decode cL_law 1315 = .ok (.ldc2_w 13, 3) := by decide +kernel
theorem dL_law_1318 : decode cL_law 1318 = .ok (.land, 1) := by decide +kernel
theorem dL_law_1319 : decode cL_law 1319 = .ok (.lor, 1) := by decide +kernel
theorem dL_law_1320 : decode cL_law 1320 = .ok (.aload_n 0, 1) := by decide +kernel
theorem dL_law_1321 : decode cL_law 1321 = .ok (.iload_n 3, 1) := by decide +kernel
theorem dL_law_1322 : decode cL_law 1322 = .ok (.iconst 3, 1) := by decide +kernel
theorem dL_law_1323 : decode cL_law 1323 = .ok (.iadd, 1) := by decide +kernel
theorem dL_law_1324 : decode cL_law 1324 = .ok (.iaload, 1) := by decide +kernel
theorem dL_law_1325 : decode cL_law 1325 = .ok (.invokevirtual 136, 3) := by decide +kernel
theorem dL_law_1328 : decode cL_law 1328 = .ok (.if_icmp .eq 38, 3) := by decide +kernel
theorem dL_law_1331 : decode cL_law 1331 = .ok (.iconst 0, 1) := by decide +kernel
theorem dL_law_1332 : decode cL_law 1332 = .ok (.ireturn, 1) := by decide +kernel
theorem dL_law_1333 : decode cL_law 1333 = .ok (.aload_n 1, 1) := by decide +kernel
theorem dL_law_1334 : decode cL_law 1334 = .ok (.aload_n 0, 1) := by decide +kernel
theorem dL_law_1335 : decode cL_law 1335 = .ok (.iload_n 3, 1) := by decide +kernel
theorem dL_law_1336 : decode cL_law 1336 = .ok (.iconst 1, 1) := by decide +kernel
theorem dL_law_1337 : decode cL_law 1337 = .ok (.iadd, 1) := by decide +kernel
theorem dL_law_1338 : decode cL_law 1338 = .ok (.iaload, 1) := by decide +kernel
theorem dL_law_1339 : decode cL_law 1339 = .ok (.aload_n 0, 1) := by decide +kernel
theorem dL_law_1340 : decode cL_law 1340 = .ok (.iload_n 3, 1) := by decide +kernel
theorem dL_law_1341 : decode cL_law 1341 = .ok (.iconst 2, 1) := by decide +kernel
theorem dL_law_1342 : decode cL_law 1342 = .ok (.iadd, 1) := by decide +kernel
theorem dL_law_1343 : decode cL_law 1343 = .ok (.iaload, 1) := by decide +kernel
theorem dL_law_1344 : decode cL_law 1344 = .ok (.invokevirtual 137, 3) := by decide +kernel
theorem dL_law_1347 : decode cL_law 1347 = .ok (.aload_n 2, 1) := by decide +kernel
theorem dL_law_1348 : decode cL_law 1348 = .ok (.aload_n 0, 1) := by decide +kernel
theorem dL_law_1349 : decode cL_law 1349 = .ok (.iload_n 3, 1) := by decide +kernel
theorem dL_law_1350 : decode cL_law 1350 = .ok (.iconst 1, 1) := by decide +kernel
theorem dL_law_1351 : decode cL_law 1351 = .ok (.iadd, 1) := by decide +kernel
theorem dL_law_1352 : decode cL_law 1352 = .ok (.iaload, 1) := by decide +kernel
theorem dL_law_1353 : decode cL_law 1353 = .ok (.aload_n 0, 1) := by decide +kernel
theorem dL_law_1354 : decode cL_law 1354 = .ok (.iload_n 3, 1) := by decide +kernel
theorem dL_law_1355 : decode cL_law 1355 = .ok (.iconst 2, 1) := by decide +kernel
theorem dL_law_1356 : decode cL_law 1356 = .ok (.iadd, 1) := by decide +kernel
theorem dL_law_1357 : decode cL_law 1357 = .ok (.iaload, 1) := by decide +kernel
theorem dL_law_1358 : decode cL_law 1358 = .ok (.invokevirtual 140, 3) := by decide +kernel
theorem dL_law_1361 : decode cL_law 1361 = .ok (.if_icmp .eq 5, 3) := by decide +kernel
theorem dL_law_1364 : decode cL_law 1364 = .ok (.iconst 0, 1) := by decide +kernel
theorem dL_law_1365 : decode cL_law 1365 = .ok (.ireturn, 1) := by decide +kernel
theorem dL_law_1366 : decode cL_law 1366 = .ok (.iinc 3 6, 3) := by decide +kernel
theorem dL_law_1369 : decode cL_law 1369 = .ok (.goto (-1351), 3) := by decide +kernel
theorem dL_law_1372 : decode cL_law 1372 = .ok (.iconst 1, 1) := by decide +kernel
theorem dL_law_1373 : decode cL_law 1373 = .ok (.ireturn, 1) := by decide +kernel
end
section
/-! ===== the store: ints, longs, references (as numbers of objects), addresses, how many of each kind (99: the heap) ===== -/
abbrev St : Type := (Nat → Nat → Nat → Int32) × (Nat → Nat → Nat → Int64) × (Nat → Nat → Nat → Option Nat) × (Nat → Nat → Nat) × (Nat → Nat)
def gi (S : St) (k j f : Nat) : Int32 := S.1 k j f
def gj (S : St) (k j f : Nat) : Int64 := S.2.1 k j f
def gr (S : St) (k j f : Nat) : Option Nat := S.2.2.1 k j f
def ga (S : St) (k j : Nat) : Nat := S.2.2.2.1 k j
def gn (S : St) (k : Nat) : Nat := S.2.2.2.2 k
def up3 {α : Type} (F : Nat → Nat → Nat → α) (k j f : Nat) (v : α) : Nat → Nat → Nat → α := fun a b c => if a = k ∧ b = j ∧ c = f then v else F a b c
def si (S : St) (k j f : Nat) (v : Int32) : St := (up3 S.1 k j f v, S.2)
def sj (S : St) (k j f : Nat) (v : Int64) : St := (S.1, up3 S.2.1 k j f v, S.2.2)
def sr (S : St) (k j f : Nat) (v : Option Nat) : St := (S.1, S.2.1, up3 S.2.2.1 k j f v, S.2.2.2)
/-- one more object of kind k, with zeros, at the heap's end -/
def sn (S : St) (k : Nat) : St :=
  ((fun a b c => if a = k ∧ b = gn S k then 0 else S.1 a b c), (fun a b c => if a = k ∧ b = gn S k then 0 else S.2.1 a b c), (fun a b c => if a = k ∧ b = gn S k then none else S.2.2.1 a b c), (fun a b => if a = k ∧ b = gn S k then gn S 99 else S.2.2.2.1 a b), (fun a => if a = k ∨ a = 99 then S.2.2.2.2 a + 1 else S.2.2.2.2 a))
theorem gi_si (S : St) (k j f : Nat) (v : Int32) (a b c : Nat) : gi (si S k j f v) a b c = if a = k ∧ b = j ∧ c = f then v else gi S a b c := rfl
theorem gi_sj (S : St) (k j f : Nat) (v : Int64) (a b c : Nat) : gi (sj S k j f v) a b c = gi S a b c := rfl
theorem gi_sr (S : St) (k j f : Nat) (v : Option Nat) (a b c : Nat) : gi (sr S k j f v) a b c = gi S a b c := rfl
theorem gi_sn (S : St) (k : Nat) (a b c : Nat) : gi (sn S k) a b c = if a = k ∧ b = gn S k then 0 else gi S a b c := rfl
theorem gj_si (S : St) (k j f : Nat) (v : Int32) (a b c : Nat) : gj (si S k j f v) a b c = gj S a b c := rfl
theorem gj_sj (S : St) (k j f : Nat) (v : Int64) (a b c : Nat) : gj (sj S k j f v) a b c = if a = k ∧ b = j ∧ c = f then v else gj S a b c := rfl
theorem gj_sr (S : St) (k j f : Nat) (v : Option Nat) (a b c : Nat) : gj (sr S k j f v) a b c = gj S a b c := rfl
theorem gj_sn (S : St) (k : Nat) (a b c : Nat) : gj (sn S k) a b c = if a = k ∧ b = gn S k then 0 else gj S a b c := rfl
theorem gr_si (S : St) (k j f : Nat) (v : Int32) (a b c : Nat) : gr (si S k j f v) a b c = gr S a b c := rfl
theorem gr_sj (S : St) (k j f : Nat) (v : Int64) (a b c : Nat) : gr (sj S k j f v) a b c = gr S a b c := rfl
theorem gr_sr (S : St) (k j f : Nat) (v : Option Nat) (a b c : Nat) : gr (sr S k j f v) a b c = if a = k ∧ b = j ∧ c = f then v else gr S a b c := rfl
theorem gr_sn (S : St) (k : Nat) (a b c : Nat) : gr (sn S k) a b c = if a = k ∧ b = gn S k then none else gr S a b c := rfl
theorem gn_si (S : St) (k j f : Nat) (v : Int32) (a : Nat) : gn (si S k j f v) a = gn S a := rfl
theorem gn_sj (S : St) (k j f : Nat) (v : Int64) (a : Nat) : gn (sj S k j f v) a = gn S a := rfl
theorem gn_sr (S : St) (k j f : Nat) (v : Option Nat) (a : Nat) : gn (sr S k j f v) a = gn S a := rfl
theorem gn_sn (S : St) (k : Nat) (a : Nat) : gn (sn S k) a = if a = k ∨ a = 99 then gn S a + 1 else gn S a := rfl
theorem ga_sn (S : St) (k : Nat) (a b : Nat) : ga (sn S k) a b = if a = k ∧ b = gn S k then gn S 99 else ga S a b := rfl
def Ext (S S' : St) : Prop := ∀ k j, j < gn S k → j < gn S' k ∧ ga S' k j = ga S k j
theorem Ext.rf {S : St} : Ext S S := fun _ _ h => ⟨h, rfl⟩
theorem Ext.trans {S S1 S2 : St} (h1 : Ext S S1) (h2 : Ext S1 S2) : Ext S S2 := fun k j h => ⟨(h2 k j (h1 k j h).1).1, ((h2 k j (h1 k j h).1).2).trans (h1 k j h).2⟩
def AtO (S : St) (k j a : Nat) : Prop := j < gn S k ∧ ga S k j = a
theorem AtO.ext {S S' : St} {k j a : Nat} (h : AtO S k j a) (hx : Ext S S') : AtO S' k j a := ⟨(hx k j h.1).1, (hx k j h.1).2.trans h.2⟩
/-- only the row (k, j) may differ -/
def Upd (S S' : St) (k j : Nat) : Prop := (∀ k' j', ¬ (k' = k ∧ j' = j) → gi S' k' j' = gi S k' j' ∧ gj S' k' j' = gj S k' j' ∧ gr S' k' j' = gr S k' j') ∧ ga S' = ga S ∧ gn S' = gn S
theorem Upd.ext {S S' : St} {k j : Nat} (h : Upd S S' k j) : Ext S S' := fun a b hb => ⟨by rw [h.2.2]; exact hb, by rw [h.2.1]⟩
theorem upd_si (S : St) (k j f : Nat) (v : Int32) : Upd S (si S k j f v) k j := ⟨fun a b h => ⟨by funext c; exact (gi_si S k j f v a b c).trans (if_neg fun q => h ⟨q.1, q.2.1⟩), rfl, rfl⟩, rfl, rfl⟩
theorem upd_sj (S : St) (k j f : Nat) (v : Int64) : Upd S (sj S k j f v) k j := ⟨fun a b h => ⟨rfl, by funext c; exact (gj_sj S k j f v a b c).trans (if_neg fun q => h ⟨q.1, q.2.1⟩), rfl⟩, rfl, rfl⟩
theorem upd_sr (S : St) (k j f : Nat) (v : Option Nat) : Upd S (sr S k j f v) k j := ⟨fun a b h => ⟨rfl, rfl, by funext c; exact (gr_sr S k j f v a b c).trans (if_neg fun q => h ⟨q.1, q.2.1⟩)⟩, rfl, rfl⟩
/-! ===== the picture ===== -/
def pcM (cA : Nat → ClassId) (es : Nat → Nat) (ad : Nat → Nat → Nat) (k : Nat) (I : Nat → Int32) (J : Nat → Int64) (R : Nat → Option Nat) : va_E := match k with
  | 0 => .inr (0, [.int (I 0), .int (I 1), .long (J 2), .long (J 3)])
  | 1 => .inr (1, [.int (I 0), .long (J 1), .long (J 2), .long (J 3)])
  | 2 => .inr (2, [.ref (ad 13 0), .int (I 1), .int (I 2)])
  | 3 => .inr (3, [.int (I 0), .int (I 1), .int (I 2), .long (J 3), .int (I 4)])
  | 4 => .inr (4, [va_rf (Option.map (ad 5) (R 0)), .long (J 1), .long (J 2), .long (J 3), .long (J 4), .int (I 5)])
  | 5 => .inr (5, [.int (I 0), .int (I 1), .long (J 2), .long (J 3), va_rf (Option.map es (R 4)), .int (I 5), .long (J 6), .long (J 7), .int (I 8), .int (I 9), .int (I 10), .int (I 11)])
  | 6 => .inr (6, [.ref (ad 14 0), .ref (ad 15 0), .ref (ad 16 0), .int (I 3), .int (I 4), .long (J 5)])
  | 7 => .inr (7, [.ref (ad 10 0), .ref (ad 11 0), .ref (ad 12 0), .ref (ad 4 0), .ref (ad 2 0), .ref (ad 6 0), .int (I 6), .int (I 7), .int (I 8), .long (J 9), .int (I 10)])
  | 8 => .inr (8, [.int (I 0), .ref (ad 17 0), .ref (ad 18 0), .ref (ad 19 0), .ref (ad 20 0), .ref (ad 21 0), .ref (ad 22 0), .ref (ad 23 0), .ref (ad 24 0), .ref (ad 25 0), .ref (ad 26 0), .ref (ad 27 0), .int (I 12), .ref (ad 28 0), .ref (ad 29 0), .ref (ad 30 0), .long (J 16), .int (I 17), .long (J 18), .long (J 19), .long (J 20), .long (J 21), .int (I 22), .int (I 23), .ref (ad 31 0), .ref (ad 32 0), .ref (ad 33 0), .int (I 27), .long (J 28), .int (I 29), .int (I 30), .ref (ad 34 0), .ref (ad 35 0), .ref (ad 36 0), .ref (ad 37 0), .ref (ad 38 0)])
  | 10 => .inl (cA 10, (60, .inr (.inr (.inr (.inr (fun e => Option.map (ad 5) (R e)))))))
  | 11 => .inl (cA 11, (30, .inr (.inr (.inr (.inr (fun e => Option.map (ad 1) (R e)))))))
  | 12 => .inl (cA 12, (18, .inr (.inr (.inr (.inr (fun e => Option.map (ad 0) (R e)))))))
  | 13 => .inl (cA 13, (240, .inr (.inr (.inr (.inr (fun e => Option.map (ad 3) (R e)))))))
  | 14 => .inl (cA 14, (18, .inr (.inr (.inr (.inr (fun e => Option.map (ad 0) (R e)))))))
  | 15 => .inl (cA 15, (19, .inr (.inl J)))
  | 16 => .inl (cA 16, (30, .inr (.inl J)))
  | 17 => .inl (cA 17, (60, .inl I))
  | 18 => .inl (cA 18, (60, .inr (.inl J)))
  | 19 => .inl (cA 19, (60, .inr (.inl J)))
  | 20 => .inl (cA 20, (60, .inl I))
  | 21 => .inl (cA 21, (60, .inl I))
  | 22 => .inl (cA 22, (60, .inr (.inl J)))
  | 23 => .inl (cA 23, (60, .inl I))
  | 24 => .inl (cA 24, (60, .inl I))
  | 25 => .inl (cA 25, (60, .inl I))
  | 26 => .inl (cA 26, (60, .inr (.inl J)))
  | 27 => .inl (cA 27, (60, .inl I))
  | 28 => .inl (cA 28, (30, .inr (.inl J)))
  | 29 => .inl (cA 29, (30, .inr (.inl J)))
  | 30 => .inl (cA 30, (30, .inr (.inl J)))
  | 31 => .inl (cA 31, (18, .inl I))
  | 32 => .inl (cA 32, (18, .inr (.inl J)))
  | 33 => .inl (cA 33, (18, .inr (.inl J)))
  | 34 => .inl (cA 34, (1024, .inl I))
  | 35 => .inl (cA 35, (1024, .inl I))
  | 36 => .inl (cA 36, (1024, .inl I))
  | 37 => .inl (cA 37, (1024, .inr (.inl J)))
  | 38 => .inl (cA 38, (1024, .inl I))
  | _ => .inr (0, [])
def tysM (cA : Nat → ClassId) : List (ClassId × FieldType) := [(cA 10, .object "ClockAuctions$Lot"), (cA 11, .object "ClockAuctions$Buyer"), (cA 12, .object "ClockAuctions$Bid"), (cA 13, .object "ClockAuctions$Entry"), (cA 14, .object "ClockAuctions$Bid"), (cA 15, .long), (cA 16, .long), (cA 17, .int), (cA 18, .long), (cA 19, .long), (cA 20, .int), (cA 21, .int), (cA 22, .long), (cA 23, .boolean), (cA 24, .boolean), (cA 25, .boolean), (cA 26, .long), (cA 27, .int), (cA 28, .long), (cA 29, .long), (cA 30, .long), (cA 31, .int), (cA 32, .long), (cA 33, .long), (cA 34, .int), (cA 35, .int), (cA 36, .int), (cA 37, .long), (cA 38, .int)]
def kB (n : Nat → Nat) (k : Nat) : Nat := match k with
  | 5 => 6
  | 4 => n 5
  | 10 => n 5
  | 11 => n 1
  | 12 => n 0
  | 13 => n 3
  | 14 => n 0
  | _ => 0
abbrev GT : Type := va_G × Nat × (Nat → ClassId) × (Nat → Nat)
def pcS (G : GT) (S : St) (k j : Nat) : va_E := pcM G.2.2.1 G.2.2.2 (ga S) k (gi S k j) (gj S k j) (gr S k j)
def stN (j : Nat) : String := match j with
  | 0 => "OPEN"
  | 1 => "ON"
  | 2 => "OFFERED"
  | 3 => "SOLD"
  | 4 => "UNSOLD"
  | _ => "BACK"
def pwFix (k : Nat) : Prop := k < 39 ∧ k ≠ 0 ∧ k ≠ 1 ∧ k ≠ 3 ∧ k ≠ 5 ∧ k ≠ 9
def PW (G : GT) (S : St) (U : State) (H : Heap) : Prop :=
  (H.size = gn S 99 ∧ G.2.1 ≤ H.size) ∧
  (∀ k j, k < 39 → k ≠ 9 → j < gn S k → va_at G.1 vwCl (ga S k j, pcS G S k j) H ∧ G.2.1 ≤ ga S k j) ∧
  (∀ k j k' j', k < 39 → k' < 39 → k ≠ 9 → k' ≠ 9 → j < gn S k → j' < gn S k' → ga S k j = ga S k' j' → k = k' ∧ j = j') ∧
  (∀ k j f i, gr S k j f = some i → i < kB (gn S) k) ∧
  (∀ k, pwFix k → 0 < gn S k) ∧
  (∀ i j, i < 6 → j < 6 → G.2.2.2 i = G.2.2.2 j → i = j) ∧
  va_K G.1 vwCl (tysM G.2.2.1) U ∧
  (∀ j, j < 6 → va_Z "ClockAuctions$State" (stN j) "LClockAuctions$State;" (.ref (G.2.2.2 j)) (fun q => G.2.1 ≤ q) U H)
theorem PW.K {G : GT} {S : St} {U : State} {H : Heap} (h : PW G S U H) : va_K G.1 vwCl (tysM G.2.2.1) U := h.2.2.2.2.2.2.1
theorem PW.moved {G : GT} {S : St} {U U' : State} {H : Heap} (hvm : U.vm.Alike U'.vm) (h : PW G S U H) : PW G S U' H :=
  ⟨h.1, h.2.1, h.2.2.1, h.2.2.2.1, h.2.2.2.2.1, h.2.2.2.2.2.1, va_K.moved hvm h.K, fun j hj => va_Z.moved hvm (h.2.2.2.2.2.2.2 j hj)⟩
theorem PW.upd {G : GT} {S S' : St} {U : State} {H H1 : Heap} (h : PW G S U H) {k j : Nat} (hk : k < 39) (hk9 : k ≠ 9) (hj : j < gn S k) (hU : Upd S S' k j) (hat : va_at G.1 vwCl (ga S k j, pcS G S' k j) H1) (z : H1.size = H.size) (oq : ∀ q, q ≠ ga S k j → H1[q]? = H[q]?) (hwf : ∀ k j f i, gr S' k j f = some i → i < kB (gn S') k) : PW G S' U H1 := by
  obtain ⟨hI, hA, hN⟩ := hU
  obtain ⟨h1, h2, h3, h4, h5, h6, h7, h8⟩ := h
  refine ⟨⟨by rw [z, hN]; exact h1.1, by rw [z]; exact h1.2⟩, fun k' j' a b c => ?_, fun k1 j1 k2 j2 => by rw [hA, hN]; exact h3 k1 j1 k2 j2, hwf, fun k' hk' => by rw [hN]; exact h5 k' hk', h6, h7, fun i hi => (h8 i hi).kept fun q hq hb => oq q fun e => hb (by rw [e]; exact (h2 k j hk hk9 hj).2)⟩
  rw [hN] at c
  rw [hA]
  by_cases e : k' = k ∧ j' = j
  · obtain ⟨rfl, rfl⟩ := e
    exact ⟨hat, (h2 k' j' a b c).2⟩
  · have e2 : pcS G S' k' j' = pcS G S k' j' := by
      unfold pcS
      rw [hA, (hI k' j' e).1, (hI k' j' e).2.1, (hI k' j' e).2.2]
    rw [e2]
    obtain ⟨q1, q2⟩ := h2 k' j' a b c
    exact ⟨q1.kept (oq _ fun z => e (h3 k' j' k j a hk b hk9 c hj z)), q2⟩
theorem pw_wf {G : GT} {S : St} {U : State} {H : Heap} (h : PW G S U H) : ∀ k j f i, gr S k j f = some i → i < kB (gn S) k := h.2.2.2.1
theorem wf_same {S S' : St} (h : ∀ k j f i, gr S k j f = some i → i < kB (gn S) k) (e1 : S'.2.2.1 = S.2.2.1) (e2 : S'.2.2.2.2 = S.2.2.2.2) : ∀ k j f i, gr S' k j f = some i → i < kB (gn S') k := fun k j f i q => by
  have e3 : gr S' = gr S := e1
  have e4 : gn S' = gn S := e2
  rw [e3] at q
  rw [e4]
  exact h k j f i q
theorem wf_sr {S : St} {k j f : Nat} {v : Option Nat} (h : ∀ k j f i, gr S k j f = some i → i < kB (gn S) k) (hv : ∀ i, v = some i → i < kB (gn S) k) : ∀ k' j' f' i, gr (sr S k j f v) k' j' f' = some i → i < kB (gn (sr S k j f v)) k' := fun k' j' f' i q => by
  rw [gr_sr] at q
  by_cases e : k' = k ∧ j' = j ∧ f' = f
  · rw [if_pos e] at q
    obtain ⟨rfl, rfl, rfl⟩ := e
    exact hv i q
  · rw [if_neg e] at q
    exact h k' j' f' i q
/-- all fields of an object, or an array's elements, are as they were, but the world is a larger one -/
theorem kB_mono {n n' : Nat → Nat} (h : ∀ k, n k ≤ n' k) (k : Nat) : kB n k ≤ kB n' k := by
  unfold kB
  split <;> first | exact Nat.le_refl _ | exact h _
/-- the whole world, and what was there before -/
def WW (G : GT) (S : St) (s : State) (H : Heap) (locs : List Loc) : Prop := PW G S s H ∧ va_S (fun q => G.2.1 ≤ q) s.heap H locs
abbrev CX (p : Program) (m : MethodId) (c : Code) (cc : ByteArray) (nL : Nat) (s : State) (args : Array Value) (own : String) : Prop := CallFix p m c cc nL s args wT own
section ROWS
variable {p : Program} {l : Launch} {e : Env} {R : Room} {s : State} {m : MethodId} {args : Array Value} {below : List Frame} {meth : Method} {c : Code} {H : Heap} {locs : List Loc} {cells slots : Nat} {Q : State → Prop}
variable {cc : ByteArray} {pc nL : Nat} {ls : Array Slot} {rest : List Value} {G : GT} {S : St} {own : String} {a j : Nat}
theorem W.tight {g : JFrame} {k : Nat} (hsz : H.size ≤ s.heap.size + k) (kk : W p l e R s m args below meth c H locs k slots Q g) : W p l e R s m args below meth c H locs cells slots Q g :=
  fun T hT X => kk T hT { X with same := ⟨X.same.1, X.same.2.1, by show T.heap.size ≤ _; rw [hT]; exact hsz, X.same.2.2.2⟩ }
theorem pw_one {k : Nat} (hw : WW G S s H locs) (hk : k < 39) (hk9 : k ≠ 9) (ha : AtO S k j a) : va_P G.1 vwCl [(a, pcS G S k j)] H := fun i q hq => by
  obtain ⟨hj, rfl⟩ := ha
  cases i with
  | zero =>
    have h := Option.some.inj hq
    subst h
    exact (hw.1.2.1 k j hk hk9 hj).1
  | succ i => simp at hq
theorem pw_get (F : CX p m c cc nL s args own) (hw : WW G S s H locs) (k : Nat) (hk : k < 39) (hk9 : k ≠ 9) (ha : AtO S k j a) {ref C : String} {T : u_T} {N ci index : Nat} (hin : ∀ w ∈ u_ws C T N, w ∈ wT) {fs : List Value} (he : pcS G S k j = .inr (ci, fs)) (hc : vwCl[ci]? = some (C, T, N)) (f : Nat) (hf : f < N) (hl : Cond.fieldLink own index ref (T f).2.1 (T f).2.2.1 ∈ wT) (hsame : ∀ x, s.fieldFound? (T f).1 (T f).2.1 (T f).2.2.1 = some x → s.fieldFound? ref (T f).2.1 (T f).2.2.1 = some x) {v : Value} (hv : fs[f]? = some v) (hdg : decode cc pc = .ok (.getfield index, 3))
    (kk : W p l e R s m args below meth c H locs cells slots Q (F0 m (pc + 3) ls (v :: rest))) : W p l e R s m args below meth c H locs cells slots Q (F0 m pc ls (.ref a :: rest)) :=
  va_get (D := G.1) (cl := vwCl) (ci := ci) (C := C) (T := T) (N := N) F.1 F.2.1 F.2.2.2.2 hin F.2.2.2.1 hw.1.K (pw_one hw hk hk9 ha) 0 (by rw [he]; rfl) hc f hf (F.2.2.2.2 _ hl) hsame hv hdg kk
theorem pw_put (F : CX p m c cc nL s args own) (hw : WW G S s H locs) (k : Nat) (hk : k < 39) (hk9 : k ≠ 9) (ha : AtO S k j a) {ref C : String} {T : u_T} {N ci index : Nat} (hin : ∀ w ∈ u_ws C T N, w ∈ wT) (ty0 : Nat → FieldType) (hty : ∀ k, k < N → parseFieldDescriptor (T k).2.2.1 = some (ty0 k)) (hnm : ∀ a, a < N → ∀ b, b < N → a ≠ b → (T a).2.1 ≠ (T b).2.1) {fs : List Value} (he : pcS G S k j = .inr (ci, fs)) (hc : vwCl[ci]? = some (C, T, N)) (f : Nat) (hf : f < N) (hl : Cond.fieldLink own index ref (T f).2.1 (T f).2.2.1 ∈ wT) (hsame : ∀ x, s.fieldFound? (T f).1 (T f).2.1 (T f).2.2.1 = some x → s.fieldFound? ref (T f).2.1 (T f).2.2.1 = some x)
    (hfin : (T f).2.2.2 = false) {ty : FieldType} {v : Value} (hd : parseFieldDescriptor (T f).2.2.1 = some ty) (hn : narrow ty v = v) (hfit : fits ty v = true) (hlen : f < fs.length) {S' : St} (hE : pcS G S' k j = .inr (ci, fs.set f v)) (hU : Upd S S' k j) (hwf : ∀ k j f i, gr S' k j f = some i → i < kB (gn S') k) (hdg : decode cc pc = .ok (.putfield index, 3))
    (kk : ∀ (H1 : Heap) (locs1 : List Loc), WW G S' s H1 locs1 → Ext S S' → W p l e R s m args below meth c H1 locs1 cells slots Q (F0 m (pc + 3) ls rest)) : W p l e R s m args below meth c H locs cells slots Q (F0 m pc ls (v :: .ref a :: rest)) := by
  obtain ⟨hx, hb, hml, hown, hts⟩ := F
  obtain ⟨hP, hS⟩ := hw
  have hap := va_apart (own := own) hts hin ty0 hty hnm hP.K hc
  obtain ⟨hj, rfl⟩ := ha
  obtain ⟨hat, hbs⟩ := hP.2.1 k j hk hk9 hj
  rw [he] at hat
  obtain ⟨r, h1, cell, q1, q2, q3, q4⟩ := hat
  have hr : r = (C, T, N) := Option.some.inj (h1.symm.trans hc)
  subst hr
  obtain ⟨hSl, hfc, kC, hkC, hkind⟩ := hP.K.1 ci _ hc
  obtain ⟨cf, kf, fi, fd, hi, hsl⟩ := hSl f hf
  have hlay := hts _ (hin _ (u_in_lay hf))
  unfold u_lay at hlay
  rw [if_neg (by rw [hfin]; decide)] at hlay
  have hst := (u_facts hfc hkC (u_lays hts hin hf) hi).1
  have h6 := u_store hfc hkC hkind hlay hi hd hn hfit
  refine W.putK hx hb (f := fd) ⟨hown, hts _ hl, ⟨_, _, _, hsame _ hi⟩, hst⟩ (by rw [q2]; exact h6) q1 q3 (by rw [hsl]; exact k2_hasslot (q4 f hf)) rfl rfl hdg fun H' e1 e2 e3 => ?_
  rw [hsl] at e1 ⊢
  refine kk H' _ ⟨hP.upd hk hk9 hj hU ?_ e2 e3 hwf, hS.put e2 e3 hbs⟩ hU.ext
  rw [hE]
  exact ⟨_, hc, t_OB.to (V := updV (vp_V fs) f v) ⟨_, e1, q2, q3, t_set q4 hap hf v⟩ (fun j _ => vp_updV_set hlen v j)⟩
theorem pw_putF (F : CX p m c cc nL s args own) (hw : WW G S s H locs) (k : Nat) (hk : k < 39) (hk9 : k ≠ 9) (ha : AtO S k j a) {ref C : String} {T : u_T} {N ci index : Nat} (hin : ∀ w ∈ u_ws C T N, w ∈ wT) (ty0 : Nat → FieldType) (hty : ∀ k, k < N → parseFieldDescriptor (T k).2.2.1 = some (ty0 k)) (hnm : ∀ a, a < N → ∀ b, b < N → a ≠ b → (T a).2.1 ≠ (T b).2.1) {fs : List Value} (he : pcS G S k j = .inr (ci, fs)) (hc : vwCl[ci]? = some (C, T, N)) (f : Nat) (hf : f < N) (hl : Cond.fieldLink own index ref (T f).2.1 (T f).2.2.1 ∈ wT) (hsame : ∀ x, s.fieldFound? (T f).1 (T f).2.1 (T f).2.2.1 = some x → s.fieldFound? ref (T f).2.1 (T f).2.2.1 = some x)
    (hfin : (T f).2.2.2 = true) (hin2 : meth.name = "<init>") (hdecl : (T f).1 = own) {ty : FieldType} {v : Value} (hd : parseFieldDescriptor (T f).2.2.1 = some ty) (hn : narrow ty v = v) (hfit : fits ty v = true) (hlen : f < fs.length) {S' : St} (hE : pcS G S' k j = .inr (ci, fs.set f v)) (hU : Upd S S' k j) (hwf : ∀ k j f i, gr S' k j f = some i → i < kB (gn S') k) (hdg : decode cc pc = .ok (.putfield index, 3))
    (kk : ∀ (H1 : Heap) (locs1 : List Loc), WW G S' s H1 locs1 → Ext S S' → W p l e R s m args below meth c H1 locs1 cells slots Q (F0 m (pc + 3) ls rest)) : W p l e R s m args below meth c H locs cells slots Q (F0 m pc ls (v :: .ref a :: rest)) := by
  obtain ⟨hx, hb, hml, hown, hts⟩ := F
  obtain ⟨hP, hS⟩ := hw
  have hap := va_apart (own := own) hts hin ty0 hty hnm hP.K hc
  obtain ⟨hj, rfl⟩ := ha
  obtain ⟨hat, hbs⟩ := hP.2.1 k j hk hk9 hj
  rw [he] at hat
  obtain ⟨r, h1, cell, q1, q2, q3, q4⟩ := hat
  have hr : r = (C, T, N) := Option.some.inj (h1.symm.trans hc)
  subst hr
  obtain ⟨hSl, hfc, kC, hkC, hkind⟩ := hP.K.1 ci _ hc
  obtain ⟨cf, kf, fi, fd, hi, hsl⟩ := hSl f hf
  have hlay := hts _ (hin _ (u_in_lay hf))
  unfold u_lay at hlay
  rw [if_pos hfin] at hlay
  have hst := (u_facts hfc hkC (u_lays hts hin hf) hi).1
  have hcf : m.cls = cf := by
    obtain ⟨_, _, c', _, _, _, -, -, hf', -, -, -, hown2, -⟩ := Cond.laysFinal_spec hlay
    have e1 : c' = cf := by have := hi.symm.trans hf'; simp at this; exact this.1.symm
    rw [hdecl] at hown2
    rw [← e1]; exact Option.some.inj (hown.symm.trans hown2)
  have h6 := u_fits hfc hkC hkind (Or.inr hlay) hi hd hn hfit
  refine W.putFinK hx hb hown (hts _ hl) (hsame _ hi) hst hcf hin2 (by rw [q2]; exact h6) q1 q3 (by rw [hsl]; exact k2_hasslot (q4 f hf)) rfl rfl hdg fun H' e1 e2 e3 => ?_
  rw [hsl] at e1 ⊢
  refine kk H' _ ⟨hP.upd hk hk9 hj hU ?_ e2 e3 hwf, hS.put e2 e3 hbs⟩ hU.ext
  rw [hE]
  exact ⟨_, hc, t_OB.to (V := updV (vp_V fs) f v) ⟨_, e1, q2, q3, t_set q4 hap hf v⟩ (fun j _ => vp_updV_set hlen v j)⟩
theorem pw_recv (hw : WW G S s H locs) (k : Nat) (hk : k < 39) (hk9 : k ≠ 9) (ha : AtO S k j a) {ci : Nat} {q : vw_C} {fs : List Value} (he : pcS G S k j = .inr (ci, fs)) (hc : vwCl[ci]? = some q) : ∃ cell : Cell, H[a]? = some cell ∧ cell.vm.isStatics = false ∧ s.vm.findClass q.1 = some cell.cls :=
  va_recv (D := G.1) (cl := vwCl) hw.1.K (pw_one hw hk hk9 ha) (q0 := 0) (ci := ci) (fs := fs) hc (by rw [he]; rfl)
/-! arrays -/
theorem pw_arr (hw : WW G S s H locs) (k : Nat) (hk : k < 39) (hk9 : k ≠ 9) (ha : AtO S k j a) {cA : ClassId} {A : vp_A} (he : pcS G S k j = .inl (cA, A)) : H[a]? = some (vp_cell cA A) := by
  obtain ⟨hj, rfl⟩ := ha
  have h := (hw.1.2.1 k j hk hk9 hj).1
  rw [he] at h
  exact h
theorem pw_iald (F : CX p m c cc nL s args own) (hw : WW G S s H locs) (k t : Nat) (hk : k < 39) (hk9 : k ≠ 9) (ha : AtO S k j a) {n : Nat} (he : pcS G S k j = .inl (G.2.2.1 k, (n, .inl (gi S k j)))) (ht : (tysM G.2.2.1)[t]? = some (G.2.2.1 k, .int)) {i : Int32} (hin : vp_in i n) (hdg : decode cc pc = .ok (.iaload, 1))
    (kk : W p l e R s m args below meth c H locs cells slots Q (F0 m (pc + 1) ls (.int (gi S k j i.toNatClampNeg) :: rest))) : W p l e R s m args below meth c H locs cells slots Q (F0 m pc ls (.int i :: .ref a :: rest)) :=
  va_iald (D := G.1) (cl := vwCl) F.1 F.2.1 hw.1.K (pw_one hw hk hk9 ha) 0 t (by rw [he]; rfl) ht hin hdg kk
theorem pw_zald (F : CX p m c cc nL s args own) (hw : WW G S s H locs) (k t : Nat) (hk : k < 39) (hk9 : k ≠ 9) (ha : AtO S k j a) {n : Nat} (he : pcS G S k j = .inl (G.2.2.1 k, (n, .inl (gi S k j)))) (ht : (tysM G.2.2.1)[t]? = some (G.2.2.1 k, .boolean)) {i : Int32} (hin : vp_in i n) (hdg : decode cc pc = .ok (.baload, 1))
    (kk : W p l e R s m args below meth c H locs cells slots Q (F0 m (pc + 1) ls (.int (gi S k j i.toNatClampNeg) :: rest))) : W p l e R s m args below meth c H locs cells slots Q (F0 m pc ls (.int i :: .ref a :: rest)) :=
  va_zald (D := G.1) (cl := vwCl) F.1 F.2.1 hw.1.K (pw_one hw hk hk9 ha) 0 t (by rw [he]; rfl) ht hin hdg kk
theorem pw_lald (F : CX p m c cc nL s args own) (hw : WW G S s H locs) (k t : Nat) (hk : k < 39) (hk9 : k ≠ 9) (ha : AtO S k j a) {n : Nat} (he : pcS G S k j = .inl (G.2.2.1 k, (n, .inr (.inl (gj S k j))))) (ht : (tysM G.2.2.1)[t]? = some (G.2.2.1 k, .long)) {i : Int32} (hin : vp_in i n) (hdg : decode cc pc = .ok (.laload, 1))
    (kk : W p l e R s m args below meth c H locs cells slots Q (F0 m (pc + 1) ls (.long (gj S k j i.toNatClampNeg) :: rest))) : W p l e R s m args below meth c H locs cells slots Q (F0 m pc ls (.int i :: .ref a :: rest)) :=
  va_lald (D := G.1) (cl := vwCl) F.1 F.2.1 hw.1.K (pw_one hw hk hk9 ha) 0 t (by rw [he]; rfl) ht hin hdg kk
theorem pw_aald (F : CX p m c cc nL s args own) (hw : WW G S s H locs) (k t k2 : Nat) (hk : k < 39) (hk9 : k ≠ 9) (ha : AtO S k j a) {n : Nat} {C : String} (he : pcS G S k j = .inl (G.2.2.1 k, (n, .inr (.inr (.inr (.inr (fun e => Option.map (ga S k2) (gr S k j e)))))))) (hkb : kB (gn S) k = gn S k2) (ht : (tysM G.2.2.1)[t]? = some (G.2.2.1 k, .object C)) {i : Int32} (hin : vp_in i n) (hdg : decode cc pc = .ok (.aaload, 1))
    (kn : gr S k j i.toNatClampNeg = none → W p l e R s m args below meth c H locs cells slots Q (F0 m (pc + 1) ls (.null :: rest)))
    (ks : ∀ j2 a2 : Nat, gr S k j i.toNatClampNeg = some j2 → AtO S k2 j2 a2 → W p l e R s m args below meth c H locs cells slots Q (F0 m (pc + 1) ls (.ref a2 :: rest))) : W p l e R s m args below meth c H locs cells slots Q (F0 m pc ls (.int i :: .ref a :: rest)) := by
  refine va_aldq (D := G.1) (cl := vwCl) (C := C) F.1 F.2.1 hw.1.K (pw_one hw hk hk9 ha) 0 t (by rw [he]; rfl) ht hin hdg ?_
  cases hr : gr S k j i.toNatClampNeg with
  | none => exact kn hr
  | some j2 => exact ks j2 _ hr ⟨by rw [← hkb]; exact pw_wf hw.1 _ _ _ _ hr, rfl⟩
theorem pw_alen (F : CX p m c cc nL s args own) (hw : WW G S s H locs) (k t : Nat) (hk : k < 39) (hk9 : k ≠ 9) (ha : AtO S k j a) {A : vp_A} (he : pcS G S k j = .inl (G.2.2.1 k, A)) {ty : FieldType} (ht : (tysM G.2.2.1)[t]? = some (G.2.2.1 k, ty)) {v : Int32} (hv : Int32.ofNat A.1 = v) (hdg : decode cc pc = .ok (.arraylength, 1))
    (kk : W p l e R s m args below meth c H locs cells slots Q (F0 m (pc + 1) ls (.int v :: rest))) : W p l e R s m args below meth c H locs cells slots Q (F0 m pc ls (.ref a :: rest)) :=
  va_alen (D := G.1) (cl := vwCl) F.1 F.2.1 hw.1.K (pw_one hw hk hk9 ha) 0 t (by rw [he]; rfl) ht hv hdg kk
theorem pw_iast (F : CX p m c cc nL s args own) (hw : WW G S s H locs) (k t : Nat) (hk : k < 39) (hk9 : k ≠ 9) (ha : AtO S k j a) {n : Nat} (he : ∀ S : St, pcS G S k j = .inl (G.2.2.1 k, (n, .inl (gi S k j)))) (ht : (tysM G.2.2.1)[t]? = some (G.2.2.1 k, .int)) {i x : Int32} (hin : vp_in i n) (hdg : decode cc pc = .ok (.iastore, 1))
    (kk : ∀ (S1 : St) (H1 : Heap) (locs1 : List Loc), S1 = si S k j i.toNatClampNeg x → WW G S1 s H1 locs1 → Ext S S1 → W p l e R s m args below meth c H1 locs1 cells slots Q (F0 m (pc + 1) ls rest)) : W p l e R s m args below meth c H locs cells slots Q (F0 m pc ls (.int x :: .int i :: .ref a :: rest)) := by
  have h0 := pw_arr hw k hk hk9 ha (he S)
  have hlt : i.toNatClampNeg < n := Nat.not_le.mp fun q => hin (Or.inr q)
  have hU := upd_si S k j i.toNatClampNeg x
  obtain ⟨hj, rfl⟩ := ha
  refine W.iast F.1 F.2.1 h0 ((hw.1.K.2 t _ ht).1 n (fun j2 => .int (gi S k j j2))) (fun q => by cases q) (by show ¬ (i < 0 ∨ (arrV _ _ _).slots.size ≤ _); rw [arrV_size]; exact hin) rfl rfl hdg fun H1 e z oq => ?_
  refine kk _ H1 _ rfl ⟨hw.1.upd hk hk9 hj hU ?_ z oq (wf_same (pw_wf hw.1) rfl rfl), hw.2.put z oq (hw.1.2.1 k j hk hk9 hj).2⟩ hU.ext
  rw [he]
  show H1[ga S k j]? = some (vp_cell _ _)
  rw [e, vp_cell_i, vp_cell_i, arrV_store]
  congr 2
  funext q
  by_cases hq : q = i.toNatClampNeg
  · subst hq
    simp [updV, gi_si]
  · simp [updV, gi_si, hq]
theorem pw_zast (F : CX p m c cc nL s args own) (hw : WW G S s H locs) (k t : Nat) (hk : k < 39) (hk9 : k ≠ 9) (ha : AtO S k j a) {n : Nat} (he : ∀ S : St, pcS G S k j = .inl (G.2.2.1 k, (n, .inl (gi S k j)))) (ht : (tysM G.2.2.1)[t]? = some (G.2.2.1 k, .boolean)) {i x : Int32} (hin : vp_in i n) (hx : narrow .boolean (.int x) = .int x) (hdg : decode cc pc = .ok (.bastore, 1))
    (kk : ∀ (S1 : St) (H1 : Heap) (locs1 : List Loc), S1 = si S k j i.toNatClampNeg x → WW G S1 s H1 locs1 → Ext S S1 → W p l e R s m args below meth c H1 locs1 cells slots Q (F0 m (pc + 1) ls rest)) : W p l e R s m args below meth c H locs cells slots Q (F0 m pc ls (.int x :: .int i :: .ref a :: rest)) := by
  have h0 := pw_arr hw k hk hk9 ha (he S)
  have hlt : i.toNatClampNeg < n := Nat.not_le.mp fun q => hin (Or.inr q)
  have hU := upd_si S k j i.toNatClampNeg x
  obtain ⟨hj, rfl⟩ := ha
  refine W.zast F.1 F.2.1 h0 ((hw.1.K.2 t _ ht).1 n (fun j2 => .int (gi S k j j2))) (fun q => by cases q) (by show ¬ (i < 0 ∨ (arrV _ _ _).slots.size ≤ _); rw [arrV_size]; exact hin) rfl rfl hdg fun H1 e z oq => ?_
  refine kk _ H1 _ rfl ⟨hw.1.upd hk hk9 hj hU ?_ z oq (wf_same (pw_wf hw.1) rfl rfl), hw.2.put z oq (hw.1.2.1 k j hk hk9 hj).2⟩ hU.ext
  rw [he]
  show H1[ga S k j]? = some (vp_cell _ _)
  rw [e, hx, vp_cell_i, vp_cell_i, arrV_store]
  congr 2
  funext q
  by_cases hq : q = i.toNatClampNeg
  · subst hq
    simp [updV, gi_si]
  · simp [updV, gi_si, hq]
theorem pw_last (F : CX p m c cc nL s args own) (hw : WW G S s H locs) (k t : Nat) (hk : k < 39) (hk9 : k ≠ 9) (ha : AtO S k j a) {n : Nat} (he : ∀ S : St, pcS G S k j = .inl (G.2.2.1 k, (n, .inr (.inl (gj S k j))))) (ht : (tysM G.2.2.1)[t]? = some (G.2.2.1 k, .long)) {i : Int32} {x : Int64} (hin : vp_in i n) (hdg : decode cc pc = .ok (.lastore, 1))
    (kk : ∀ (S1 : St) (H1 : Heap) (locs1 : List Loc), S1 = sj S k j i.toNatClampNeg x → WW G S1 s H1 locs1 → Ext S S1 → W p l e R s m args below meth c H1 locs1 cells slots Q (F0 m (pc + 1) ls rest)) : W p l e R s m args below meth c H locs cells slots Q (F0 m pc ls (.long x :: .int i :: .ref a :: rest)) := by
  have h0 := pw_arr hw k hk hk9 ha (he S)
  have hlt : i.toNatClampNeg < n := Nat.not_le.mp fun q => hin (Or.inr q)
  have hU := upd_sj S k j i.toNatClampNeg x
  obtain ⟨hj, rfl⟩ := ha
  refine W.last F.1 F.2.1 h0 ((hw.1.K.2 t _ ht).1 n (fun j2 => .long (gj S k j j2))) (fun q => by cases q) (by show ¬ (i < 0 ∨ (arrV _ _ _).slots.size ≤ _); rw [arrV_size]; exact hin) rfl rfl hdg fun H1 e z oq => ?_
  refine kk _ H1 _ rfl ⟨hw.1.upd hk hk9 hj hU ?_ z oq (wf_same (pw_wf hw.1) rfl rfl), hw.2.put z oq (hw.1.2.1 k j hk hk9 hj).2⟩ hU.ext
  rw [he]
  show H1[ga S k j]? = some (vp_cell _ _)
  rw [e, vp_cell_l, vp_cell_l, arrV_store]
  congr 2
  funext q
  by_cases hq : q = i.toNatClampNeg
  · subst hq
    simp [updV, gj_sj]
  · simp [updV, gj_sj, hq]
theorem pw_aast (F : CX p m c cc nL s args own) (hw : WW G S s H locs) (k t k2 : Nat) {j2 a2 : Nat} (hk : k < 39) (hk9 : k ≠ 9) (hk2 : k2 < 39) (hk29 : k2 ≠ 9) (ha : AtO S k j a) (ha2 : AtO S k2 j2 a2) {n ci : Nat} {r : vw_C} {vs : List Value} (he : ∀ S : St, pcS G S k j = .inl (G.2.2.1 k, (n, .inr (.inr (.inr (.inr (fun e => Option.map (ga S k2) (gr S k j e)))))))) (he2 : pcS G S k2 j2 = .inr (ci, vs)) (hc : vwCl[ci]? = some r) (hkb : kB (gn S) k = gn S k2) (ht : (tysM G.2.2.1)[t]? = some (G.2.2.1 k, .object r.1)) {i : Int32} (hin : vp_in i n) (hdg : decode cc pc = .ok (.aastore, 1))
    (kk : ∀ (S1 : St) (H1 : Heap) (locs1 : List Loc), S1 = sr S k j i.toNatClampNeg (some j2) → WW G S1 s H1 locs1 → Ext S S1 → W p l e R s m args below meth c H1 locs1 cells slots Q (F0 m (pc + 1) ls rest)) : W p l e R s m args below meth c H locs cells slots Q (F0 m pc ls (.ref a2 :: .int i :: .ref a :: rest)) := by
  have h0 := pw_arr hw k hk hk9 ha (he S)
  have hlt : i.toNatClampNeg < n := Nat.not_le.mp fun q => hin (Or.inr q)
  have hn0 : ¬ i < 0 := fun q => hin (Or.inl q)
  have hU := upd_sr S k j i.toNatClampNeg (some j2)
  obtain ⟨r', hr', cellV, g1, g2, g3, -⟩ := (pw_one hw hk2 hk29 ha2) 0 (a2, .inr (ci, vs)) (by rw [he2]; rfl)
  have hcls := (hw.1.K.1 ci r hc).2
  obtain ⟨kA, comp, k1, k2', k3, -⟩ := (hw.1.K.2 t _ ht).2
  have hcomp : comp = G.1.1 ci := Option.some.inj (k3.symm.trans hcls.1)
  subst hcomp
  obtain ⟨kC, hkC, -⟩ := hcls.2
  obtain ⟨hj, rfl⟩ := ha
  refine W.aast F.1 F.2.1 h0 (fun q h => by cases h) (fun h => by cases h) k1 k2' rfl hkC ⟨hn0, by show _ < (arrV _ _ _).slots.size; rw [arrV_size]; exact hlt⟩ g1 (fun q h => by rw [g3] at h; cases h) (by rw [g2]; exact hkC) (by rw [g2]; exact va_assign hcls) rfl rfl hdg fun H1 e z oq => ?_
  refine kk _ H1 _ rfl ⟨hw.1.upd hk hk9 hj hU ?_ z oq (wf_sr (pw_wf hw.1) (fun q hq => by cases hq; rw [hkb]; exact ha2.1)), hw.2.put z oq (hw.1.2.1 k j hk hk9 hj).2⟩ hU.ext
  rw [he]
  show H1[ga S k j]? = some (vp_cell _ _)
  rw [e, vp_cell_q, vp_cell_q, arrV_store]
  congr 2
  funext q
  by_cases hq : q = i.toNatClampNeg
  · subst hq
    simp [updV, gr_sr, va_rf, ← ha2.2]
    rfl
  · simp [updV, gr_sr, hq]
    rfl
end ROWS
end
section
/-- the same contents, with the addresses of a larger world -/
theorem pcM_ad {cA : Nat → ClassId} {es : Nat → Nat} {ad ad2 : Nat → Nat → Nat} {n : Nat → Nat} (k : Nat) (hk : k < 39) (h1 : ∀ k j, j < n k → ad2 k j = ad k j) (h2 : ∀ k, pwFix k → 0 < n k) {I : Nat → Int32} {J : Nat → Int64} {R : Nat → Option Nat} (h3 : ∀ f i, R f = some i → i < kB n k) : pcM cA es ad2 k I J R = pcM cA es ad k I J R := by
  have hc : ∀ k, pwFix k → ad2 k 0 = ad k 0 := fun k h => h1 k 0 (h2 k h)
  have hm : ∀ (k2 f : Nat), kB n k = n k2 → Option.map (ad2 k2) (R f) = Option.map (ad k2) (R f) := fun k2 f hb => by
    cases hr : R f with
    | none => rfl
    | some i => simp only [Option.map_some]; rw [h1 k2 i (by rw [← hb]; exact h3 f i hr)]
  match k, hk, hm with
  | 0, _, _ => exact rfl
  | 1, _, _ => exact rfl
  | 2, _, hm => simp only [pcM, hc 13 (by unfold pwFix; decide)]
  | 3, _, _ => exact rfl
  | 4, _, hm => simp only [pcM, hm 5 0 rfl]
  | 5, _, _ => exact rfl
  | 6, _, hm => simp only [pcM, hc 14 (by unfold pwFix; decide), hc 15 (by unfold pwFix; decide), hc 16 (by unfold pwFix; decide)]
  | 7, _, hm => simp only [pcM, hc 10 (by unfold pwFix; decide), hc 11 (by unfold pwFix; decide), hc 12 (by unfold pwFix; decide), hc 4 (by unfold pwFix; decide), hc 2 (by unfold pwFix; decide), hc 6 (by unfold pwFix; decide)]
  | 8, _, hm => simp only [pcM, hc 17 (by unfold pwFix; decide), hc 18 (by unfold pwFix; decide), hc 19 (by unfold pwFix; decide), hc 20 (by unfold pwFix; decide), hc 21 (by unfold pwFix; decide), hc 22 (by unfold pwFix; decide), hc 23 (by unfold pwFix; decide), hc 24 (by unfold pwFix; decide), hc 25 (by unfold pwFix; decide), hc 26 (by unfold pwFix; decide), hc 27 (by unfold pwFix; decide), hc 28 (by unfold pwFix; decide), hc 29 (by unfold pwFix; decide), hc 30 (by unfold pwFix; decide), hc 31 (by unfold pwFix; decide), hc 32 (by unfold pwFix; decide), hc 33 (by unfold pwFix; decide), hc 34 (by unfold pwFix; decide), hc 35 (by unfold pwFix; decide), hc 36 (by unfold pwFix; decide), hc 37 (by unfold pwFix; decide), hc 38 (by unfold pwFix; decide)]
  | 9, _, _ => exact rfl
  | 10, _, hm => simp only [pcM]; rw [show (fun e => Option.map (ad2 5) (R e)) = fun e => Option.map (ad 5) (R e) from funext fun e => hm 5 e rfl]
  | 11, _, hm => simp only [pcM]; rw [show (fun e => Option.map (ad2 1) (R e)) = fun e => Option.map (ad 1) (R e) from funext fun e => hm 1 e rfl]
  | 12, _, hm => simp only [pcM]; rw [show (fun e => Option.map (ad2 0) (R e)) = fun e => Option.map (ad 0) (R e) from funext fun e => hm 0 e rfl]
  | 13, _, hm => simp only [pcM]; rw [show (fun e => Option.map (ad2 3) (R e)) = fun e => Option.map (ad 3) (R e) from funext fun e => hm 3 e rfl]
  | 14, _, hm => simp only [pcM]; rw [show (fun e => Option.map (ad2 0) (R e)) = fun e => Option.map (ad 0) (R e) from funext fun e => hm 0 e rfl]
  | 15, _, _ => exact rfl
  | 16, _, _ => exact rfl
  | 17, _, _ => exact rfl
  | 18, _, _ => exact rfl
  | 19, _, _ => exact rfl
  | 20, _, _ => exact rfl
  | 21, _, _ => exact rfl
  | 22, _, _ => exact rfl
  | 23, _, _ => exact rfl
  | 24, _, _ => exact rfl
  | 25, _, _ => exact rfl
  | 26, _, _ => exact rfl
  | 27, _, _ => exact rfl
  | 28, _, _ => exact rfl
  | 29, _, _ => exact rfl
  | 30, _, _ => exact rfl
  | 31, _, _ => exact rfl
  | 32, _, _ => exact rfl
  | 33, _, _ => exact rfl
  | 34, _, _ => exact rfl
  | 35, _, _ => exact rfl
  | 36, _, _ => exact rfl
  | 37, _, _ => exact rfl
  | 38, _, _ => exact rfl
  | k + 39, h, _ => exact absurd h (by omega)
section ROWS2
variable {p : Program} {l : Launch} {e : Env} {R : Room} {s : State} {m : MethodId} {args : Array Value} {below : List Frame} {meth : Method} {c : Code} {H : Heap} {locs : List Loc} {cells slots : Nat} {Q : State → Prop}
variable {cc : ByteArray} {pc nL : Nat} {ls : Array Slot} {rest : List Value} {G : GT} {S : St} {own : String} {a j : Nat}
theorem pw_new (F : CX p m c cc nL s args own) (hw : WW G S s H locs) (k : Nat) (hk : k = 0 ∨ k = 1 ∨ k = 3 ∨ k = 5) {C : String} {T : u_T} {N ci index : Nat} (hin : ∀ w ∈ u_ws C T N, w ∈ wT) (ty : Nat → FieldType) (hty : ∀ k, k < N → parseFieldDescriptor (T k).2.2.1 = some (ty k)) (hcl : Cond.classLink own index C ∈ wT) (hinst : Cond.instantiable C N ∈ wT) (hini : Cond.initialized C ∈ wT) (hc : vwCl[ci]? = some (C, T, N)) {fs : List Value} (he : ∀ (S : St) (j : Nat), gi S k j = (fun _ => 0) → gj S k j = (fun _ => 0) → gr S k j = (fun _ => none) → pcS G S k j = .inr (ci, fs)) (hfs : ∀ j, j < N → defaultValue (ty j) = vp_V fs j)
    (hcells : cells + 1 ≤ R.cells) (hslots : slots + N ≤ R.slots) (hdg : decode cc pc = .ok (.new index, 3))
    (kk : ∀ (S1 : St) (a1 : Nat) (H1 : Heap), S1 = sn S k → AtO S1 k (gn S k) a1 → WW G S1 s H1 locs → Ext S S1 → W p l e R s m args below meth c H1 locs (cells + 1) (slots + N) Q (F0 m (pc + 3) ls (.ref a1 :: rest))) : W p l e R s m args below meth c H locs cells slots Q (F0 m pc ls rest) := by
  obtain ⟨hx, hb, hml, hown, hts⟩ := F
  obtain ⟨hP, hS⟩ := hw
  have hKn := hP.K.1 ci _ hc
  have hk39 : k < 39 := by omega
  have hk9 : k ≠ 9 := by omega
  have hk99 : k ≠ 99 := by omega
  have hnf : ¬ pwFix k := fun h => by unfold pwFix at h; omega
  have gnk : ∀ k', k' < 39 → k' ≠ k → gn (sn S k) k' = gn S k' := fun k' h1 h2 => by rw [gn_sn, if_neg (by omega)]
  have gnself : gn (sn S k) k = gn S k + 1 := by rw [gn_sn, if_pos (Or.inl rfl)]
  have gn99 : gn (sn S k) 99 = gn S 99 + 1 := by rw [gn_sn, if_pos (Or.inr rfl)]
  have gnle : ∀ k', gn S k' ≤ gn (sn S k) k' := fun k' => by rw [gn_sn]; split <;> omega
  have gaold : ∀ k' j', j' < gn S k' → ga (sn S k) k' j' = ga S k' j' := fun k' j' h => by rw [ga_sn, if_neg (by rintro ⟨rfl, rfl⟩; omega)]
  have ganew : ga (sn S k) k (gn S k) = H.size := by rw [ga_sn, if_pos ⟨rfl, rfl⟩]; exact hP.1.1.symm
  have hX : Ext S (sn S k) := fun k' j' h => ⟨Nat.lt_of_lt_of_le h (gnle k'), gaold k' j' h⟩
  refine W.newcK hx hb hown (hts _ hcl) (hts _ hinst) (hts _ hini) rfl hdg hcells hslots hKn.2.1 rfl fun H1 kC hkC e1 z1 o1 => ?_
  have hlt : ∀ k' j', k' < 39 → k' ≠ 9 → j' < gn S k' → ga S k' j' < H.size := fun k' j' a1 a2 a3 => (hP.2.1 k' j' a1 a2 a3).1.lt
  have old : ∀ k' j', j' < gn (sn S k) k' → k' < 39 → ¬ (k' = k ∧ j' = gn S k) → j' < gn S k' := fun k' j' h1 h2 h3 => by
    by_cases e2 : k' = k
    · subst e2
      rw [gnself] at h1
      have : j' ≠ gn S k' := fun q => h3 ⟨rfl, q⟩
      omega
    · rw [gnk k' h2 e2] at h1
      exact h1
  refine kk (sn S k) H.size H1 rfl ⟨by rw [gnself]; omega, ganew⟩ ⟨⟨⟨by rw [z1, gn99, hP.1.1], by rw [z1]; exact Nat.le_trans hP.1.2 (Nat.le_succ _)⟩, fun k' j' q1 q2 q3 => ?_, fun k1 j1 k2 j2 q1 q2 q3 q4 q5 q6 q7 => ?_, fun k' j' f i q => ?_, fun k' hk' => Nat.lt_of_lt_of_le (hP.2.2.2.2.1 k' hk') (gnle k'), hP.2.2.2.2.2.1, hP.K, fun i hi => (hP.2.2.2.2.2.2.2 i hi).kept fun q hq _ => o1 q hq⟩, ⟨Nat.le_trans hS.1 (by omega), fun x h1 h2 => (o1 x (Nat.lt_of_lt_of_le h1 hS.1)).trans (hS.2.1 x h1 h2), hS.2.2⟩⟩ hX
  · by_cases e2 : k' = k ∧ j' = gn S k
    · obtain ⟨rfl, rfl⟩ := e2
      rw [ganew]
      refine ⟨?_, hP.1.2⟩
      rw [he (sn S k') (gn S k') (by funext f; rw [gi_sn, if_pos ⟨rfl, rfl⟩]) (by funext f; rw [gj_sn, if_pos ⟨rfl, rfl⟩]) (by funext f; rw [gr_sn, if_pos ⟨rfl, rfl⟩])]
      exact ⟨_, hc, (u_born ty hts hin hKn hkC e1 hty).to hfs⟩
    · have h4 := old k' j' q3 q1 e2
      obtain ⟨g1, g2⟩ := hP.2.1 k' j' q1 q2 h4
      rw [gaold k' j' h4]
      refine ⟨?_, g2⟩
      have e3 : pcS G (sn S k) k' j' = pcS G S k' j' := by
        unfold pcS
        rw [show gi (sn S k) k' j' = gi S k' j' by funext f; rw [gi_sn, if_neg e2], show gj (sn S k) k' j' = gj S k' j' by funext f; rw [gj_sn, if_neg e2], show gr (sn S k) k' j' = gr S k' j' by funext f; rw [gr_sn, if_neg e2]]
        exact pcM_ad (n := gn S) k' q1 gaold hP.2.2.2.2.1 (fun f i => hP.2.2.2.1 k' j' f i)
      rw [e3]
      exact g1.kept (o1 _ (hlt k' j' q1 q2 h4))
  · by_cases e2 : k1 = k ∧ j1 = gn S k <;> by_cases e3 : k2 = k ∧ j2 = gn S k
    · exact ⟨e2.1.trans e3.1.symm, e2.2.trans e3.2.symm⟩
    · obtain ⟨rfl, rfl⟩ := e2
      have h4 := old k2 j2 q6 q2 e3
      rw [ganew, gaold k2 j2 h4] at q7
      have := hlt k2 j2 q2 q4 h4
      omega
    · obtain ⟨rfl, rfl⟩ := e3
      have h4 := old k1 j1 q5 q1 e2
      rw [ganew, gaold k1 j1 h4] at q7
      have := hlt k1 j1 q1 q3 h4
      omega
    · have h4 := old k1 j1 q5 q1 e2
      have h5 := old k2 j2 q6 q2 e3
      rw [gaold k1 j1 h4, gaold k2 j2 h5] at q7
      exact hP.2.2.1 k1 j1 k2 j2 q1 q2 q3 q4 h4 h5 q7
  · rw [gr_sn] at q
    split at q
    · cases q
    · exact Nat.lt_of_lt_of_le (hP.2.2.2.1 k' j' f i q) (kB_mono gnle k')
theorem pw_gets (F : CX p m c cc nL s args own) (hw : WW G S s H locs) (i : Nat) (hi : i < 6) {n : String} (hn : stN i = n) {index : Nat} (hl : Cond.fieldLink own index "ClockAuctions$State" n "LClockAuctions$State;" ∈ wT) (hdg : decode cc pc = .ok (.getstatic index, 3))
    (kk : W p l e R s m args below meth c H locs cells slots Q (F0 m (pc + 3) ls (va_rf (Option.map G.2.2.2 (some i)) :: rest))) : W p l e R s m args below meth c H locs cells slots Q (F0 m pc ls rest) := by
  subst hn
  obtain ⟨cf, kf, fi, f, a, cell, h1, h2, h3, h4, h5, h6, h7, h8⟩ := hw.1.2.2.2.2.2.2.2 i hi
  exact W.gets F.1 F.2.1 F.2.2.2.1 (F.2.2.2.2 _ hl) h1 h2 h3 h4 h5 (fun e => by rw [e] at h6; cases h6) h7 rfl hdg kk
theorem es_inj {G : GT} {e : Option Nat} {i : Nat} (h6 : ∀ i j, i < 6 → j < 6 → G.2.2.2 i = G.2.2.2 j → i = j) (hi : i < 6) (he : ∀ i, e = some i → i < 6) : (Option.map G.2.2.2 e = Option.map G.2.2.2 (some i)) ↔ e = some i := by
  cases e with
  | none => simp
  | some k =>
    simp only [Option.map_some, Option.some.injEq]
    exact ⟨h6 k i (he k rfl) hi, fun h => by rw [h]⟩
theorem pw_acmp_eq (F : CX p m c cc nL s args own) (hw : WW G S s H locs) {e2 : Option Nat} {i : Nat} (hi : i < 6) (he : ∀ i, e2 = some i → i < 6) {off : Int} {tgt : Nat} (hdg : decode cc pc = .ok (.if_acmp .eq off, 3)) (ht : (pc : Int) + off = (tgt : Int))
    (kt : e2 = some i → W p l e R s m args below meth c H locs cells slots Q (F0 m tgt ls rest)) (kf : ¬ e2 = some i → W p l e R s m args below meth c H locs cells slots Q (F0 m (pc + 3) ls rest)) : W p l e R s m args below meth c H locs cells slots Q (F0 m pc ls (va_rf (Option.map G.2.2.2 (some i)) :: va_rf (Option.map G.2.2.2 e2) :: rest)) := by
  have h := es_inj (G := G) hw.1.2.2.2.2.2.1 hi he
  exact lv_acmp_eq F.1 F.2.1 hdg ht (fun q => kt (h.mp q)) (fun q => kf fun z => q (h.mpr z))
theorem pw_acmp_ne (F : CX p m c cc nL s args own) (hw : WW G S s H locs) {e2 : Option Nat} {i : Nat} (hi : i < 6) (he : ∀ i, e2 = some i → i < 6) {off : Int} {tgt : Nat} (hdg : decode cc pc = .ok (.if_acmp .ne off, 3)) (ht : (pc : Int) + off = (tgt : Int))
    (kt : ¬ e2 = some i → W p l e R s m args below meth c H locs cells slots Q (F0 m tgt ls rest)) (kf : e2 = some i → W p l e R s m args below meth c H locs cells slots Q (F0 m (pc + 3) ls rest)) : W p l e R s m args below meth c H locs cells slots Q (F0 m pc ls (va_rf (Option.map G.2.2.2 (some i)) :: va_rf (Option.map G.2.2.2 e2) :: rest)) := by
  have h := es_inj (G := G) hw.1.2.2.2.2.2.1 hi he
  exact lv_acmp_ne F.1 F.2.1 hdg ht (fun q => kt fun z => q (h.mpr z)) (fun q => kf (h.mp q))
theorem ww_es (hw : WW G S s H locs) (j : Nat) : ∀ i, gr S 5 j 4 = some i → i < 6 := fun i h => pw_wf hw.1 5 j 4 i h
/-! a long compare and its branch -/
theorem lc_eq (F : CX p m c cc nL s args own) {x y : Int64} {off : Int} {tgt : Nat} (h1 : decode cc pc = .ok (.lcmp, 1)) (h2 : decode cc (pc + 1) = .ok (.ifCond .eq off, 3)) (ht : ((pc + 1 : Nat) : Int) + off = (tgt : Int))
    (kt : x = y → W p l e R s m args below meth c H locs cells slots Q (F0 m tgt ls rest)) (kf : ¬ x = y → W p l e R s m args below meth c H locs cells slots Q (F0 m (pc + 1 + 3) ls rest)) : W p l e R s m args below meth c H locs cells slots Q (F0 m pc ls (.long y :: .long x :: rest)) :=
  W.lcmp F.1 F.2.1 h1 (lv_if_eq F.1 F.2.1 h2 ht (fun q => kt ((lg_cmp_eq x y).mp q)) (fun q => kf fun z => q ((lg_cmp_eq x y).mpr z)))
theorem lc_ne (F : CX p m c cc nL s args own) {x y : Int64} {off : Int} {tgt : Nat} (h1 : decode cc pc = .ok (.lcmp, 1)) (h2 : decode cc (pc + 1) = .ok (.ifCond .ne off, 3)) (ht : ((pc + 1 : Nat) : Int) + off = (tgt : Int))
    (kt : ¬ x = y → W p l e R s m args below meth c H locs cells slots Q (F0 m tgt ls rest)) (kf : x = y → W p l e R s m args below meth c H locs cells slots Q (F0 m (pc + 1 + 3) ls rest)) : W p l e R s m args below meth c H locs cells slots Q (F0 m pc ls (.long y :: .long x :: rest)) :=
  W.lcmp F.1 F.2.1 h1 (lv_if_ne F.1 F.2.1 h2 ht (fun q => kt fun z => q ((lg_cmp_eq x y).mpr z)) (fun q => kf ((lg_cmp_eq x y).mp q)))
theorem lc_lt (F : CX p m c cc nL s args own) {x y : Int64} {off : Int} {tgt : Nat} (h1 : decode cc pc = .ok (.lcmp, 1)) (h2 : decode cc (pc + 1) = .ok (.ifCond .lt off, 3)) (ht : ((pc + 1 : Nat) : Int) + off = (tgt : Int))
    (kt : x < y → W p l e R s m args below meth c H locs cells slots Q (F0 m tgt ls rest)) (kf : ¬ x < y → W p l e R s m args below meth c H locs cells slots Q (F0 m (pc + 1 + 3) ls rest)) : W p l e R s m args below meth c H locs cells slots Q (F0 m pc ls (.long y :: .long x :: rest)) :=
  W.lcmp F.1 F.2.1 h1 (lv_if_lt F.1 F.2.1 h2 ht (fun q => kt ((lg_cmp_lt x y).mp q)) (fun q => kf fun z => q ((lg_cmp_lt x y).mpr z)))
theorem lc_ge (F : CX p m c cc nL s args own) {x y : Int64} {off : Int} {tgt : Nat} (h1 : decode cc pc = .ok (.lcmp, 1)) (h2 : decode cc (pc + 1) = .ok (.ifCond .ge off, 3)) (ht : ((pc + 1 : Nat) : Int) + off = (tgt : Int))
    (kt : y ≤ x → W p l e R s m args below meth c H locs cells slots Q (F0 m tgt ls rest)) (kf : ¬ y ≤ x → W p l e R s m args below meth c H locs cells slots Q (F0 m (pc + 1 + 3) ls rest)) : W p l e R s m args below meth c H locs cells slots Q (F0 m pc ls (.long y :: .long x :: rest)) :=
  W.lcmp F.1 F.2.1 h1 (lv_if_ge F.1 F.2.1 h2 ht (fun q => kt ((lg_cmp_ge x y).mp q)) (fun q => kf fun z => q ((lg_cmp_ge x y).mpr z)))
theorem lc_gt (F : CX p m c cc nL s args own) {x y : Int64} {off : Int} {tgt : Nat} (h1 : decode cc pc = .ok (.lcmp, 1)) (h2 : decode cc (pc + 1) = .ok (.ifCond .gt off, 3)) (ht : ((pc + 1 : Nat) : Int) + off = (tgt : Int))
    (kt : y < x → W p l e R s m args below meth c H locs cells slots Q (F0 m tgt ls rest)) (kf : ¬ y < x → W p l e R s m args below meth c H locs cells slots Q (F0 m (pc + 1 + 3) ls rest)) : W p l e R s m args below meth c H locs cells slots Q (F0 m pc ls (.long y :: .long x :: rest)) :=
  W.lcmp F.1 F.2.1 h1 (lv_if_gt F.1 F.2.1 h2 ht (fun q => kt ((lg_cmp_gt x y).mp q)) (fun q => kf fun z => q ((lg_cmp_gt x y).mpr z)))
theorem lc_le (F : CX p m c cc nL s args own) {x y : Int64} {off : Int} {tgt : Nat} (h1 : decode cc pc = .ok (.lcmp, 1)) (h2 : decode cc (pc + 1) = .ok (.ifCond .le off, 3)) (ht : ((pc + 1 : Nat) : Int) + off = (tgt : Int))
    (kt : x ≤ y → W p l e R s m args below meth c H locs cells slots Q (F0 m tgt ls rest)) (kf : ¬ x ≤ y → W p l e R s m args below meth c H locs cells slots Q (F0 m (pc + 1 + 3) ls rest)) : W p l e R s m args below meth c H locs cells slots Q (F0 m pc ls (.long y :: .long x :: rest)) :=
  W.lcmp F.1 F.2.1 h1 (lv_if_le F.1 F.2.1 h2 ht (fun q => kt ((lg_cmp_le x y).mp q)) (fun q => kf fun z => q ((lg_cmp_le x y).mpr z)))
end ROWS2
/-! ===== contracts ===== -/
abbrev QB (G : GT) (S0 : St) : St → State → Prop := fun u t => PW G u t t.heap ∧ Ext S0 u
abbrev QA (G : GT) : Nat → Prop := fun q => G.2.1 ≤ q
def QI (G : GT) (S0 : St) (post : Int32 → St → Prop) : Array Value → State → Outcome → State → Prop := va_Qi (S := St) post (QB G S0) (QA G)
def QJ (G : GT) (S0 : St) (post : Int64 → St → Prop) : Array Value → State → Outcome → State → Prop := va_Ql (S := St) post (QB G S0) (QA G)
def QV (G : GT) (S0 : St) (post : St → Prop) : Array Value → State → Outcome → State → Prop := va_Qv (S := St) post (QB G S0) (QA G)
def QR (k : Nat) (G : GT) (S0 : St) (post : Option Nat → St → Prop) : Array Value → State → Outcome → State → Prop := va_Qq (S := Option Nat × St) (fun ra u => post u.1 u.2 ∧ ra = Option.map (ga u.2 k) u.1 ∧ ∀ i, u.1 = some i → i < gn u.2 k) (fun u => QB G S0 u.2) (QA G)
abbrev PC (G : GT) (S : St) (av : List Value) : Array Value → State → Prop := va_Pc av (fun U => PW G S U U.heap)
theorem mt_start {l : Launch} {y : MethodName} {cc : ByteArray} {n : Nat} {ret : Option FieldType} {rm : Room} {G : GT} {S : St} {av : List Value} {Qc : Array Value → State → Outcome → State → Prop} {mc ms : Nat} (own : String) (hy : plainName y.cls = true) (ho : y.cls = own) (hlen : (lg_sl av).length ≤ n)
    (body : ∀ (p : Program) (e : Env) (s : State) (m : MethodId) (args : Array Value) (below : List Frame) (meth : Method) (c : Code) (ls : Array Slot), CX p m c cc n s args own → meth.sig.returnType = ret → meth.locks = false → meth.name = y.name → WW G S s s.heap [] → lv_has ls n (lv_args 0 av) → W p l e rm s m args below meth c s.heap [] 0 0 (MQ below Qc args s mc ms (QA G)) (F0 m 0 ls [])) : Met l y (wM y cc n ret) rm (PC G S av) Qc mc ms (QA G) := by
  refine Met.ofW (cc := cc) (maxL := n) (ret := ret) hy rfl ?_
  intro p e s m args below meth c s₁ B hml hv
  obtain ⟨rfl, hP⟩ := hv
  have hl := lv_entry av (n := n) hlen
  rw [lg_entry_eq]
  have hts := atoms_spec (ws := wM y cc n ret) B.pre
  exact body p e s m _ below meth c _ ⟨B.exec, B.bytes, hml, by rw [← ho]; exact findClass_of_methodNamed B.named, fun w hw => hts w (List.mem_cons_of_mem _ hw)⟩ B.returns B.notSynchronized (name_of_methodNamed B.named B.method).1 ⟨hP, va_S.rf⟩ hl
section ENDS
variable {p : Program} {l : Launch} {e : Env} {R : Room} {s : State} {m : MethodId} {args : Array Value} {below : List Frame} {meth : Method} {c : Code} {H : Heap} {locs : List Loc} {cells slots mc ms : Nat} {Q : State → Prop}
variable {cc : ByteArray} {pc nL : Nat} {ls : Array Slot} {rest : List Value} {G : GT} {S S0 : St} {own : String} {a j : Nat}
theorem rt_i {post : Int32 → St → Prop} {v : Int32} (F : CX p m c cc nL s args own) (hr : meth.sig.returnType = some .int) (hlk : meth.locks = false) (hw : WW G S s H locs) (hX : Ext S0 S) (hp : post v S) (hc : cells ≤ mc) (hs : slots ≤ ms) (hdg : decode cc pc = .ok (.ireturn, 1)) : W p l e R s m args below meth c H locs cells slots (MQ below (QI G S0 post) args s mc ms (QA G)) (F0 m pc ls [.int v]) :=
  W.widen hc hs (W.iret (v := v) F.1 F.2.1 hr (fun t ht hW => ⟨⟨v, S, rfl, hp, by rw [ht]; exact hw.1.moved hW.alike, hX⟩, hw.2.F ht⟩) hw.2.2.2 hdg hlk)
theorem rt_z {post : Int32 → St → Prop} {v : Int32} (F : CX p m c cc nL s args own) (hr : meth.sig.returnType = some .boolean) (hlk : meth.locks = false) (hw : WW G S s H locs) (hX : Ext S0 S) (hp : post v S) (hn : narrow .boolean (.int v) = .int v) (hc : cells ≤ mc) (hs : slots ≤ ms) (hdg : decode cc pc = .ok (.ireturn, 1)) : W p l e R s m args below meth c H locs cells slots (MQ below (QI G S0 post) args s mc ms (QA G)) (F0 m pc ls [.int v]) :=
  W.widen hc hs (W.zret (v := v) (ty := .boolean) F.1 F.2.1 hr hn (fun t ht hW => ⟨⟨v, S, rfl, hp, by rw [ht]; exact hw.1.moved hW.alike, hX⟩, hw.2.F ht⟩) hw.2.2.2 hdg hlk)
theorem rt_l {post : Int64 → St → Prop} {v : Int64} (F : CX p m c cc nL s args own) (hr : meth.sig.returnType = some .long) (hlk : meth.locks = false) (hw : WW G S s H locs) (hX : Ext S0 S) (hp : post v S) (hc : cells ≤ mc) (hs : slots ≤ ms) (hdg : decode cc pc = .ok (.lreturn, 1)) : W p l e R s m args below meth c H locs cells slots (MQ below (QJ G S0 post) args s mc ms (QA G)) (F0 m pc ls [.long v]) :=
  W.widen hc hs (W.lret (v := v) F.1 F.2.1 hr (fun t ht hW => ⟨⟨v, S, rfl, hp, by rw [ht]; exact hw.1.moved hW.alike, hX⟩, hw.2.F ht⟩) hw.2.2.2 hdg hlk)
theorem rt_v {post : St → Prop} (F : CX p m c cc nL s args own) (hr : meth.sig.returnType = none) (hlk : meth.locks = false) (hw : WW G S s H locs) (hX : Ext S0 S) (hp : post S) (hc : cells ≤ mc) (hs : slots ≤ ms) (hdg : decode cc pc = .ok (.return_, 1)) : W p l e R s m args below meth c H locs cells slots (MQ below (QV G S0 post) args s mc ms (QA G)) (F0 m pc ls []) :=
  W.widen hc hs (W.vret F.1 F.2.1 hr (fun t ht hW => ⟨⟨S, rfl, hp, by rw [ht]; exact hw.1.moved hW.alike, hX⟩, hw.2.F ht⟩) hw.2.2.2 hdg hlk)
theorem rt_n {k : Nat} {C : String} {post : Option Nat → St → Prop} (F : CX p m c cc nL s args own) (hr : meth.sig.returnType = some (.object C)) (hlk : meth.locks = false) (hw : WW G S s H locs) (hX : Ext S0 S) (hp : post none S) (hc : cells ≤ mc) (hs : slots ≤ ms) (hdg : decode cc pc = .ok (.areturn, 1)) : W p l e R s m args below meth c H locs cells slots (MQ below (QR k G S0 post) args s mc ms (QA G)) (F0 m pc ls [.null]) :=
  W.widen hc hs (W.aret (v := .null) F.1 F.2.1 hr (Or.inl ⟨C, rfl⟩) (Or.inl rfl) (fun t ht hW => ⟨⟨none, (none, S), rfl, ⟨hp, rfl, fun i h => by cases h⟩, by rw [ht]; exact hw.1.moved hW.alike, hX⟩, hw.2.F ht⟩) hw.2.2.2 hdg hlk)
theorem rt_a {k : Nat} {C : String} {post : Option Nat → St → Prop} (F : CX p m c cc nL s args own) (hr : meth.sig.returnType = some (.object C)) (hlk : meth.locks = false) (hw : WW G S s H locs) (hX : Ext S0 S) (ha : AtO S k j a) (hp : post (some j) S) (hc : cells ≤ mc) (hs : slots ≤ ms) (hdg : decode cc pc = .ok (.areturn, 1)) : W p l e R s m args below meth c H locs cells slots (MQ below (QR k G S0 post) args s mc ms (QA G)) (F0 m pc ls [.ref a]) :=
  W.widen hc hs (W.aret (v := .ref a) F.1 F.2.1 hr (Or.inl ⟨C, rfl⟩) (Or.inr ⟨a, rfl⟩) (fun t ht hW => ⟨⟨some a, (some j, S), rfl, ⟨hp, by rw [← ha.2]; rfl, fun i h => by cases h; exact ha.1⟩, by rw [ht]; exact hw.1.moved hW.alike, hX⟩, hw.2.F ht⟩) hw.2.2.2 hdg hlk)
/-! calls -/
theorem cl_i {post : Int32 → St → Prop} {ar : Array Value} {st0 : List Value} (hr : va_Run p l e R s m args below meth c H locs cells slots mc ms (F0 m pc ls st0) rest (QI G S post ar) (QA G)) (hw : WW G S s H locs)
    (kk : ∀ (r : Int32) (S1 : St) (H1 : Heap) (locs1 : List Loc), post r S1 → WW G S1 s H1 locs1 → Ext S S1 → W p l e R s m args below meth c H1 locs1 (cells + mc) (slots + ms) Q (F0 m (pc + 3) ls (.int r :: rest))) : W p l e R s m args below meth c H locs cells slots Q (F0 m pc ls st0) :=
  va_calli hr hw.2 (fun _ _ h => h) (fun _ h => h) (fun r u t H1 locs1 ht hvm hp hB _ _ hS => kk r u H1 locs1 hp ⟨by rw [← ht]; exact hB.1.moved hvm.symm, hS⟩ hB.2)
theorem cl_l {post : Int64 → St → Prop} {ar : Array Value} {st0 : List Value} (hr : va_Run p l e R s m args below meth c H locs cells slots mc ms (F0 m pc ls st0) rest (QJ G S post ar) (QA G)) (hw : WW G S s H locs)
    (kk : ∀ (r : Int64) (S1 : St) (H1 : Heap) (locs1 : List Loc), post r S1 → WW G S1 s H1 locs1 → Ext S S1 → W p l e R s m args below meth c H1 locs1 (cells + mc) (slots + ms) Q (F0 m (pc + 3) ls (.long r :: rest))) : W p l e R s m args below meth c H locs cells slots Q (F0 m pc ls st0) :=
  va_calll hr hw.2 (fun _ _ h => h) (fun _ h => h) (fun r u t H1 locs1 ht hvm hp hB _ _ hS => kk r u H1 locs1 hp ⟨by rw [← ht]; exact hB.1.moved hvm.symm, hS⟩ hB.2)
theorem cl_v {post : St → Prop} {ar : Array Value} {st0 : List Value} (hr : va_Run p l e R s m args below meth c H locs cells slots mc ms (F0 m pc ls st0) rest (QV G S post ar) (QA G)) (hw : WW G S s H locs)
    (kk : ∀ (S1 : St) (H1 : Heap) (locs1 : List Loc), post S1 → WW G S1 s H1 locs1 → Ext S S1 → W p l e R s m args below meth c H1 locs1 (cells + mc) (slots + ms) Q (F0 m (pc + 3) ls rest)) : W p l e R s m args below meth c H locs cells slots Q (F0 m pc ls st0) :=
  va_callv hr hw.2 (fun _ _ h => h) (fun _ h => h) (fun u t H1 locs1 ht hvm hp hB _ _ hS => kk u H1 locs1 hp ⟨by rw [← ht]; exact hB.1.moved hvm.symm, hS⟩ hB.2)
theorem cl_r {k : Nat} {post : Option Nat → St → Prop} {ar : Array Value} {st0 : List Value} (hr : va_Run p l e R s m args below meth c H locs cells slots mc ms (F0 m pc ls st0) rest (QR k G S post ar) (QA G)) (hw : WW G S s H locs)
    (kn : ∀ (S1 : St) (H1 : Heap) (locs1 : List Loc), post none S1 → WW G S1 s H1 locs1 → Ext S S1 → W p l e R s m args below meth c H1 locs1 (cells + mc) (slots + ms) Q (F0 m (pc + 3) ls (.null :: rest)))
    (ks : ∀ (j2 a2 : Nat) (S1 : St) (H1 : Heap) (locs1 : List Loc), post (some j2) S1 → AtO S1 k j2 a2 → WW G S1 s H1 locs1 → Ext S S1 → W p l e R s m args below meth c H1 locs1 (cells + mc) (slots + ms) Q (F0 m (pc + 3) ls (.ref a2 :: rest))) : W p l e R s m args below meth c H locs cells slots Q (F0 m pc ls st0) :=
  va_callq hr hw.2 (fun _ _ h => h) (fun _ h => h) (fun r u t H1 locs1 ht hvm hp hB _ _ hS => by
    obtain ⟨r2, S1⟩ := u
    obtain ⟨hp, rfl, hv⟩ := hp
    have hw1 : WW G S1 s H1 locs1 := ⟨by rw [← ht]; exact hB.1.moved hvm.symm, hS⟩
    cases r2 with
    | none => exact kn S1 H1 locs1 hp hw1 hB.2
    | some j2 => exact ks j2 _ S1 H1 locs1 hp ⟨hv j2 rfl, rfl⟩ hw1 hB.2)
theorem fb_PC {av : List Value} : FrameBlind (PC G S av) := fun a U g mk q => ⟨q.1, q.2.moved (U := U) (U' := U.calling g mk a) (Vm.Alike.refl U.vm)⟩
theorem rn_V {y : MethodName} {bytes : ByteArray} {maxL n index : Nat} {ret : Option FieldType} {rm : Room} {Qc : Array Value → State → Outcome → State → Prop} {b : Nat} {As st0 : List Value} {lv : List (Nat × Value)} (F : CX p m c cc nL s args own) (hw : WW G S s H locs) (hl : lv_has ls nL lv) (hM : Met l y (wM y bytes maxL ret) rm (PC G S (.ref b :: As)) Qc mc ms (QA G)) (k : Nat) (hk : k < 39) (hk9 : k ≠ 9) (ha : AtO S k j b) {ci : Nat} {q : vw_C} {fs : List Value} (he : pcS G S k j = .inr (ci, fs)) (hc : vwCl[ci]? = some q) (h1 : Cond.methodLink own index y ∈ wT) (h2 : Cond.instanceMethod y ∈ wT) (h3 : Cond.selects q.1 y y ∈ wT) (h4 : Cond.initialized q.1 ∈ wT) (h5 : Cond.code y bytes maxL ret ∈ wT)
    (hrc : rm.cells = mc) (hrs : rm.slots = ms) (hd : y.cls = q.1 ∧ y.cls ≠ "java/lang/invoke/MethodHandle" ∧ y.cls ≠ "java/lang/invoke/VarHandle" ∧ (parseMethodDescriptor y.desc).map (fun d => d.parameters.length) = some n) (hn : As.length = n) (hR : rm.frames + 1 ≤ R.frames ∧ 8 + (maxL + 11) + rm.locals ≤ R.locals) (hst : st0 = As.reverse ++ .ref b :: rest) (hrest : (rest.map fun v => v.category).sum ≤ 8) (hdg : decode cc pc = .ok (.invokevirtual index, 3)) (hf : cells + mc ≤ R.cells ∧ slots + ms ≤ R.slots) :
    va_Run p l e R s m args below meth c H locs cells slots mc ms (F0 m pc ls st0) rest (Qc (Value.ref b :: As).toArray) (QA G) :=
  va_runV (C := q.1) (As := As) (rest := rest) F hM (cwV n F.2.2.2.2 (goodV h1 h2 h3 h4 h5) rfl hrc hrs hd hR) ⟨fb_PC, pw_recv hw k hk hk9 ha he hc, fun U hU hW => ⟨rfl, by show PW G S U U.heap; rw [hU]; exact hw.1.moved hW.alike⟩⟩ rfl hn hl.1 hst (lv_room hrest) hdg hf
theorem rn_S {y : MethodName} {bytes : ByteArray} {maxL n index : Nat} {ret : Option FieldType} {rm : Room} {Qc : Array Value → State → Outcome → State → Prop} {As st0 : List Value} {lv : List (Nat × Value)} (F : CX p m c cc nL s args own) (hw : WW G S s H locs) (hl : lv_has ls nL lv) (hM : Met l y (wM y bytes maxL ret) rm (PC G S As) Qc mc ms (QA G)) (h1 : Cond.methodLink own index y ∈ wT) (h2 : Cond.static y ∈ wT) (h4 : Cond.initialized y.cls ∈ wT) (h5 : Cond.code y bytes maxL ret ∈ wT)
    (hrc : rm.cells = mc) (hrs : rm.slots = ms) (hd : y.cls ≠ "java/lang/invoke/MethodHandle" ∧ y.cls ≠ "java/lang/invoke/VarHandle" ∧ (parseMethodDescriptor y.desc).map (fun d => d.parameters.length) = some n) (hn : As.length = n) (hR : rm.frames + 1 ≤ R.frames ∧ 8 + (maxL + 11) + rm.locals ≤ R.locals) (hst : st0 = As.reverse ++ rest) (hrest : (rest.map fun v => v.category).sum ≤ 8) (hdg : decode cc pc = .ok (.invokestatic index, 3)) (hf : cells + mc ≤ R.cells ∧ slots + ms ≤ R.slots) :
    va_Run p l e R s m args below meth c H locs cells slots mc ms (F0 m pc ls st0) rest (Qc As.toArray) (QA G) :=
  va_runS (As := As) (rest := rest) F hM (va_cwS n F.2.2.2.2 (goodS h1 h2 h4 h5) rfl hrc hrs hd hR) ⟨fb_PC, fun U hU hW => ⟨rfl, by show PW G S U U.heap; rw [hU]; exact hw.1.moved hW.alike⟩⟩ rfl hn hl.1 hst (lv_room hrest) hdg hf
theorem rn_I {y : MethodName} {bytes : ByteArray} {maxL n index : Nat} {rm : Room} {Qc : Array Value → State → Outcome → State → Prop} {b : Nat} {As st0 : List Value} {lv : List (Nat × Value)} (F : CX p m c cc nL s args own) (hw : WW G S s H locs) (hl : lv_has ls nL lv) (hM : Met l y (wM y bytes maxL none) rm (PC G S (.ref b :: As)) Qc mc ms (QA G)) (h1 : Cond.methodLink own index y ∈ wT) (h2 : Cond.instanceMethod y ∈ wT) (h4 : Cond.initialized y.cls ∈ wT) (h5 : Cond.code y bytes maxL none ∈ wT) (hy1 : y.name = "<init>")
    (hrc : rm.cells = mc) (hrs : rm.slots = ms) (hd : y.cls ≠ "java/lang/invoke/MethodHandle" ∧ y.cls ≠ "java/lang/invoke/VarHandle" ∧ (parseMethodDescriptor y.desc).map (fun d => d.parameters.length) = some n) (hn : As.length = n) (hR : rm.frames + 1 ≤ R.frames ∧ 8 + (maxL + 11) + rm.locals ≤ R.locals) (hst : st0 = As.reverse ++ .ref b :: rest) (hrest : (rest.map fun v => v.category).sum ≤ 8) (hdg : decode cc pc = .ok (.invokespecial index, 3)) (hf : cells + mc ≤ R.cells ∧ slots + ms ≤ R.slots) :
    va_Run p l e R s m args below meth c H locs cells slots mc ms (F0 m pc ls st0) rest (Qc (Value.ref b :: As).toArray) (QA G) :=
  va_runI (As := As) (rest := rest) F hM (cwI n F.2.2.2.2 (goodM h5) rfl hrc hrs (F.2.2.2.2 _ h4) (F.2.2.2.2 _ h1) (F.2.2.2.2 _ h2) hy1 hd hR) ⟨fb_PC, fun U hU hW => ⟨rfl, by show PW G S U U.heap; rw [hU]; exact hw.1.moved hW.alike⟩⟩ rfl hn hl.1 hst (lv_room hrest) hdg hf
end ENDS
end
section
theorem row_si (S : St) (k j f : Nat) (v : Int32) : gi (si S k j f v) k j = fun c => if c = f then v else gi S k j c := by funext c; rw [gi_si]; simp
theorem row_sj (S : St) (k j f : Nat) (v : Int64) : gj (sj S k j f v) k j = fun c => if c = f then v else gj S k j c := by funext c; rw [gj_sj]; simp
theorem row_sr (S : St) (k j f : Nat) (v : Option Nat) : gr (sr S k j f v) k j = fun c => if c = f then v else gr S k j c := by funext c; rw [gr_sr]; simp
def bz (x : Int32) : Prop := x = 0 ∨ x = 1
theorem bz_nar {x : Int32} (h : bz x) : narrow .boolean (.int x) = .int x := by rcases h with rfl | rfl <;> rfl
theorem bz_fit {x : Int32} (h : bz x) : fits .boolean (.int x) = true := by rcases h with rfl | rfl <;> rfl
section RWS
variable {p : Program} {l : Launch} {e : Env} {R : Room} {s : State} {m : MethodId} {args : Array Value} {below : List Frame} {meth : Method} {c : Code} {H : Heap} {locs : List Loc} {cells slots : Nat} {Q : State → Prop}
variable {cc : ByteArray} {pc nL : Nat} {ls : Array Slot} {rest : List Value} {G : GT} {S : St} {own : String} {a j : Nat}

theorem g_0_0 (F : CX p m c cc nL s args own) (hw : WW G S s H locs) {idx : Nat} (ha : AtO S 0 j a) (hl : Cond.fieldLink own idx "ClockAuctions$Bid" "number" "I" ∈ wT) (hdg : decode cc pc = .ok (.getfield idx, 3)) (kk : W p l e R s m args below meth c H locs cells slots Q (F0 m (pc + 3) ls (.int (gi S 0 j 0) :: rest))) : W p l e R s m args below meth c H locs cells slots Q (F0 m pc ls (.ref a :: rest)) := pw_get (C := RX0) (T := TX0) (N := 4) F hw 0 (by decide) (by decide) ha twu_RX0 rfl rfl 0 (by decide) hl (fun _ h => h) rfl hdg kk
theorem p_0_0 (F : CX p m c cc nL s args own) (hw : WW G S s H locs) {idx : Nat} (ha : AtO S 0 j a) (hl : Cond.fieldLink own idx "ClockAuctions$Bid" "number" "I" ∈ wT) {x : Int32} (hdg : decode cc pc = .ok (.putfield idx, 3)) (kk : ∀ (S1 : St) (H1 : Heap) (locs1 : List Loc), S1 = si S 0 j 0 x → WW G S1 s H1 locs1 → Ext S S1 → W p l e R s m args below meth c H1 locs1 cells slots Q (F0 m (pc + 3) ls rest)) (hin : meth.name = "<init>") (ho : own = RX0) : W p l e R s m args below meth c H locs cells slots Q (F0 m pc ls (.int x :: .ref a :: rest)) :=
  pw_putF (C := RX0) (T := TX0) (N := 4) (ty := .int) F hw 0 (by decide) (by decide) ha twu_RX0 tyX0 tyX0_ok nmX0 rfl rfl 0 (by decide) hl (fun _ h => h) rfl hin (by rw [ho]; rfl) (by decide +kernel) rfl rfl (Nat.le_of_ble_eq_true rfl) (S' := si S 0 j 0 x) (by unfold pcS; rw [row_si]; rfl) (upd_si _ _ _ _ _) (wf_same (pw_wf hw.1) rfl rfl) hdg (fun H1 locs1 hw1 hx1 => kk _ H1 locs1 rfl hw1 hx1)
theorem g_0_1 (F : CX p m c cc nL s args own) (hw : WW G S s H locs) {idx : Nat} (ha : AtO S 0 j a) (hl : Cond.fieldLink own idx "ClockAuctions$Bid" "buyer" "I" ∈ wT) (hdg : decode cc pc = .ok (.getfield idx, 3)) (kk : W p l e R s m args below meth c H locs cells slots Q (F0 m (pc + 3) ls (.int (gi S 0 j 1) :: rest))) : W p l e R s m args below meth c H locs cells slots Q (F0 m pc ls (.ref a :: rest)) := pw_get (C := RX0) (T := TX0) (N := 4) F hw 0 (by decide) (by decide) ha twu_RX0 rfl rfl 1 (by decide) hl (fun _ h => h) rfl hdg kk
theorem p_0_1 (F : CX p m c cc nL s args own) (hw : WW G S s H locs) {idx : Nat} (ha : AtO S 0 j a) (hl : Cond.fieldLink own idx "ClockAuctions$Bid" "buyer" "I" ∈ wT) {x : Int32} (hdg : decode cc pc = .ok (.putfield idx, 3)) (kk : ∀ (S1 : St) (H1 : Heap) (locs1 : List Loc), S1 = si S 0 j 1 x → WW G S1 s H1 locs1 → Ext S S1 → W p l e R s m args below meth c H1 locs1 cells slots Q (F0 m (pc + 3) ls rest)) (hin : meth.name = "<init>") (ho : own = RX0) : W p l e R s m args below meth c H locs cells slots Q (F0 m pc ls (.int x :: .ref a :: rest)) :=
  pw_putF (C := RX0) (T := TX0) (N := 4) (ty := .int) F hw 0 (by decide) (by decide) ha twu_RX0 tyX0 tyX0_ok nmX0 rfl rfl 1 (by decide) hl (fun _ h => h) rfl hin (by rw [ho]; rfl) (by decide +kernel) rfl rfl (Nat.le_of_ble_eq_true rfl) (S' := si S 0 j 1 x) (by unfold pcS; rw [row_si]; rfl) (upd_si _ _ _ _ _) (wf_same (pw_wf hw.1) rfl rfl) hdg (fun H1 locs1 hw1 hx1 => kk _ H1 locs1 rfl hw1 hx1)
theorem g_0_2 (F : CX p m c cc nL s args own) (hw : WW G S s H locs) {idx : Nat} (ha : AtO S 0 j a) (hl : Cond.fieldLink own idx "ClockAuctions$Bid" "cents" "J" ∈ wT) (hdg : decode cc pc = .ok (.getfield idx, 3)) (kk : W p l e R s m args below meth c H locs cells slots Q (F0 m (pc + 3) ls (.long (gj S 0 j 2) :: rest))) : W p l e R s m args below meth c H locs cells slots Q (F0 m pc ls (.ref a :: rest)) := pw_get (C := RX0) (T := TX0) (N := 4) F hw 0 (by decide) (by decide) ha twu_RX0 rfl rfl 2 (by decide) hl (fun _ h => h) rfl hdg kk
theorem p_0_2 (F : CX p m c cc nL s args own) (hw : WW G S s H locs) {idx : Nat} (ha : AtO S 0 j a) (hl : Cond.fieldLink own idx "ClockAuctions$Bid" "cents" "J" ∈ wT) {x : Int64} (hdg : decode cc pc = .ok (.putfield idx, 3)) (kk : ∀ (S1 : St) (H1 : Heap) (locs1 : List Loc), S1 = sj S 0 j 2 x → WW G S1 s H1 locs1 → Ext S S1 → W p l e R s m args below meth c H1 locs1 cells slots Q (F0 m (pc + 3) ls rest)) (hin : meth.name = "<init>") (ho : own = RX0) : W p l e R s m args below meth c H locs cells slots Q (F0 m pc ls (.long x :: .ref a :: rest)) :=
  pw_putF (C := RX0) (T := TX0) (N := 4) (ty := .long) F hw 0 (by decide) (by decide) ha twu_RX0 tyX0 tyX0_ok nmX0 rfl rfl 2 (by decide) hl (fun _ h => h) rfl hin (by rw [ho]; rfl) (by decide +kernel) rfl rfl (Nat.le_of_ble_eq_true rfl) (S' := sj S 0 j 2 x) (by unfold pcS; rw [row_sj]; rfl) (upd_sj _ _ _ _ _) (wf_same (pw_wf hw.1) rfl rfl) hdg (fun H1 locs1 hw1 hx1 => kk _ H1 locs1 rfl hw1 hx1)
theorem g_0_3 (F : CX p m c cc nL s args own) (hw : WW G S s H locs) {idx : Nat} (ha : AtO S 0 j a) (hl : Cond.fieldLink own idx "ClockAuctions$Bid" "lotSet" "J" ∈ wT) (hdg : decode cc pc = .ok (.getfield idx, 3)) (kk : W p l e R s m args below meth c H locs cells slots Q (F0 m (pc + 3) ls (.long (gj S 0 j 3) :: rest))) : W p l e R s m args below meth c H locs cells slots Q (F0 m pc ls (.ref a :: rest)) := pw_get (C := RX0) (T := TX0) (N := 4) F hw 0 (by decide) (by decide) ha twu_RX0 rfl rfl 3 (by decide) hl (fun _ h => h) rfl hdg kk
theorem p_0_3 (F : CX p m c cc nL s args own) (hw : WW G S s H locs) {idx : Nat} (ha : AtO S 0 j a) (hl : Cond.fieldLink own idx "ClockAuctions$Bid" "lotSet" "J" ∈ wT) {x : Int64} (hdg : decode cc pc = .ok (.putfield idx, 3)) (kk : ∀ (S1 : St) (H1 : Heap) (locs1 : List Loc), S1 = sj S 0 j 3 x → WW G S1 s H1 locs1 → Ext S S1 → W p l e R s m args below meth c H1 locs1 cells slots Q (F0 m (pc + 3) ls rest)) : W p l e R s m args below meth c H locs cells slots Q (F0 m pc ls (.long x :: .ref a :: rest)) :=
  pw_put (C := RX0) (T := TX0) (N := 4) (ty := .long) F hw 0 (by decide) (by decide) ha twu_RX0 tyX0 tyX0_ok nmX0 rfl rfl 3 (by decide) hl (fun _ h => h) rfl (by decide +kernel) rfl rfl (Nat.le_of_ble_eq_true rfl) (S' := sj S 0 j 3 x) (by unfold pcS; rw [row_sj]; rfl) (upd_sj _ _ _ _ _) (wf_same (pw_wf hw.1) rfl rfl) hdg (fun H1 locs1 hw1 hx1 => kk _ H1 locs1 rfl hw1 hx1)
theorem g_1_0 (F : CX p m c cc nL s args own) (hw : WW G S s H locs) {idx : Nat} (ha : AtO S 1 j a) (hl : Cond.fieldLink own idx "ClockAuctions$Buyer" "number" "I" ∈ wT) (hdg : decode cc pc = .ok (.getfield idx, 3)) (kk : W p l e R s m args below meth c H locs cells slots Q (F0 m (pc + 3) ls (.int (gi S 1 j 0) :: rest))) : W p l e R s m args below meth c H locs cells slots Q (F0 m pc ls (.ref a :: rest)) := pw_get (C := RX1) (T := TX1) (N := 4) F hw 1 (by decide) (by decide) ha twu_RX1 rfl rfl 0 (by decide) hl (fun _ h => h) rfl hdg kk
theorem p_1_0 (F : CX p m c cc nL s args own) (hw : WW G S s H locs) {idx : Nat} (ha : AtO S 1 j a) (hl : Cond.fieldLink own idx "ClockAuctions$Buyer" "number" "I" ∈ wT) {x : Int32} (hdg : decode cc pc = .ok (.putfield idx, 3)) (kk : ∀ (S1 : St) (H1 : Heap) (locs1 : List Loc), S1 = si S 1 j 0 x → WW G S1 s H1 locs1 → Ext S S1 → W p l e R s m args below meth c H1 locs1 cells slots Q (F0 m (pc + 3) ls rest)) (hin : meth.name = "<init>") (ho : own = RX1) : W p l e R s m args below meth c H locs cells slots Q (F0 m pc ls (.int x :: .ref a :: rest)) :=
  pw_putF (C := RX1) (T := TX1) (N := 4) (ty := .int) F hw 1 (by decide) (by decide) ha twu_RX1 tyX1 tyX1_ok nmX1 rfl rfl 0 (by decide) hl (fun _ h => h) rfl hin (by rw [ho]; rfl) (by decide +kernel) rfl rfl (Nat.le_of_ble_eq_true rfl) (S' := si S 1 j 0 x) (by unfold pcS; rw [row_si]; rfl) (upd_si _ _ _ _ _) (wf_same (pw_wf hw.1) rfl rfl) hdg (fun H1 locs1 hw1 hx1 => kk _ H1 locs1 rfl hw1 hx1)
theorem g_1_1 (F : CX p m c cc nL s args own) (hw : WW G S s H locs) {idx : Nat} (ha : AtO S 1 j a) (hl : Cond.fieldLink own idx "ClockAuctions$Buyer" "credit" "J" ∈ wT) (hdg : decode cc pc = .ok (.getfield idx, 3)) (kk : W p l e R s m args below meth c H locs cells slots Q (F0 m (pc + 3) ls (.long (gj S 1 j 1) :: rest))) : W p l e R s m args below meth c H locs cells slots Q (F0 m pc ls (.ref a :: rest)) := pw_get (C := RX1) (T := TX1) (N := 4) F hw 1 (by decide) (by decide) ha twu_RX1 rfl rfl 1 (by decide) hl (fun _ h => h) rfl hdg kk
theorem p_1_1 (F : CX p m c cc nL s args own) (hw : WW G S s H locs) {idx : Nat} (ha : AtO S 1 j a) (hl : Cond.fieldLink own idx "ClockAuctions$Buyer" "credit" "J" ∈ wT) {x : Int64} (hdg : decode cc pc = .ok (.putfield idx, 3)) (kk : ∀ (S1 : St) (H1 : Heap) (locs1 : List Loc), S1 = sj S 1 j 1 x → WW G S1 s H1 locs1 → Ext S S1 → W p l e R s m args below meth c H1 locs1 cells slots Q (F0 m (pc + 3) ls rest)) (hin : meth.name = "<init>") (ho : own = RX1) : W p l e R s m args below meth c H locs cells slots Q (F0 m pc ls (.long x :: .ref a :: rest)) :=
  pw_putF (C := RX1) (T := TX1) (N := 4) (ty := .long) F hw 1 (by decide) (by decide) ha twu_RX1 tyX1 tyX1_ok nmX1 rfl rfl 1 (by decide) hl (fun _ h => h) rfl hin (by rw [ho]; rfl) (by decide +kernel) rfl rfl (Nat.le_of_ble_eq_true rfl) (S' := sj S 1 j 1 x) (by unfold pcS; rw [row_sj]; rfl) (upd_sj _ _ _ _ _) (wf_same (pw_wf hw.1) rfl rfl) hdg (fun H1 locs1 hw1 hx1 => kk _ H1 locs1 rfl hw1 hx1)
theorem g_1_2 (F : CX p m c cc nL s args own) (hw : WW G S s H locs) {idx : Nat} (ha : AtO S 1 j a) (hl : Cond.fieldLink own idx "ClockAuctions$Buyer" "lateBy" "J" ∈ wT) (hdg : decode cc pc = .ok (.getfield idx, 3)) (kk : W p l e R s m args below meth c H locs cells slots Q (F0 m (pc + 3) ls (.long (gj S 1 j 2) :: rest))) : W p l e R s m args below meth c H locs cells slots Q (F0 m pc ls (.ref a :: rest)) := pw_get (C := RX1) (T := TX1) (N := 4) F hw 1 (by decide) (by decide) ha twu_RX1 rfl rfl 2 (by decide) hl (fun _ h => h) rfl hdg kk
theorem p_1_2 (F : CX p m c cc nL s args own) (hw : WW G S s H locs) {idx : Nat} (ha : AtO S 1 j a) (hl : Cond.fieldLink own idx "ClockAuctions$Buyer" "lateBy" "J" ∈ wT) {x : Int64} (hdg : decode cc pc = .ok (.putfield idx, 3)) (kk : ∀ (S1 : St) (H1 : Heap) (locs1 : List Loc), S1 = sj S 1 j 2 x → WW G S1 s H1 locs1 → Ext S S1 → W p l e R s m args below meth c H1 locs1 cells slots Q (F0 m (pc + 3) ls rest)) : W p l e R s m args below meth c H locs cells slots Q (F0 m pc ls (.long x :: .ref a :: rest)) :=
  pw_put (C := RX1) (T := TX1) (N := 4) (ty := .long) F hw 1 (by decide) (by decide) ha twu_RX1 tyX1 tyX1_ok nmX1 rfl rfl 2 (by decide) hl (fun _ h => h) rfl (by decide +kernel) rfl rfl (Nat.le_of_ble_eq_true rfl) (S' := sj S 1 j 2 x) (by unfold pcS; rw [row_sj]; rfl) (upd_sj _ _ _ _ _) (wf_same (pw_wf hw.1) rfl rfl) hdg (fun H1 locs1 hw1 hx1 => kk _ H1 locs1 rfl hw1 hx1)
theorem g_1_3 (F : CX p m c cc nL s args own) (hw : WW G S s H locs) {idx : Nat} (ha : AtO S 1 j a) (hl : Cond.fieldLink own idx "ClockAuctions$Buyer" "pressTime" "J" ∈ wT) (hdg : decode cc pc = .ok (.getfield idx, 3)) (kk : W p l e R s m args below meth c H locs cells slots Q (F0 m (pc + 3) ls (.long (gj S 1 j 3) :: rest))) : W p l e R s m args below meth c H locs cells slots Q (F0 m pc ls (.ref a :: rest)) := pw_get (C := RX1) (T := TX1) (N := 4) F hw 1 (by decide) (by decide) ha twu_RX1 rfl rfl 3 (by decide) hl (fun _ h => h) rfl hdg kk
theorem p_1_3 (F : CX p m c cc nL s args own) (hw : WW G S s H locs) {idx : Nat} (ha : AtO S 1 j a) (hl : Cond.fieldLink own idx "ClockAuctions$Buyer" "pressTime" "J" ∈ wT) {x : Int64} (hdg : decode cc pc = .ok (.putfield idx, 3)) (kk : ∀ (S1 : St) (H1 : Heap) (locs1 : List Loc), S1 = sj S 1 j 3 x → WW G S1 s H1 locs1 → Ext S S1 → W p l e R s m args below meth c H1 locs1 cells slots Q (F0 m (pc + 3) ls rest)) : W p l e R s m args below meth c H locs cells slots Q (F0 m pc ls (.long x :: .ref a :: rest)) :=
  pw_put (C := RX1) (T := TX1) (N := 4) (ty := .long) F hw 1 (by decide) (by decide) ha twu_RX1 tyX1 tyX1_ok nmX1 rfl rfl 3 (by decide) hl (fun _ h => h) rfl (by decide +kernel) rfl rfl (Nat.le_of_ble_eq_true rfl) (S' := sj S 1 j 3 x) (by unfold pcS; rw [row_sj]; rfl) (upd_sj _ _ _ _ _) (wf_same (pw_wf hw.1) rfl rfl) hdg (fun H1 locs1 hw1 hx1 => kk _ H1 locs1 rfl hw1 hx1)
theorem g_2_0 (F : CX p m c cc nL s args own) (hw : WW G S s H locs) {idx : Nat} (ha : AtO S 2 0 a) (hl : Cond.fieldLink own idx "ClockAuctions$Chain" "entries" "[LClockAuctions$Entry;" ∈ wT) (hdg : decode cc pc = .ok (.getfield idx, 3)) (kk : ∀ a2 : Nat, AtO S 13 0 a2 → W p l e R s m args below meth c H locs cells slots Q (F0 m (pc + 3) ls (.ref a2 :: rest))) : W p l e R s m args below meth c H locs cells slots Q (F0 m pc ls (.ref a :: rest)) := pw_get (C := RX2) (T := TX2) (N := 3) F hw 2 (by decide) (by decide) ha twu_RX2 rfl rfl 0 (by decide) hl (fun _ h => h) rfl hdg (kk _ ⟨hw.1.2.2.2.2.1 13 (by unfold pwFix; decide), rfl⟩)
theorem g_2_1 (F : CX p m c cc nL s args own) (hw : WW G S s H locs) {idx : Nat} (ha : AtO S 2 0 a) (hl : Cond.fieldLink own idx "ClockAuctions$Chain" "count" "I" ∈ wT) (hdg : decode cc pc = .ok (.getfield idx, 3)) (kk : W p l e R s m args below meth c H locs cells slots Q (F0 m (pc + 3) ls (.int (gi S 2 0 1) :: rest))) : W p l e R s m args below meth c H locs cells slots Q (F0 m pc ls (.ref a :: rest)) := pw_get (C := RX2) (T := TX2) (N := 3) F hw 2 (by decide) (by decide) ha twu_RX2 rfl rfl 1 (by decide) hl (fun _ h => h) rfl hdg kk
theorem p_2_1 (F : CX p m c cc nL s args own) (hw : WW G S s H locs) {idx : Nat} (ha : AtO S 2 0 a) (hl : Cond.fieldLink own idx "ClockAuctions$Chain" "count" "I" ∈ wT) {x : Int32} (hdg : decode cc pc = .ok (.putfield idx, 3)) (kk : ∀ (S1 : St) (H1 : Heap) (locs1 : List Loc), S1 = si S 2 0 1 x → WW G S1 s H1 locs1 → Ext S S1 → W p l e R s m args below meth c H1 locs1 cells slots Q (F0 m (pc + 3) ls rest)) : W p l e R s m args below meth c H locs cells slots Q (F0 m pc ls (.int x :: .ref a :: rest)) :=
  pw_put (C := RX2) (T := TX2) (N := 3) (ty := .int) F hw 2 (by decide) (by decide) ha twu_RX2 tyX2 tyX2_ok nmX2 rfl rfl 1 (by decide) hl (fun _ h => h) rfl (by decide +kernel) rfl rfl (Nat.le_of_ble_eq_true rfl) (S' := si S 2 0 1 x) (by unfold pcS; rw [row_si]; rfl) (upd_si _ _ _ _ _) (wf_same (pw_wf hw.1) rfl rfl) hdg (fun H1 locs1 hw1 hx1 => kk _ H1 locs1 rfl hw1 hx1)
theorem g_2_2 (F : CX p m c cc nL s args own) (hw : WW G S s H locs) {idx : Nat} (ha : AtO S 2 0 a) (hl : Cond.fieldLink own idx "ClockAuctions$Chain" "last" "I" ∈ wT) (hdg : decode cc pc = .ok (.getfield idx, 3)) (kk : W p l e R s m args below meth c H locs cells slots Q (F0 m (pc + 3) ls (.int (gi S 2 0 2) :: rest))) : W p l e R s m args below meth c H locs cells slots Q (F0 m pc ls (.ref a :: rest)) := pw_get (C := RX2) (T := TX2) (N := 3) F hw 2 (by decide) (by decide) ha twu_RX2 rfl rfl 2 (by decide) hl (fun _ h => h) rfl hdg kk
theorem p_2_2 (F : CX p m c cc nL s args own) (hw : WW G S s H locs) {idx : Nat} (ha : AtO S 2 0 a) (hl : Cond.fieldLink own idx "ClockAuctions$Chain" "last" "I" ∈ wT) {x : Int32} (hdg : decode cc pc = .ok (.putfield idx, 3)) (kk : ∀ (S1 : St) (H1 : Heap) (locs1 : List Loc), S1 = si S 2 0 2 x → WW G S1 s H1 locs1 → Ext S S1 → W p l e R s m args below meth c H1 locs1 cells slots Q (F0 m (pc + 3) ls rest)) : W p l e R s m args below meth c H locs cells slots Q (F0 m pc ls (.int x :: .ref a :: rest)) :=
  pw_put (C := RX2) (T := TX2) (N := 3) (ty := .int) F hw 2 (by decide) (by decide) ha twu_RX2 tyX2 tyX2_ok nmX2 rfl rfl 2 (by decide) hl (fun _ h => h) rfl (by decide +kernel) rfl rfl (Nat.le_of_ble_eq_true rfl) (S' := si S 2 0 2 x) (by unfold pcS; rw [row_si]; rfl) (upd_si _ _ _ _ _) (wf_same (pw_wf hw.1) rfl rfl) hdg (fun H1 locs1 hw1 hx1 => kk _ H1 locs1 rfl hw1 hx1)
theorem g_3_0 (F : CX p m c cc nL s args own) (hw : WW G S s H locs) {idx : Nat} (ha : AtO S 3 j a) (hl : Cond.fieldLink own idx "ClockAuctions$Entry" "sort" "I" ∈ wT) (hdg : decode cc pc = .ok (.getfield idx, 3)) (kk : W p l e R s m args below meth c H locs cells slots Q (F0 m (pc + 3) ls (.int (gi S 3 j 0) :: rest))) : W p l e R s m args below meth c H locs cells slots Q (F0 m pc ls (.ref a :: rest)) := pw_get (C := RX3) (T := TX3) (N := 5) F hw 3 (by decide) (by decide) ha twu_RX3 rfl rfl 0 (by decide) hl (fun _ h => h) rfl hdg kk
theorem p_3_0 (F : CX p m c cc nL s args own) (hw : WW G S s H locs) {idx : Nat} (ha : AtO S 3 j a) (hl : Cond.fieldLink own idx "ClockAuctions$Entry" "sort" "I" ∈ wT) {x : Int32} (hdg : decode cc pc = .ok (.putfield idx, 3)) (kk : ∀ (S1 : St) (H1 : Heap) (locs1 : List Loc), S1 = si S 3 j 0 x → WW G S1 s H1 locs1 → Ext S S1 → W p l e R s m args below meth c H1 locs1 cells slots Q (F0 m (pc + 3) ls rest)) (hin : meth.name = "<init>") (ho : own = RX3) : W p l e R s m args below meth c H locs cells slots Q (F0 m pc ls (.int x :: .ref a :: rest)) :=
  pw_putF (C := RX3) (T := TX3) (N := 5) (ty := .int) F hw 3 (by decide) (by decide) ha twu_RX3 tyX3 tyX3_ok nmX3 rfl rfl 0 (by decide) hl (fun _ h => h) rfl hin (by rw [ho]; rfl) (by decide +kernel) rfl rfl (Nat.le_of_ble_eq_true rfl) (S' := si S 3 j 0 x) (by unfold pcS; rw [row_si]; rfl) (upd_si _ _ _ _ _) (wf_same (pw_wf hw.1) rfl rfl) hdg (fun H1 locs1 hw1 hx1 => kk _ H1 locs1 rfl hw1 hx1)
theorem g_3_1 (F : CX p m c cc nL s args own) (hw : WW G S s H locs) {idx : Nat} (ha : AtO S 3 j a) (hl : Cond.fieldLink own idx "ClockAuctions$Entry" "lot" "I" ∈ wT) (hdg : decode cc pc = .ok (.getfield idx, 3)) (kk : W p l e R s m args below meth c H locs cells slots Q (F0 m (pc + 3) ls (.int (gi S 3 j 1) :: rest))) : W p l e R s m args below meth c H locs cells slots Q (F0 m pc ls (.ref a :: rest)) := pw_get (C := RX3) (T := TX3) (N := 5) F hw 3 (by decide) (by decide) ha twu_RX3 rfl rfl 1 (by decide) hl (fun _ h => h) rfl hdg kk
theorem p_3_1 (F : CX p m c cc nL s args own) (hw : WW G S s H locs) {idx : Nat} (ha : AtO S 3 j a) (hl : Cond.fieldLink own idx "ClockAuctions$Entry" "lot" "I" ∈ wT) {x : Int32} (hdg : decode cc pc = .ok (.putfield idx, 3)) (kk : ∀ (S1 : St) (H1 : Heap) (locs1 : List Loc), S1 = si S 3 j 1 x → WW G S1 s H1 locs1 → Ext S S1 → W p l e R s m args below meth c H1 locs1 cells slots Q (F0 m (pc + 3) ls rest)) (hin : meth.name = "<init>") (ho : own = RX3) : W p l e R s m args below meth c H locs cells slots Q (F0 m pc ls (.int x :: .ref a :: rest)) :=
  pw_putF (C := RX3) (T := TX3) (N := 5) (ty := .int) F hw 3 (by decide) (by decide) ha twu_RX3 tyX3 tyX3_ok nmX3 rfl rfl 1 (by decide) hl (fun _ h => h) rfl hin (by rw [ho]; rfl) (by decide +kernel) rfl rfl (Nat.le_of_ble_eq_true rfl) (S' := si S 3 j 1 x) (by unfold pcS; rw [row_si]; rfl) (upd_si _ _ _ _ _) (wf_same (pw_wf hw.1) rfl rfl) hdg (fun H1 locs1 hw1 hx1 => kk _ H1 locs1 rfl hw1 hx1)
theorem g_3_2 (F : CX p m c cc nL s args own) (hw : WW G S s H locs) {idx : Nat} (ha : AtO S 3 j a) (hl : Cond.fieldLink own idx "ClockAuctions$Entry" "buyer" "I" ∈ wT) (hdg : decode cc pc = .ok (.getfield idx, 3)) (kk : W p l e R s m args below meth c H locs cells slots Q (F0 m (pc + 3) ls (.int (gi S 3 j 2) :: rest))) : W p l e R s m args below meth c H locs cells slots Q (F0 m pc ls (.ref a :: rest)) := pw_get (C := RX3) (T := TX3) (N := 5) F hw 3 (by decide) (by decide) ha twu_RX3 rfl rfl 2 (by decide) hl (fun _ h => h) rfl hdg kk
theorem p_3_2 (F : CX p m c cc nL s args own) (hw : WW G S s H locs) {idx : Nat} (ha : AtO S 3 j a) (hl : Cond.fieldLink own idx "ClockAuctions$Entry" "buyer" "I" ∈ wT) {x : Int32} (hdg : decode cc pc = .ok (.putfield idx, 3)) (kk : ∀ (S1 : St) (H1 : Heap) (locs1 : List Loc), S1 = si S 3 j 2 x → WW G S1 s H1 locs1 → Ext S S1 → W p l e R s m args below meth c H1 locs1 cells slots Q (F0 m (pc + 3) ls rest)) (hin : meth.name = "<init>") (ho : own = RX3) : W p l e R s m args below meth c H locs cells slots Q (F0 m pc ls (.int x :: .ref a :: rest)) :=
  pw_putF (C := RX3) (T := TX3) (N := 5) (ty := .int) F hw 3 (by decide) (by decide) ha twu_RX3 tyX3 tyX3_ok nmX3 rfl rfl 2 (by decide) hl (fun _ h => h) rfl hin (by rw [ho]; rfl) (by decide +kernel) rfl rfl (Nat.le_of_ble_eq_true rfl) (S' := si S 3 j 2 x) (by unfold pcS; rw [row_si]; rfl) (upd_si _ _ _ _ _) (wf_same (pw_wf hw.1) rfl rfl) hdg (fun H1 locs1 hw1 hx1 => kk _ H1 locs1 rfl hw1 hx1)
theorem g_3_3 (F : CX p m c cc nL s args own) (hw : WW G S s H locs) {idx : Nat} (ha : AtO S 3 j a) (hl : Cond.fieldLink own idx "ClockAuctions$Entry" "cents" "J" ∈ wT) (hdg : decode cc pc = .ok (.getfield idx, 3)) (kk : W p l e R s m args below meth c H locs cells slots Q (F0 m (pc + 3) ls (.long (gj S 3 j 3) :: rest))) : W p l e R s m args below meth c H locs cells slots Q (F0 m pc ls (.ref a :: rest)) := pw_get (C := RX3) (T := TX3) (N := 5) F hw 3 (by decide) (by decide) ha twu_RX3 rfl rfl 3 (by decide) hl (fun _ h => h) rfl hdg kk
theorem p_3_3 (F : CX p m c cc nL s args own) (hw : WW G S s H locs) {idx : Nat} (ha : AtO S 3 j a) (hl : Cond.fieldLink own idx "ClockAuctions$Entry" "cents" "J" ∈ wT) {x : Int64} (hdg : decode cc pc = .ok (.putfield idx, 3)) (kk : ∀ (S1 : St) (H1 : Heap) (locs1 : List Loc), S1 = sj S 3 j 3 x → WW G S1 s H1 locs1 → Ext S S1 → W p l e R s m args below meth c H1 locs1 cells slots Q (F0 m (pc + 3) ls rest)) (hin : meth.name = "<init>") (ho : own = RX3) : W p l e R s m args below meth c H locs cells slots Q (F0 m pc ls (.long x :: .ref a :: rest)) :=
  pw_putF (C := RX3) (T := TX3) (N := 5) (ty := .long) F hw 3 (by decide) (by decide) ha twu_RX3 tyX3 tyX3_ok nmX3 rfl rfl 3 (by decide) hl (fun _ h => h) rfl hin (by rw [ho]; rfl) (by decide +kernel) rfl rfl (Nat.le_of_ble_eq_true rfl) (S' := sj S 3 j 3 x) (by unfold pcS; rw [row_sj]; rfl) (upd_sj _ _ _ _ _) (wf_same (pw_wf hw.1) rfl rfl) hdg (fun H1 locs1 hw1 hx1 => kk _ H1 locs1 rfl hw1 hx1)
theorem g_3_4 (F : CX p m c cc nL s args own) (hw : WW G S s H locs) {idx : Nat} (ha : AtO S 3 j a) (hl : Cond.fieldLink own idx "ClockAuctions$Entry" "link" "I" ∈ wT) (hdg : decode cc pc = .ok (.getfield idx, 3)) (kk : W p l e R s m args below meth c H locs cells slots Q (F0 m (pc + 3) ls (.int (gi S 3 j 4) :: rest))) : W p l e R s m args below meth c H locs cells slots Q (F0 m pc ls (.ref a :: rest)) := pw_get (C := RX3) (T := TX3) (N := 5) F hw 3 (by decide) (by decide) ha twu_RX3 rfl rfl 4 (by decide) hl (fun _ h => h) rfl hdg kk
theorem p_3_4 (F : CX p m c cc nL s args own) (hw : WW G S s H locs) {idx : Nat} (ha : AtO S 3 j a) (hl : Cond.fieldLink own idx "ClockAuctions$Entry" "link" "I" ∈ wT) {x : Int32} (hdg : decode cc pc = .ok (.putfield idx, 3)) (kk : ∀ (S1 : St) (H1 : Heap) (locs1 : List Loc), S1 = si S 3 j 4 x → WW G S1 s H1 locs1 → Ext S S1 → W p l e R s m args below meth c H1 locs1 cells slots Q (F0 m (pc + 3) ls rest)) (hin : meth.name = "<init>") (ho : own = RX3) : W p l e R s m args below meth c H locs cells slots Q (F0 m pc ls (.int x :: .ref a :: rest)) :=
  pw_putF (C := RX3) (T := TX3) (N := 5) (ty := .int) F hw 3 (by decide) (by decide) ha twu_RX3 tyX3 tyX3_ok nmX3 rfl rfl 4 (by decide) hl (fun _ h => h) rfl hin (by rw [ho]; rfl) (by decide +kernel) rfl rfl (Nat.le_of_ble_eq_true rfl) (S' := si S 3 j 4 x) (by unfold pcS; rw [row_si]; rfl) (upd_si _ _ _ _ _) (wf_same (pw_wf hw.1) rfl rfl) hdg (fun H1 locs1 hw1 hx1 => kk _ H1 locs1 rfl hw1 hx1)
theorem g_4_0 (F : CX p m c cc nL s args own) (hw : WW G S s H locs) {idx : Nat} (ha : AtO S 4 0 a) (hl : Cond.fieldLink own idx "ClockAuctions$FallingClock" "lot" "LClockAuctions$Lot;" ∈ wT) (hdg : decode cc pc = .ok (.getfield idx, 3)) (kn : gr S 4 0 0 = none → W p l e R s m args below meth c H locs cells slots Q (F0 m (pc + 3) ls (.null :: rest))) (ks : ∀ j2 a2 : Nat, gr S 4 0 0 = some j2 → AtO S 5 j2 a2 → W p l e R s m args below meth c H locs cells slots Q (F0 m (pc + 3) ls (.ref a2 :: rest))) : W p l e R s m args below meth c H locs cells slots Q (F0 m pc ls (.ref a :: rest)) := by
  refine pw_get (C := RX4) (T := TX4) (N := 6) F hw 4 (by decide) (by decide) ha twu_RX4 rfl rfl 0 (by decide) hl (fun _ h => h) rfl hdg ?_
  cases hr : gr S 4 0 0 with
  | none => exact kn hr
  | some j2 => exact ks j2 _ hr ⟨pw_wf hw.1 4 0 0 _ hr, rfl⟩
theorem p_4_0s (F : CX p m c cc nL s args own) (hw : WW G S s H locs) {idx : Nat} (ha : AtO S 4 0 a) (hl : Cond.fieldLink own idx "ClockAuctions$FallingClock" "lot" "LClockAuctions$Lot;" ∈ wT) {j2 a2 : Nat} (ha2 : AtO S 5 j2 a2) (hdg : decode cc pc = .ok (.putfield idx, 3)) (kk : ∀ (S1 : St) (H1 : Heap) (locs1 : List Loc), S1 = sr S 4 0 0 (some j2) → WW G S1 s H1 locs1 → Ext S S1 → W p l e R s m args below meth c H1 locs1 cells slots Q (F0 m (pc + 3) ls rest)) : W p l e R s m args below meth c H locs cells slots Q (F0 m pc ls (.ref a2 :: .ref a :: rest)) :=
  pw_put (C := RX4) (T := TX4) (N := 6) (ty := .object "ClockAuctions$Lot") F hw 4 (by decide) (by decide) ha twu_RX4 tyX4 tyX4_ok nmX4 rfl rfl 0 (by decide) hl (fun _ h => h) rfl (by decide +kernel) rfl rfl (Nat.le_of_ble_eq_true rfl) (S' := sr S 4 0 0 (some j2)) (by unfold pcS; rw [row_sr, ← ha2.2]; rfl) (upd_sr _ _ _ _ _) (wf_sr (pw_wf hw.1) (fun q hq => by cases hq; exact ha2.1)) hdg (fun H1 locs1 hw1 hx1 => kk _ H1 locs1 rfl hw1 hx1)
theorem p_4_0n (F : CX p m c cc nL s args own) (hw : WW G S s H locs) {idx : Nat} (ha : AtO S 4 0 a) (hl : Cond.fieldLink own idx "ClockAuctions$FallingClock" "lot" "LClockAuctions$Lot;" ∈ wT)  (hdg : decode cc pc = .ok (.putfield idx, 3)) (kk : ∀ (S1 : St) (H1 : Heap) (locs1 : List Loc), S1 = sr S 4 0 0 none → WW G S1 s H1 locs1 → Ext S S1 → W p l e R s m args below meth c H1 locs1 cells slots Q (F0 m (pc + 3) ls rest)) : W p l e R s m args below meth c H locs cells slots Q (F0 m pc ls (.null :: .ref a :: rest)) :=
  pw_put (C := RX4) (T := TX4) (N := 6) (ty := .object "ClockAuctions$Lot") F hw 4 (by decide) (by decide) ha twu_RX4 tyX4 tyX4_ok nmX4 rfl rfl 0 (by decide) hl (fun _ h => h) rfl (by decide +kernel) rfl rfl (Nat.le_of_ble_eq_true rfl) (S' := sr S 4 0 0 none) (by unfold pcS; rw [row_sr]; rfl) (upd_sr _ _ _ _ _) (wf_sr (pw_wf hw.1) (fun q hq => by cases hq)) hdg (fun H1 locs1 hw1 hx1 => kk _ H1 locs1 rfl hw1 hx1)
theorem g_4_1 (F : CX p m c cc nL s args own) (hw : WW G S s H locs) {idx : Nat} (ha : AtO S 4 0 a) (hl : Cond.fieldLink own idx "ClockAuctions$FallingClock" "from" "J" ∈ wT) (hdg : decode cc pc = .ok (.getfield idx, 3)) (kk : W p l e R s m args below meth c H locs cells slots Q (F0 m (pc + 3) ls (.long (gj S 4 0 1) :: rest))) : W p l e R s m args below meth c H locs cells slots Q (F0 m pc ls (.ref a :: rest)) := pw_get (C := RX4) (T := TX4) (N := 6) F hw 4 (by decide) (by decide) ha twu_RX4 rfl rfl 1 (by decide) hl (fun _ h => h) rfl hdg kk
theorem p_4_1 (F : CX p m c cc nL s args own) (hw : WW G S s H locs) {idx : Nat} (ha : AtO S 4 0 a) (hl : Cond.fieldLink own idx "ClockAuctions$FallingClock" "from" "J" ∈ wT) {x : Int64} (hdg : decode cc pc = .ok (.putfield idx, 3)) (kk : ∀ (S1 : St) (H1 : Heap) (locs1 : List Loc), S1 = sj S 4 0 1 x → WW G S1 s H1 locs1 → Ext S S1 → W p l e R s m args below meth c H1 locs1 cells slots Q (F0 m (pc + 3) ls rest)) : W p l e R s m args below meth c H locs cells slots Q (F0 m pc ls (.long x :: .ref a :: rest)) :=
  pw_put (C := RX4) (T := TX4) (N := 6) (ty := .long) F hw 4 (by decide) (by decide) ha twu_RX4 tyX4 tyX4_ok nmX4 rfl rfl 1 (by decide) hl (fun _ h => h) rfl (by decide +kernel) rfl rfl (Nat.le_of_ble_eq_true rfl) (S' := sj S 4 0 1 x) (by unfold pcS; rw [row_sj]; rfl) (upd_sj _ _ _ _ _) (wf_same (pw_wf hw.1) rfl rfl) hdg (fun H1 locs1 hw1 hx1 => kk _ H1 locs1 rfl hw1 hx1)
theorem g_4_2 (F : CX p m c cc nL s args own) (hw : WW G S s H locs) {idx : Nat} (ha : AtO S 4 0 a) (hl : Cond.fieldLink own idx "ClockAuctions$FallingClock" "step" "J" ∈ wT) (hdg : decode cc pc = .ok (.getfield idx, 3)) (kk : W p l e R s m args below meth c H locs cells slots Q (F0 m (pc + 3) ls (.long (gj S 4 0 2) :: rest))) : W p l e R s m args below meth c H locs cells slots Q (F0 m pc ls (.ref a :: rest)) := pw_get (C := RX4) (T := TX4) (N := 6) F hw 4 (by decide) (by decide) ha twu_RX4 rfl rfl 2 (by decide) hl (fun _ h => h) rfl hdg kk
theorem p_4_2 (F : CX p m c cc nL s args own) (hw : WW G S s H locs) {idx : Nat} (ha : AtO S 4 0 a) (hl : Cond.fieldLink own idx "ClockAuctions$FallingClock" "step" "J" ∈ wT) {x : Int64} (hdg : decode cc pc = .ok (.putfield idx, 3)) (kk : ∀ (S1 : St) (H1 : Heap) (locs1 : List Loc), S1 = sj S 4 0 2 x → WW G S1 s H1 locs1 → Ext S S1 → W p l e R s m args below meth c H1 locs1 cells slots Q (F0 m (pc + 3) ls rest)) : W p l e R s m args below meth c H locs cells slots Q (F0 m pc ls (.long x :: .ref a :: rest)) :=
  pw_put (C := RX4) (T := TX4) (N := 6) (ty := .long) F hw 4 (by decide) (by decide) ha twu_RX4 tyX4 tyX4_ok nmX4 rfl rfl 2 (by decide) hl (fun _ h => h) rfl (by decide +kernel) rfl rfl (Nat.le_of_ble_eq_true rfl) (S' := sj S 4 0 2 x) (by unfold pcS; rw [row_sj]; rfl) (upd_sj _ _ _ _ _) (wf_same (pw_wf hw.1) rfl rfl) hdg (fun H1 locs1 hw1 hx1 => kk _ H1 locs1 rfl hw1 hx1)
theorem g_4_3 (F : CX p m c cc nL s args own) (hw : WW G S s H locs) {idx : Nat} (ha : AtO S 4 0 a) (hl : Cond.fieldLink own idx "ClockAuctions$FallingClock" "end" "J" ∈ wT) (hdg : decode cc pc = .ok (.getfield idx, 3)) (kk : W p l e R s m args below meth c H locs cells slots Q (F0 m (pc + 3) ls (.long (gj S 4 0 3) :: rest))) : W p l e R s m args below meth c H locs cells slots Q (F0 m pc ls (.ref a :: rest)) := pw_get (C := RX4) (T := TX4) (N := 6) F hw 4 (by decide) (by decide) ha twu_RX4 rfl rfl 3 (by decide) hl (fun _ h => h) rfl hdg kk
theorem p_4_3 (F : CX p m c cc nL s args own) (hw : WW G S s H locs) {idx : Nat} (ha : AtO S 4 0 a) (hl : Cond.fieldLink own idx "ClockAuctions$FallingClock" "end" "J" ∈ wT) {x : Int64} (hdg : decode cc pc = .ok (.putfield idx, 3)) (kk : ∀ (S1 : St) (H1 : Heap) (locs1 : List Loc), S1 = sj S 4 0 3 x → WW G S1 s H1 locs1 → Ext S S1 → W p l e R s m args below meth c H1 locs1 cells slots Q (F0 m (pc + 3) ls rest)) : W p l e R s m args below meth c H locs cells slots Q (F0 m pc ls (.long x :: .ref a :: rest)) :=
  pw_put (C := RX4) (T := TX4) (N := 6) (ty := .long) F hw 4 (by decide) (by decide) ha twu_RX4 tyX4 tyX4_ok nmX4 rfl rfl 3 (by decide) hl (fun _ h => h) rfl (by decide +kernel) rfl rfl (Nat.le_of_ble_eq_true rfl) (S' := sj S 4 0 3 x) (by unfold pcS; rw [row_sj]; rfl) (upd_sj _ _ _ _ _) (wf_same (pw_wf hw.1) rfl rfl) hdg (fun H1 locs1 hw1 hx1 => kk _ H1 locs1 rfl hw1 hx1)
theorem g_4_4 (F : CX p m c cc nL s args own) (hw : WW G S s H locs) {idx : Nat} (ha : AtO S 4 0 a) (hl : Cond.fieldLink own idx "ClockAuctions$FallingClock" "time" "J" ∈ wT) (hdg : decode cc pc = .ok (.getfield idx, 3)) (kk : W p l e R s m args below meth c H locs cells slots Q (F0 m (pc + 3) ls (.long (gj S 4 0 4) :: rest))) : W p l e R s m args below meth c H locs cells slots Q (F0 m pc ls (.ref a :: rest)) := pw_get (C := RX4) (T := TX4) (N := 6) F hw 4 (by decide) (by decide) ha twu_RX4 rfl rfl 4 (by decide) hl (fun _ h => h) rfl hdg kk
theorem p_4_4 (F : CX p m c cc nL s args own) (hw : WW G S s H locs) {idx : Nat} (ha : AtO S 4 0 a) (hl : Cond.fieldLink own idx "ClockAuctions$FallingClock" "time" "J" ∈ wT) {x : Int64} (hdg : decode cc pc = .ok (.putfield idx, 3)) (kk : ∀ (S1 : St) (H1 : Heap) (locs1 : List Loc), S1 = sj S 4 0 4 x → WW G S1 s H1 locs1 → Ext S S1 → W p l e R s m args below meth c H1 locs1 cells slots Q (F0 m (pc + 3) ls rest)) : W p l e R s m args below meth c H locs cells slots Q (F0 m pc ls (.long x :: .ref a :: rest)) :=
  pw_put (C := RX4) (T := TX4) (N := 6) (ty := .long) F hw 4 (by decide) (by decide) ha twu_RX4 tyX4 tyX4_ok nmX4 rfl rfl 4 (by decide) hl (fun _ h => h) rfl (by decide +kernel) rfl rfl (Nat.le_of_ble_eq_true rfl) (S' := sj S 4 0 4 x) (by unfold pcS; rw [row_sj]; rfl) (upd_sj _ _ _ _ _) (wf_same (pw_wf hw.1) rfl rfl) hdg (fun H1 locs1 hw1 hx1 => kk _ H1 locs1 rfl hw1 hx1)
theorem g_4_5 (F : CX p m c cc nL s args own) (hw : WW G S s H locs) {idx : Nat} (ha : AtO S 4 0 a) (hl : Cond.fieldLink own idx "ClockAuctions$FallingClock" "stands" "Z" ∈ wT) (hdg : decode cc pc = .ok (.getfield idx, 3)) (kk : W p l e R s m args below meth c H locs cells slots Q (F0 m (pc + 3) ls (.int (gi S 4 0 5) :: rest))) : W p l e R s m args below meth c H locs cells slots Q (F0 m pc ls (.ref a :: rest)) := pw_get (C := RX4) (T := TX4) (N := 6) F hw 4 (by decide) (by decide) ha twu_RX4 rfl rfl 5 (by decide) hl (fun _ h => h) rfl hdg kk
theorem p_4_5 (F : CX p m c cc nL s args own) (hw : WW G S s H locs) {idx : Nat} (ha : AtO S 4 0 a) (hl : Cond.fieldLink own idx "ClockAuctions$FallingClock" "stands" "Z" ∈ wT) {x : Int32} (hz : bz x) (hdg : decode cc pc = .ok (.putfield idx, 3)) (kk : ∀ (S1 : St) (H1 : Heap) (locs1 : List Loc), S1 = si S 4 0 5 x → WW G S1 s H1 locs1 → Ext S S1 → W p l e R s m args below meth c H1 locs1 cells slots Q (F0 m (pc + 3) ls rest)) : W p l e R s m args below meth c H locs cells slots Q (F0 m pc ls (.int x :: .ref a :: rest)) :=
  pw_put (C := RX4) (T := TX4) (N := 6) (ty := .boolean) F hw 4 (by decide) (by decide) ha twu_RX4 tyX4 tyX4_ok nmX4 rfl rfl 5 (by decide) hl (fun _ h => h) rfl (by decide +kernel) (bz_nar hz) (bz_fit hz) (Nat.le_of_ble_eq_true rfl) (S' := si S 4 0 5 x) (by unfold pcS; rw [row_si]; rfl) (upd_si _ _ _ _ _) (wf_same (pw_wf hw.1) rfl rfl) hdg (fun H1 locs1 hw1 hx1 => kk _ H1 locs1 rfl hw1 hx1)
theorem g_5_0 (F : CX p m c cc nL s args own) (hw : WW G S s H locs) {idx : Nat} (ha : AtO S 5 j a) (hl : Cond.fieldLink own idx "ClockAuctions$Lot" "number" "I" ∈ wT) (hdg : decode cc pc = .ok (.getfield idx, 3)) (kk : W p l e R s m args below meth c H locs cells slots Q (F0 m (pc + 3) ls (.int (gi S 5 j 0) :: rest))) : W p l e R s m args below meth c H locs cells slots Q (F0 m pc ls (.ref a :: rest)) := pw_get (C := RX5) (T := TX5) (N := 12) F hw 5 (by decide) (by decide) ha twu_RX5 rfl rfl 0 (by decide) hl (fun _ h => h) rfl hdg kk
theorem p_5_0 (F : CX p m c cc nL s args own) (hw : WW G S s H locs) {idx : Nat} (ha : AtO S 5 j a) (hl : Cond.fieldLink own idx "ClockAuctions$Lot" "number" "I" ∈ wT) {x : Int32} (hdg : decode cc pc = .ok (.putfield idx, 3)) (kk : ∀ (S1 : St) (H1 : Heap) (locs1 : List Loc), S1 = si S 5 j 0 x → WW G S1 s H1 locs1 → Ext S S1 → W p l e R s m args below meth c H1 locs1 cells slots Q (F0 m (pc + 3) ls rest)) (hin : meth.name = "<init>") (ho : own = RX5) : W p l e R s m args below meth c H locs cells slots Q (F0 m pc ls (.int x :: .ref a :: rest)) :=
  pw_putF (C := RX5) (T := TX5) (N := 12) (ty := .int) F hw 5 (by decide) (by decide) ha twu_RX5 tyX5 tyX5_ok nmX5 rfl rfl 0 (by decide) hl (fun _ h => h) rfl hin (by rw [ho]; rfl) (by decide +kernel) rfl rfl (Nat.le_of_ble_eq_true rfl) (S' := si S 5 j 0 x) (by unfold pcS; rw [row_si]; rfl) (upd_si _ _ _ _ _) (wf_same (pw_wf hw.1) rfl rfl) hdg (fun H1 locs1 hw1 hx1 => kk _ H1 locs1 rfl hw1 hx1)
theorem g_5_1 (F : CX p m c cc nL s args own) (hw : WW G S s H locs) {idx : Nat} (ha : AtO S 5 j a) (hl : Cond.fieldLink own idx "ClockAuctions$Lot" "kind" "I" ∈ wT) (hdg : decode cc pc = .ok (.getfield idx, 3)) (kk : W p l e R s m args below meth c H locs cells slots Q (F0 m (pc + 3) ls (.int (gi S 5 j 1) :: rest))) : W p l e R s m args below meth c H locs cells slots Q (F0 m pc ls (.ref a :: rest)) := pw_get (C := RX5) (T := TX5) (N := 12) F hw 5 (by decide) (by decide) ha twu_RX5 rfl rfl 1 (by decide) hl (fun _ h => h) rfl hdg kk
theorem p_5_1 (F : CX p m c cc nL s args own) (hw : WW G S s H locs) {idx : Nat} (ha : AtO S 5 j a) (hl : Cond.fieldLink own idx "ClockAuctions$Lot" "kind" "I" ∈ wT) {x : Int32} (hdg : decode cc pc = .ok (.putfield idx, 3)) (kk : ∀ (S1 : St) (H1 : Heap) (locs1 : List Loc), S1 = si S 5 j 1 x → WW G S1 s H1 locs1 → Ext S S1 → W p l e R s m args below meth c H1 locs1 cells slots Q (F0 m (pc + 3) ls rest)) (hin : meth.name = "<init>") (ho : own = RX5) : W p l e R s m args below meth c H locs cells slots Q (F0 m pc ls (.int x :: .ref a :: rest)) :=
  pw_putF (C := RX5) (T := TX5) (N := 12) (ty := .int) F hw 5 (by decide) (by decide) ha twu_RX5 tyX5 tyX5_ok nmX5 rfl rfl 1 (by decide) hl (fun _ h => h) rfl hin (by rw [ho]; rfl) (by decide +kernel) rfl rfl (Nat.le_of_ble_eq_true rfl) (S' := si S 5 j 1 x) (by unfold pcS; rw [row_si]; rfl) (upd_si _ _ _ _ _) (wf_same (pw_wf hw.1) rfl rfl) hdg (fun H1 locs1 hw1 hx1 => kk _ H1 locs1 rfl hw1 hx1)
theorem g_5_2 (F : CX p m c cc nL s args own) (hw : WW G S s H locs) {idx : Nat} (ha : AtO S 5 j a) (hl : Cond.fieldLink own idx "ClockAuctions$Lot" "grams" "J" ∈ wT) (hdg : decode cc pc = .ok (.getfield idx, 3)) (kk : W p l e R s m args below meth c H locs cells slots Q (F0 m (pc + 3) ls (.long (gj S 5 j 2) :: rest))) : W p l e R s m args below meth c H locs cells slots Q (F0 m pc ls (.ref a :: rest)) := pw_get (C := RX5) (T := TX5) (N := 12) F hw 5 (by decide) (by decide) ha twu_RX5 rfl rfl 2 (by decide) hl (fun _ h => h) rfl hdg kk
theorem p_5_2 (F : CX p m c cc nL s args own) (hw : WW G S s H locs) {idx : Nat} (ha : AtO S 5 j a) (hl : Cond.fieldLink own idx "ClockAuctions$Lot" "grams" "J" ∈ wT) {x : Int64} (hdg : decode cc pc = .ok (.putfield idx, 3)) (kk : ∀ (S1 : St) (H1 : Heap) (locs1 : List Loc), S1 = sj S 5 j 2 x → WW G S1 s H1 locs1 → Ext S S1 → W p l e R s m args below meth c H1 locs1 cells slots Q (F0 m (pc + 3) ls rest)) : W p l e R s m args below meth c H locs cells slots Q (F0 m pc ls (.long x :: .ref a :: rest)) :=
  pw_put (C := RX5) (T := TX5) (N := 12) (ty := .long) F hw 5 (by decide) (by decide) ha twu_RX5 tyX5 tyX5_ok nmX5 rfl rfl 2 (by decide) hl (fun _ h => h) rfl (by decide +kernel) rfl rfl (Nat.le_of_ble_eq_true rfl) (S' := sj S 5 j 2 x) (by unfold pcS; rw [row_sj]; rfl) (upd_sj _ _ _ _ _) (wf_same (pw_wf hw.1) rfl rfl) hdg (fun H1 locs1 hw1 hx1 => kk _ H1 locs1 rfl hw1 hx1)
theorem g_5_3 (F : CX p m c cc nL s args own) (hw : WW G S s H locs) {idx : Nat} (ha : AtO S 5 j a) (hl : Cond.fieldLink own idx "ClockAuctions$Lot" "reserve" "J" ∈ wT) (hdg : decode cc pc = .ok (.getfield idx, 3)) (kk : W p l e R s m args below meth c H locs cells slots Q (F0 m (pc + 3) ls (.long (gj S 5 j 3) :: rest))) : W p l e R s m args below meth c H locs cells slots Q (F0 m pc ls (.ref a :: rest)) := pw_get (C := RX5) (T := TX5) (N := 12) F hw 5 (by decide) (by decide) ha twu_RX5 rfl rfl 3 (by decide) hl (fun _ h => h) rfl hdg kk
theorem p_5_3 (F : CX p m c cc nL s args own) (hw : WW G S s H locs) {idx : Nat} (ha : AtO S 5 j a) (hl : Cond.fieldLink own idx "ClockAuctions$Lot" "reserve" "J" ∈ wT) {x : Int64} (hdg : decode cc pc = .ok (.putfield idx, 3)) (kk : ∀ (S1 : St) (H1 : Heap) (locs1 : List Loc), S1 = sj S 5 j 3 x → WW G S1 s H1 locs1 → Ext S S1 → W p l e R s m args below meth c H1 locs1 cells slots Q (F0 m (pc + 3) ls rest)) : W p l e R s m args below meth c H locs cells slots Q (F0 m pc ls (.long x :: .ref a :: rest)) :=
  pw_put (C := RX5) (T := TX5) (N := 12) (ty := .long) F hw 5 (by decide) (by decide) ha twu_RX5 tyX5 tyX5_ok nmX5 rfl rfl 3 (by decide) hl (fun _ h => h) rfl (by decide +kernel) rfl rfl (Nat.le_of_ble_eq_true rfl) (S' := sj S 5 j 3 x) (by unfold pcS; rw [row_sj]; rfl) (upd_sj _ _ _ _ _) (wf_same (pw_wf hw.1) rfl rfl) hdg (fun H1 locs1 hw1 hx1 => kk _ H1 locs1 rfl hw1 hx1)
theorem g_5_4 (F : CX p m c cc nL s args own) (hw : WW G S s H locs) {idx : Nat} (ha : AtO S 5 j a) (hl : Cond.fieldLink own idx "ClockAuctions$Lot" "state" "LClockAuctions$State;" ∈ wT) (hdg : decode cc pc = .ok (.getfield idx, 3)) (kk : W p l e R s m args below meth c H locs cells slots Q (F0 m (pc + 3) ls (va_rf (Option.map G.2.2.2 (gr S 5 j 4)) :: rest))) : W p l e R s m args below meth c H locs cells slots Q (F0 m pc ls (.ref a :: rest)) := pw_get (C := RX5) (T := TX5) (N := 12) F hw 5 (by decide) (by decide) ha twu_RX5 rfl rfl 4 (by decide) hl (fun _ h => h) rfl hdg kk
theorem p_5_4 (F : CX p m c cc nL s args own) (hw : WW G S s H locs) {idx : Nat} (ha : AtO S 5 j a) (hl : Cond.fieldLink own idx "ClockAuctions$Lot" "state" "LClockAuctions$State;" ∈ wT) {i : Nat} (hi : i < 6) (hdg : decode cc pc = .ok (.putfield idx, 3)) (kk : ∀ (S1 : St) (H1 : Heap) (locs1 : List Loc), S1 = sr S 5 j 4 (some i) → WW G S1 s H1 locs1 → Ext S S1 → W p l e R s m args below meth c H1 locs1 cells slots Q (F0 m (pc + 3) ls rest)) : W p l e R s m args below meth c H locs cells slots Q (F0 m pc ls (va_rf (Option.map G.2.2.2 (some i)) :: .ref a :: rest)) :=
  pw_put (C := RX5) (T := TX5) (N := 12) (ty := .object "ClockAuctions$State") F hw 5 (by decide) (by decide) ha twu_RX5 tyX5 tyX5_ok nmX5 rfl rfl 4 (by decide) hl (fun _ h => h) rfl (by decide +kernel) rfl rfl (Nat.le_of_ble_eq_true rfl) (S' := sr S 5 j 4 (some i)) (by unfold pcS; rw [row_sr]; rfl) (upd_sr _ _ _ _ _) (wf_sr (pw_wf hw.1) (fun q hq => by cases hq; exact hi)) hdg (fun H1 locs1 hw1 hx1 => kk _ H1 locs1 rfl hw1 hx1)
theorem g_5_5 (F : CX p m c cc nL s args own) (hw : WW G S s H locs) {idx : Nat} (ha : AtO S 5 j a) (hl : Cond.fieldLink own idx "ClockAuctions$Lot" "taker" "I" ∈ wT) (hdg : decode cc pc = .ok (.getfield idx, 3)) (kk : W p l e R s m args below meth c H locs cells slots Q (F0 m (pc + 3) ls (.int (gi S 5 j 5) :: rest))) : W p l e R s m args below meth c H locs cells slots Q (F0 m pc ls (.ref a :: rest)) := pw_get (C := RX5) (T := TX5) (N := 12) F hw 5 (by decide) (by decide) ha twu_RX5 rfl rfl 5 (by decide) hl (fun _ h => h) rfl hdg kk
theorem p_5_5 (F : CX p m c cc nL s args own) (hw : WW G S s H locs) {idx : Nat} (ha : AtO S 5 j a) (hl : Cond.fieldLink own idx "ClockAuctions$Lot" "taker" "I" ∈ wT) {x : Int32} (hdg : decode cc pc = .ok (.putfield idx, 3)) (kk : ∀ (S1 : St) (H1 : Heap) (locs1 : List Loc), S1 = si S 5 j 5 x → WW G S1 s H1 locs1 → Ext S S1 → W p l e R s m args below meth c H1 locs1 cells slots Q (F0 m (pc + 3) ls rest)) : W p l e R s m args below meth c H locs cells slots Q (F0 m pc ls (.int x :: .ref a :: rest)) :=
  pw_put (C := RX5) (T := TX5) (N := 12) (ty := .int) F hw 5 (by decide) (by decide) ha twu_RX5 tyX5 tyX5_ok nmX5 rfl rfl 5 (by decide) hl (fun _ h => h) rfl (by decide +kernel) rfl rfl (Nat.le_of_ble_eq_true rfl) (S' := si S 5 j 5 x) (by unfold pcS; rw [row_si]; rfl) (upd_si _ _ _ _ _) (wf_same (pw_wf hw.1) rfl rfl) hdg (fun H1 locs1 hw1 hx1 => kk _ H1 locs1 rfl hw1 hx1)
theorem g_5_6 (F : CX p m c cc nL s args own) (hw : WW G S s H locs) {idx : Nat} (ha : AtO S 5 j a) (hl : Cond.fieldLink own idx "ClockAuctions$Lot" "cents" "J" ∈ wT) (hdg : decode cc pc = .ok (.getfield idx, 3)) (kk : W p l e R s m args below meth c H locs cells slots Q (F0 m (pc + 3) ls (.long (gj S 5 j 6) :: rest))) : W p l e R s m args below meth c H locs cells slots Q (F0 m pc ls (.ref a :: rest)) := pw_get (C := RX5) (T := TX5) (N := 12) F hw 5 (by decide) (by decide) ha twu_RX5 rfl rfl 6 (by decide) hl (fun _ h => h) rfl hdg kk
theorem p_5_6 (F : CX p m c cc nL s args own) (hw : WW G S s H locs) {idx : Nat} (ha : AtO S 5 j a) (hl : Cond.fieldLink own idx "ClockAuctions$Lot" "cents" "J" ∈ wT) {x : Int64} (hdg : decode cc pc = .ok (.putfield idx, 3)) (kk : ∀ (S1 : St) (H1 : Heap) (locs1 : List Loc), S1 = sj S 5 j 6 x → WW G S1 s H1 locs1 → Ext S S1 → W p l e R s m args below meth c H1 locs1 cells slots Q (F0 m (pc + 3) ls rest)) : W p l e R s m args below meth c H locs cells slots Q (F0 m pc ls (.long x :: .ref a :: rest)) :=
  pw_put (C := RX5) (T := TX5) (N := 12) (ty := .long) F hw 5 (by decide) (by decide) ha twu_RX5 tyX5 tyX5_ok nmX5 rfl rfl 6 (by decide) hl (fun _ h => h) rfl (by decide +kernel) rfl rfl (Nat.le_of_ble_eq_true rfl) (S' := sj S 5 j 6 x) (by unfold pcS; rw [row_sj]; rfl) (upd_sj _ _ _ _ _) (wf_same (pw_wf hw.1) rfl rfl) hdg (fun H1 locs1 hw1 hx1 => kk _ H1 locs1 rfl hw1 hx1)
theorem g_5_7 (F : CX p m c cc nL s args own) (hw : WW G S s H locs) {idx : Nat} (ha : AtO S 5 j a) (hl : Cond.fieldLink own idx "ClockAuctions$Lot" "offeredOn" "J" ∈ wT) (hdg : decode cc pc = .ok (.getfield idx, 3)) (kk : W p l e R s m args below meth c H locs cells slots Q (F0 m (pc + 3) ls (.long (gj S 5 j 7) :: rest))) : W p l e R s m args below meth c H locs cells slots Q (F0 m pc ls (.ref a :: rest)) := pw_get (C := RX5) (T := TX5) (N := 12) F hw 5 (by decide) (by decide) ha twu_RX5 rfl rfl 7 (by decide) hl (fun _ h => h) rfl hdg kk
theorem p_5_7 (F : CX p m c cc nL s args own) (hw : WW G S s H locs) {idx : Nat} (ha : AtO S 5 j a) (hl : Cond.fieldLink own idx "ClockAuctions$Lot" "offeredOn" "J" ∈ wT) {x : Int64} (hdg : decode cc pc = .ok (.putfield idx, 3)) (kk : ∀ (S1 : St) (H1 : Heap) (locs1 : List Loc), S1 = sj S 5 j 7 x → WW G S1 s H1 locs1 → Ext S S1 → W p l e R s m args below meth c H1 locs1 cells slots Q (F0 m (pc + 3) ls rest)) : W p l e R s m args below meth c H locs cells slots Q (F0 m pc ls (.long x :: .ref a :: rest)) :=
  pw_put (C := RX5) (T := TX5) (N := 12) (ty := .long) F hw 5 (by decide) (by decide) ha twu_RX5 tyX5 tyX5_ok nmX5 rfl rfl 7 (by decide) hl (fun _ h => h) rfl (by decide +kernel) rfl rfl (Nat.le_of_ble_eq_true rfl) (S' := sj S 5 j 7 x) (by unfold pcS; rw [row_sj]; rfl) (upd_sj _ _ _ _ _) (wf_same (pw_wf hw.1) rfl rfl) hdg (fun H1 locs1 hw1 hx1 => kk _ H1 locs1 rfl hw1 hx1)
theorem g_5_8 (F : CX p m c cc nL s args own) (hw : WW G S s H locs) {idx : Nat} (ha : AtO S 5 j a) (hl : Cond.fieldLink own idx "ClockAuctions$Lot" "soldByClock" "Z" ∈ wT) (hdg : decode cc pc = .ok (.getfield idx, 3)) (kk : W p l e R s m args below meth c H locs cells slots Q (F0 m (pc + 3) ls (.int (gi S 5 j 8) :: rest))) : W p l e R s m args below meth c H locs cells slots Q (F0 m pc ls (.ref a :: rest)) := pw_get (C := RX5) (T := TX5) (N := 12) F hw 5 (by decide) (by decide) ha twu_RX5 rfl rfl 8 (by decide) hl (fun _ h => h) rfl hdg kk
theorem p_5_8 (F : CX p m c cc nL s args own) (hw : WW G S s H locs) {idx : Nat} (ha : AtO S 5 j a) (hl : Cond.fieldLink own idx "ClockAuctions$Lot" "soldByClock" "Z" ∈ wT) {x : Int32} (hz : bz x) (hdg : decode cc pc = .ok (.putfield idx, 3)) (kk : ∀ (S1 : St) (H1 : Heap) (locs1 : List Loc), S1 = si S 5 j 8 x → WW G S1 s H1 locs1 → Ext S S1 → W p l e R s m args below meth c H1 locs1 cells slots Q (F0 m (pc + 3) ls rest)) : W p l e R s m args below meth c H locs cells slots Q (F0 m pc ls (.int x :: .ref a :: rest)) :=
  pw_put (C := RX5) (T := TX5) (N := 12) (ty := .boolean) F hw 5 (by decide) (by decide) ha twu_RX5 tyX5 tyX5_ok nmX5 rfl rfl 8 (by decide) hl (fun _ h => h) rfl (by decide +kernel) (bz_nar hz) (bz_fit hz) (Nat.le_of_ble_eq_true rfl) (S' := si S 5 j 8 x) (by unfold pcS; rw [row_si]; rfl) (upd_si _ _ _ _ _) (wf_same (pw_wf hw.1) rfl rfl) hdg (fun H1 locs1 hw1 hx1 => kk _ H1 locs1 rfl hw1 hx1)
theorem g_5_9 (F : CX p m c cc nL s args own) (hw : WW G S s H locs) {idx : Nat} (ha : AtO S 5 j a) (hl : Cond.fieldLink own idx "ClockAuctions$Lot" "parted" "Z" ∈ wT) (hdg : decode cc pc = .ok (.getfield idx, 3)) (kk : W p l e R s m args below meth c H locs cells slots Q (F0 m (pc + 3) ls (.int (gi S 5 j 9) :: rest))) : W p l e R s m args below meth c H locs cells slots Q (F0 m pc ls (.ref a :: rest)) := pw_get (C := RX5) (T := TX5) (N := 12) F hw 5 (by decide) (by decide) ha twu_RX5 rfl rfl 9 (by decide) hl (fun _ h => h) rfl hdg kk
theorem p_5_9 (F : CX p m c cc nL s args own) (hw : WW G S s H locs) {idx : Nat} (ha : AtO S 5 j a) (hl : Cond.fieldLink own idx "ClockAuctions$Lot" "parted" "Z" ∈ wT) {x : Int32} (hz : bz x) (hdg : decode cc pc = .ok (.putfield idx, 3)) (kk : ∀ (S1 : St) (H1 : Heap) (locs1 : List Loc), S1 = si S 5 j 9 x → WW G S1 s H1 locs1 → Ext S S1 → W p l e R s m args below meth c H1 locs1 cells slots Q (F0 m (pc + 3) ls rest)) : W p l e R s m args below meth c H locs cells slots Q (F0 m pc ls (.int x :: .ref a :: rest)) :=
  pw_put (C := RX5) (T := TX5) (N := 12) (ty := .boolean) F hw 5 (by decide) (by decide) ha twu_RX5 tyX5 tyX5_ok nmX5 rfl rfl 9 (by decide) hl (fun _ h => h) rfl (by decide +kernel) (bz_nar hz) (bz_fit hz) (Nat.le_of_ble_eq_true rfl) (S' := si S 5 j 9 x) (by unfold pcS; rw [row_si]; rfl) (upd_si _ _ _ _ _) (wf_same (pw_wf hw.1) rfl rfl) hdg (fun H1 locs1 hw1 hx1 => kk _ H1 locs1 rfl hw1 hx1)
theorem g_5_10 (F : CX p m c cc nL s args own) (hw : WW G S s H locs) {idx : Nat} (ha : AtO S 5 j a) (hl : Cond.fieldLink own idx "ClockAuctions$Lot" "reopened" "Z" ∈ wT) (hdg : decode cc pc = .ok (.getfield idx, 3)) (kk : W p l e R s m args below meth c H locs cells slots Q (F0 m (pc + 3) ls (.int (gi S 5 j 10) :: rest))) : W p l e R s m args below meth c H locs cells slots Q (F0 m pc ls (.ref a :: rest)) := pw_get (C := RX5) (T := TX5) (N := 12) F hw 5 (by decide) (by decide) ha twu_RX5 rfl rfl 10 (by decide) hl (fun _ h => h) rfl hdg kk
theorem p_5_10 (F : CX p m c cc nL s args own) (hw : WW G S s H locs) {idx : Nat} (ha : AtO S 5 j a) (hl : Cond.fieldLink own idx "ClockAuctions$Lot" "reopened" "Z" ∈ wT) {x : Int32} (hz : bz x) (hdg : decode cc pc = .ok (.putfield idx, 3)) (kk : ∀ (S1 : St) (H1 : Heap) (locs1 : List Loc), S1 = si S 5 j 10 x → WW G S1 s H1 locs1 → Ext S S1 → W p l e R s m args below meth c H1 locs1 cells slots Q (F0 m (pc + 3) ls rest)) : W p l e R s m args below meth c H locs cells slots Q (F0 m pc ls (.int x :: .ref a :: rest)) :=
  pw_put (C := RX5) (T := TX5) (N := 12) (ty := .boolean) F hw 5 (by decide) (by decide) ha twu_RX5 tyX5 tyX5_ok nmX5 rfl rfl 10 (by decide) hl (fun _ h => h) rfl (by decide +kernel) (bz_nar hz) (bz_fit hz) (Nat.le_of_ble_eq_true rfl) (S' := si S 5 j 10 x) (by unfold pcS; rw [row_si]; rfl) (upd_si _ _ _ _ _) (wf_same (pw_wf hw.1) rfl rfl) hdg (fun H1 locs1 hw1 hx1 => kk _ H1 locs1 rfl hw1 hx1)
theorem g_5_11 (F : CX p m c cc nL s args own) (hw : WW G S s H locs) {idx : Nat} (ha : AtO S 5 j a) (hl : Cond.fieldLink own idx "ClockAuctions$Lot" "tied" "I" ∈ wT) (hdg : decode cc pc = .ok (.getfield idx, 3)) (kk : W p l e R s m args below meth c H locs cells slots Q (F0 m (pc + 3) ls (.int (gi S 5 j 11) :: rest))) : W p l e R s m args below meth c H locs cells slots Q (F0 m pc ls (.ref a :: rest)) := pw_get (C := RX5) (T := TX5) (N := 12) F hw 5 (by decide) (by decide) ha twu_RX5 rfl rfl 11 (by decide) hl (fun _ h => h) rfl hdg kk
theorem p_5_11 (F : CX p m c cc nL s args own) (hw : WW G S s H locs) {idx : Nat} (ha : AtO S 5 j a) (hl : Cond.fieldLink own idx "ClockAuctions$Lot" "tied" "I" ∈ wT) {x : Int32} (hdg : decode cc pc = .ok (.putfield idx, 3)) (kk : ∀ (S1 : St) (H1 : Heap) (locs1 : List Loc), S1 = si S 5 j 11 x → WW G S1 s H1 locs1 → Ext S S1 → W p l e R s m args below meth c H1 locs1 cells slots Q (F0 m (pc + 3) ls rest)) : W p l e R s m args below meth c H locs cells slots Q (F0 m pc ls (.int x :: .ref a :: rest)) :=
  pw_put (C := RX5) (T := TX5) (N := 12) (ty := .int) F hw 5 (by decide) (by decide) ha twu_RX5 tyX5 tyX5_ok nmX5 rfl rfl 11 (by decide) hl (fun _ h => h) rfl (by decide +kernel) rfl rfl (Nat.le_of_ble_eq_true rfl) (S' := si S 5 j 11 x) (by unfold pcS; rw [row_si]; rfl) (upd_si _ _ _ _ _) (wf_same (pw_wf hw.1) rfl rfl) hdg (fun H1 locs1 hw1 hx1 => kk _ H1 locs1 rfl hw1 hx1)
theorem g_6_0 (F : CX p m c cc nL s args own) (hw : WW G S s H locs) {idx : Nat} (ha : AtO S 6 0 a) (hl : Cond.fieldLink own idx "ClockAuctions$SetSearch" "good" "[LClockAuctions$Bid;" ∈ wT) (hdg : decode cc pc = .ok (.getfield idx, 3)) (kk : ∀ a2 : Nat, AtO S 14 0 a2 → W p l e R s m args below meth c H locs cells slots Q (F0 m (pc + 3) ls (.ref a2 :: rest))) : W p l e R s m args below meth c H locs cells slots Q (F0 m pc ls (.ref a :: rest)) := pw_get (C := RX6) (T := TX6) (N := 6) F hw 6 (by decide) (by decide) ha twu_RX6 rfl rfl 0 (by decide) hl (fun _ h => h) rfl hdg (kk _ ⟨hw.1.2.2.2.2.1 14 (by unfold pwFix; decide), rfl⟩)
theorem g_6_1 (F : CX p m c cc nL s args own) (hw : WW G S s H locs) {idx : Nat} (ha : AtO S 6 0 a) (hl : Cond.fieldLink own idx "ClockAuctions$SetSearch" "restSums" "[J" ∈ wT) (hdg : decode cc pc = .ok (.getfield idx, 3)) (kk : ∀ a2 : Nat, AtO S 15 0 a2 → W p l e R s m args below meth c H locs cells slots Q (F0 m (pc + 3) ls (.ref a2 :: rest))) : W p l e R s m args below meth c H locs cells slots Q (F0 m pc ls (.ref a :: rest)) := pw_get (C := RX6) (T := TX6) (N := 6) F hw 6 (by decide) (by decide) ha twu_RX6 rfl rfl 1 (by decide) hl (fun _ h => h) rfl hdg (kk _ ⟨hw.1.2.2.2.2.1 15 (by unfold pwFix; decide), rfl⟩)
theorem g_6_2 (F : CX p m c cc nL s args own) (hw : WW G S s H locs) {idx : Nat} (ha : AtO S 6 0 a) (hl : Cond.fieldLink own idx "ClockAuctions$SetSearch" "purses" "[J" ∈ wT) (hdg : decode cc pc = .ok (.getfield idx, 3)) (kk : ∀ a2 : Nat, AtO S 16 0 a2 → W p l e R s m args below meth c H locs cells slots Q (F0 m (pc + 3) ls (.ref a2 :: rest))) : W p l e R s m args below meth c H locs cells slots Q (F0 m pc ls (.ref a :: rest)) := pw_get (C := RX6) (T := TX6) (N := 6) F hw 6 (by decide) (by decide) ha twu_RX6 rfl rfl 2 (by decide) hl (fun _ h => h) rfl hdg (kk _ ⟨hw.1.2.2.2.2.1 16 (by unfold pwFix; decide), rfl⟩)
theorem g_6_3 (F : CX p m c cc nL s args own) (hw : WW G S s H locs) {idx : Nat} (ha : AtO S 6 0 a) (hl : Cond.fieldLink own idx "ClockAuctions$SetSearch" "count" "I" ∈ wT) (hdg : decode cc pc = .ok (.getfield idx, 3)) (kk : W p l e R s m args below meth c H locs cells slots Q (F0 m (pc + 3) ls (.int (gi S 6 0 3) :: rest))) : W p l e R s m args below meth c H locs cells slots Q (F0 m pc ls (.ref a :: rest)) := pw_get (C := RX6) (T := TX6) (N := 6) F hw 6 (by decide) (by decide) ha twu_RX6 rfl rfl 3 (by decide) hl (fun _ h => h) rfl hdg kk
theorem p_6_3 (F : CX p m c cc nL s args own) (hw : WW G S s H locs) {idx : Nat} (ha : AtO S 6 0 a) (hl : Cond.fieldLink own idx "ClockAuctions$SetSearch" "count" "I" ∈ wT) {x : Int32} (hdg : decode cc pc = .ok (.putfield idx, 3)) (kk : ∀ (S1 : St) (H1 : Heap) (locs1 : List Loc), S1 = si S 6 0 3 x → WW G S1 s H1 locs1 → Ext S S1 → W p l e R s m args below meth c H1 locs1 cells slots Q (F0 m (pc + 3) ls rest)) : W p l e R s m args below meth c H locs cells slots Q (F0 m pc ls (.int x :: .ref a :: rest)) :=
  pw_put (C := RX6) (T := TX6) (N := 6) (ty := .int) F hw 6 (by decide) (by decide) ha twu_RX6 tyX6 tyX6_ok nmX6 rfl rfl 3 (by decide) hl (fun _ h => h) rfl (by decide +kernel) rfl rfl (Nat.le_of_ble_eq_true rfl) (S' := si S 6 0 3 x) (by unfold pcS; rw [row_si]; rfl) (upd_si _ _ _ _ _) (wf_same (pw_wf hw.1) rfl rfl) hdg (fun H1 locs1 hw1 hx1 => kk _ H1 locs1 rfl hw1 hx1)
theorem g_6_4 (F : CX p m c cc nL s args own) (hw : WW G S s H locs) {idx : Nat} (ha : AtO S 6 0 a) (hl : Cond.fieldLink own idx "ClockAuctions$SetSearch" "bestChosen" "I" ∈ wT) (hdg : decode cc pc = .ok (.getfield idx, 3)) (kk : W p l e R s m args below meth c H locs cells slots Q (F0 m (pc + 3) ls (.int (gi S 6 0 4) :: rest))) : W p l e R s m args below meth c H locs cells slots Q (F0 m pc ls (.ref a :: rest)) := pw_get (C := RX6) (T := TX6) (N := 6) F hw 6 (by decide) (by decide) ha twu_RX6 rfl rfl 4 (by decide) hl (fun _ h => h) rfl hdg kk
theorem p_6_4 (F : CX p m c cc nL s args own) (hw : WW G S s H locs) {idx : Nat} (ha : AtO S 6 0 a) (hl : Cond.fieldLink own idx "ClockAuctions$SetSearch" "bestChosen" "I" ∈ wT) {x : Int32} (hdg : decode cc pc = .ok (.putfield idx, 3)) (kk : ∀ (S1 : St) (H1 : Heap) (locs1 : List Loc), S1 = si S 6 0 4 x → WW G S1 s H1 locs1 → Ext S S1 → W p l e R s m args below meth c H1 locs1 cells slots Q (F0 m (pc + 3) ls rest)) : W p l e R s m args below meth c H locs cells slots Q (F0 m pc ls (.int x :: .ref a :: rest)) :=
  pw_put (C := RX6) (T := TX6) (N := 6) (ty := .int) F hw 6 (by decide) (by decide) ha twu_RX6 tyX6 tyX6_ok nmX6 rfl rfl 4 (by decide) hl (fun _ h => h) rfl (by decide +kernel) rfl rfl (Nat.le_of_ble_eq_true rfl) (S' := si S 6 0 4 x) (by unfold pcS; rw [row_si]; rfl) (upd_si _ _ _ _ _) (wf_same (pw_wf hw.1) rfl rfl) hdg (fun H1 locs1 hw1 hx1 => kk _ H1 locs1 rfl hw1 hx1)
theorem g_6_5 (F : CX p m c cc nL s args own) (hw : WW G S s H locs) {idx : Nat} (ha : AtO S 6 0 a) (hl : Cond.fieldLink own idx "ClockAuctions$SetSearch" "bestSum" "J" ∈ wT) (hdg : decode cc pc = .ok (.getfield idx, 3)) (kk : W p l e R s m args below meth c H locs cells slots Q (F0 m (pc + 3) ls (.long (gj S 6 0 5) :: rest))) : W p l e R s m args below meth c H locs cells slots Q (F0 m pc ls (.ref a :: rest)) := pw_get (C := RX6) (T := TX6) (N := 6) F hw 6 (by decide) (by decide) ha twu_RX6 rfl rfl 5 (by decide) hl (fun _ h => h) rfl hdg kk
theorem p_6_5 (F : CX p m c cc nL s args own) (hw : WW G S s H locs) {idx : Nat} (ha : AtO S 6 0 a) (hl : Cond.fieldLink own idx "ClockAuctions$SetSearch" "bestSum" "J" ∈ wT) {x : Int64} (hdg : decode cc pc = .ok (.putfield idx, 3)) (kk : ∀ (S1 : St) (H1 : Heap) (locs1 : List Loc), S1 = sj S 6 0 5 x → WW G S1 s H1 locs1 → Ext S S1 → W p l e R s m args below meth c H1 locs1 cells slots Q (F0 m (pc + 3) ls rest)) : W p l e R s m args below meth c H locs cells slots Q (F0 m pc ls (.long x :: .ref a :: rest)) :=
  pw_put (C := RX6) (T := TX6) (N := 6) (ty := .long) F hw 6 (by decide) (by decide) ha twu_RX6 tyX6 tyX6_ok nmX6 rfl rfl 5 (by decide) hl (fun _ h => h) rfl (by decide +kernel) rfl rfl (Nat.le_of_ble_eq_true rfl) (S' := sj S 6 0 5 x) (by unfold pcS; rw [row_sj]; rfl) (upd_sj _ _ _ _ _) (wf_same (pw_wf hw.1) rfl rfl) hdg (fun H1 locs1 hw1 hx1 => kk _ H1 locs1 rfl hw1 hx1)
theorem g_7_0 (F : CX p m c cc nL s args own) (hw : WW G S s H locs) {idx : Nat} (ha : AtO S 7 0 a) (hl : Cond.fieldLink own idx "ClockAuctions" "lots" "[LClockAuctions$Lot;" ∈ wT) (hdg : decode cc pc = .ok (.getfield idx, 3)) (kk : ∀ a2 : Nat, AtO S 10 0 a2 → W p l e R s m args below meth c H locs cells slots Q (F0 m (pc + 3) ls (.ref a2 :: rest))) : W p l e R s m args below meth c H locs cells slots Q (F0 m pc ls (.ref a :: rest)) := pw_get (C := RX8) (T := TX8) (N := 11) F hw 7 (by decide) (by decide) ha twu_RX8 rfl rfl 0 (by decide) hl (fun _ h => h) rfl hdg (kk _ ⟨hw.1.2.2.2.2.1 10 (by unfold pwFix; decide), rfl⟩)
theorem g_7_1 (F : CX p m c cc nL s args own) (hw : WW G S s H locs) {idx : Nat} (ha : AtO S 7 0 a) (hl : Cond.fieldLink own idx "ClockAuctions" "buyers" "[LClockAuctions$Buyer;" ∈ wT) (hdg : decode cc pc = .ok (.getfield idx, 3)) (kk : ∀ a2 : Nat, AtO S 11 0 a2 → W p l e R s m args below meth c H locs cells slots Q (F0 m (pc + 3) ls (.ref a2 :: rest))) : W p l e R s m args below meth c H locs cells slots Q (F0 m pc ls (.ref a :: rest)) := pw_get (C := RX8) (T := TX8) (N := 11) F hw 7 (by decide) (by decide) ha twu_RX8 rfl rfl 1 (by decide) hl (fun _ h => h) rfl hdg (kk _ ⟨hw.1.2.2.2.2.1 11 (by unfold pwFix; decide), rfl⟩)
theorem g_7_2 (F : CX p m c cc nL s args own) (hw : WW G S s H locs) {idx : Nat} (ha : AtO S 7 0 a) (hl : Cond.fieldLink own idx "ClockAuctions" "bids" "[LClockAuctions$Bid;" ∈ wT) (hdg : decode cc pc = .ok (.getfield idx, 3)) (kk : ∀ a2 : Nat, AtO S 12 0 a2 → W p l e R s m args below meth c H locs cells slots Q (F0 m (pc + 3) ls (.ref a2 :: rest))) : W p l e R s m args below meth c H locs cells slots Q (F0 m pc ls (.ref a :: rest)) := pw_get (C := RX8) (T := TX8) (N := 11) F hw 7 (by decide) (by decide) ha twu_RX8 rfl rfl 2 (by decide) hl (fun _ h => h) rfl hdg (kk _ ⟨hw.1.2.2.2.2.1 12 (by unfold pwFix; decide), rfl⟩)
theorem g_7_3 (F : CX p m c cc nL s args own) (hw : WW G S s H locs) {idx : Nat} (ha : AtO S 7 0 a) (hl : Cond.fieldLink own idx "ClockAuctions" "running" "LClockAuctions$FallingClock;" ∈ wT) (hdg : decode cc pc = .ok (.getfield idx, 3)) (kk : ∀ a2 : Nat, AtO S 4 0 a2 → W p l e R s m args below meth c H locs cells slots Q (F0 m (pc + 3) ls (.ref a2 :: rest))) : W p l e R s m args below meth c H locs cells slots Q (F0 m pc ls (.ref a :: rest)) := pw_get (C := RX8) (T := TX8) (N := 11) F hw 7 (by decide) (by decide) ha twu_RX8 rfl rfl 3 (by decide) hl (fun _ h => h) rfl hdg (kk _ ⟨hw.1.2.2.2.2.1 4 (by unfold pwFix; decide), rfl⟩)
theorem g_7_4 (F : CX p m c cc nL s args own) (hw : WW G S s H locs) {idx : Nat} (ha : AtO S 7 0 a) (hl : Cond.fieldLink own idx "ClockAuctions" "chain" "LClockAuctions$Chain;" ∈ wT) (hdg : decode cc pc = .ok (.getfield idx, 3)) (kk : ∀ a2 : Nat, AtO S 2 0 a2 → W p l e R s m args below meth c H locs cells slots Q (F0 m (pc + 3) ls (.ref a2 :: rest))) : W p l e R s m args below meth c H locs cells slots Q (F0 m pc ls (.ref a :: rest)) := pw_get (C := RX8) (T := TX8) (N := 11) F hw 7 (by decide) (by decide) ha twu_RX8 rfl rfl 4 (by decide) hl (fun _ h => h) rfl hdg (kk _ ⟨hw.1.2.2.2.2.1 2 (by unfold pwFix; decide), rfl⟩)
theorem g_7_5 (F : CX p m c cc nL s args own) (hw : WW G S s H locs) {idx : Nat} (ha : AtO S 7 0 a) (hl : Cond.fieldLink own idx "ClockAuctions" "search" "LClockAuctions$SetSearch;" ∈ wT) (hdg : decode cc pc = .ok (.getfield idx, 3)) (kk : ∀ a2 : Nat, AtO S 6 0 a2 → W p l e R s m args below meth c H locs cells slots Q (F0 m (pc + 3) ls (.ref a2 :: rest))) : W p l e R s m args below meth c H locs cells slots Q (F0 m pc ls (.ref a :: rest)) := pw_get (C := RX8) (T := TX8) (N := 11) F hw 7 (by decide) (by decide) ha twu_RX8 rfl rfl 5 (by decide) hl (fun _ h => h) rfl hdg (kk _ ⟨hw.1.2.2.2.2.1 6 (by unfold pwFix; decide), rfl⟩)
theorem g_7_6 (F : CX p m c cc nL s args own) (hw : WW G S s H locs) {idx : Nat} (ha : AtO S 7 0 a) (hl : Cond.fieldLink own idx "ClockAuctions" "lotCount" "I" ∈ wT) (hdg : decode cc pc = .ok (.getfield idx, 3)) (kk : W p l e R s m args below meth c H locs cells slots Q (F0 m (pc + 3) ls (.int (gi S 7 0 6) :: rest))) : W p l e R s m args below meth c H locs cells slots Q (F0 m pc ls (.ref a :: rest)) := pw_get (C := RX8) (T := TX8) (N := 11) F hw 7 (by decide) (by decide) ha twu_RX8 rfl rfl 6 (by decide) hl (fun _ h => h) rfl hdg kk
theorem p_7_6 (F : CX p m c cc nL s args own) (hw : WW G S s H locs) {idx : Nat} (ha : AtO S 7 0 a) (hl : Cond.fieldLink own idx "ClockAuctions" "lotCount" "I" ∈ wT) {x : Int32} (hdg : decode cc pc = .ok (.putfield idx, 3)) (kk : ∀ (S1 : St) (H1 : Heap) (locs1 : List Loc), S1 = si S 7 0 6 x → WW G S1 s H1 locs1 → Ext S S1 → W p l e R s m args below meth c H1 locs1 cells slots Q (F0 m (pc + 3) ls rest)) : W p l e R s m args below meth c H locs cells slots Q (F0 m pc ls (.int x :: .ref a :: rest)) :=
  pw_put (C := RX8) (T := TX8) (N := 11) (ty := .int) F hw 7 (by decide) (by decide) ha twu_RX8 tyX8 tyX8_ok nmX8 rfl rfl 6 (by decide) hl (fun _ h => h) rfl (by decide +kernel) rfl rfl (Nat.le_of_ble_eq_true rfl) (S' := si S 7 0 6 x) (by unfold pcS; rw [row_si]; rfl) (upd_si _ _ _ _ _) (wf_same (pw_wf hw.1) rfl rfl) hdg (fun H1 locs1 hw1 hx1 => kk _ H1 locs1 rfl hw1 hx1)
theorem g_7_7 (F : CX p m c cc nL s args own) (hw : WW G S s H locs) {idx : Nat} (ha : AtO S 7 0 a) (hl : Cond.fieldLink own idx "ClockAuctions" "buyerCount" "I" ∈ wT) (hdg : decode cc pc = .ok (.getfield idx, 3)) (kk : W p l e R s m args below meth c H locs cells slots Q (F0 m (pc + 3) ls (.int (gi S 7 0 7) :: rest))) : W p l e R s m args below meth c H locs cells slots Q (F0 m pc ls (.ref a :: rest)) := pw_get (C := RX8) (T := TX8) (N := 11) F hw 7 (by decide) (by decide) ha twu_RX8 rfl rfl 7 (by decide) hl (fun _ h => h) rfl hdg kk
theorem p_7_7 (F : CX p m c cc nL s args own) (hw : WW G S s H locs) {idx : Nat} (ha : AtO S 7 0 a) (hl : Cond.fieldLink own idx "ClockAuctions" "buyerCount" "I" ∈ wT) {x : Int32} (hdg : decode cc pc = .ok (.putfield idx, 3)) (kk : ∀ (S1 : St) (H1 : Heap) (locs1 : List Loc), S1 = si S 7 0 7 x → WW G S1 s H1 locs1 → Ext S S1 → W p l e R s m args below meth c H1 locs1 cells slots Q (F0 m (pc + 3) ls rest)) : W p l e R s m args below meth c H locs cells slots Q (F0 m pc ls (.int x :: .ref a :: rest)) :=
  pw_put (C := RX8) (T := TX8) (N := 11) (ty := .int) F hw 7 (by decide) (by decide) ha twu_RX8 tyX8 tyX8_ok nmX8 rfl rfl 7 (by decide) hl (fun _ h => h) rfl (by decide +kernel) rfl rfl (Nat.le_of_ble_eq_true rfl) (S' := si S 7 0 7 x) (by unfold pcS; rw [row_si]; rfl) (upd_si _ _ _ _ _) (wf_same (pw_wf hw.1) rfl rfl) hdg (fun H1 locs1 hw1 hx1 => kk _ H1 locs1 rfl hw1 hx1)
theorem g_7_8 (F : CX p m c cc nL s args own) (hw : WW G S s H locs) {idx : Nat} (ha : AtO S 7 0 a) (hl : Cond.fieldLink own idx "ClockAuctions" "bidCount" "I" ∈ wT) (hdg : decode cc pc = .ok (.getfield idx, 3)) (kk : W p l e R s m args below meth c H locs cells slots Q (F0 m (pc + 3) ls (.int (gi S 7 0 8) :: rest))) : W p l e R s m args below meth c H locs cells slots Q (F0 m pc ls (.ref a :: rest)) := pw_get (C := RX8) (T := TX8) (N := 11) F hw 7 (by decide) (by decide) ha twu_RX8 rfl rfl 8 (by decide) hl (fun _ h => h) rfl hdg kk
theorem p_7_8 (F : CX p m c cc nL s args own) (hw : WW G S s H locs) {idx : Nat} (ha : AtO S 7 0 a) (hl : Cond.fieldLink own idx "ClockAuctions" "bidCount" "I" ∈ wT) {x : Int32} (hdg : decode cc pc = .ok (.putfield idx, 3)) (kk : ∀ (S1 : St) (H1 : Heap) (locs1 : List Loc), S1 = si S 7 0 8 x → WW G S1 s H1 locs1 → Ext S S1 → W p l e R s m args below meth c H1 locs1 cells slots Q (F0 m (pc + 3) ls rest)) : W p l e R s m args below meth c H locs cells slots Q (F0 m pc ls (.int x :: .ref a :: rest)) :=
  pw_put (C := RX8) (T := TX8) (N := 11) (ty := .int) F hw 7 (by decide) (by decide) ha twu_RX8 tyX8 tyX8_ok nmX8 rfl rfl 8 (by decide) hl (fun _ h => h) rfl (by decide +kernel) rfl rfl (Nat.le_of_ble_eq_true rfl) (S' := si S 7 0 8 x) (by unfold pcS; rw [row_si]; rfl) (upd_si _ _ _ _ _) (wf_same (pw_wf hw.1) rfl rfl) hdg (fun H1 locs1 hw1 hx1 => kk _ H1 locs1 rfl hw1 hx1)
theorem g_7_9 (F : CX p m c cc nL s args own) (hw : WW G S s H locs) {idx : Nat} (ha : AtO S 7 0 a) (hl : Cond.fieldLink own idx "ClockAuctions" "day" "J" ∈ wT) (hdg : decode cc pc = .ok (.getfield idx, 3)) (kk : W p l e R s m args below meth c H locs cells slots Q (F0 m (pc + 3) ls (.long (gj S 7 0 9) :: rest))) : W p l e R s m args below meth c H locs cells slots Q (F0 m pc ls (.ref a :: rest)) := pw_get (C := RX8) (T := TX8) (N := 11) F hw 7 (by decide) (by decide) ha twu_RX8 rfl rfl 9 (by decide) hl (fun _ h => h) rfl hdg kk
theorem p_7_9 (F : CX p m c cc nL s args own) (hw : WW G S s H locs) {idx : Nat} (ha : AtO S 7 0 a) (hl : Cond.fieldLink own idx "ClockAuctions" "day" "J" ∈ wT) {x : Int64} (hdg : decode cc pc = .ok (.putfield idx, 3)) (kk : ∀ (S1 : St) (H1 : Heap) (locs1 : List Loc), S1 = sj S 7 0 9 x → WW G S1 s H1 locs1 → Ext S S1 → W p l e R s m args below meth c H1 locs1 cells slots Q (F0 m (pc + 3) ls rest)) : W p l e R s m args below meth c H locs cells slots Q (F0 m pc ls (.long x :: .ref a :: rest)) :=
  pw_put (C := RX8) (T := TX8) (N := 11) (ty := .long) F hw 7 (by decide) (by decide) ha twu_RX8 tyX8 tyX8_ok nmX8 rfl rfl 9 (by decide) hl (fun _ h => h) rfl (by decide +kernel) rfl rfl (Nat.le_of_ble_eq_true rfl) (S' := sj S 7 0 9 x) (by unfold pcS; rw [row_sj]; rfl) (upd_sj _ _ _ _ _) (wf_same (pw_wf hw.1) rfl rfl) hdg (fun H1 locs1 hw1 hx1 => kk _ H1 locs1 rfl hw1 hx1)
theorem g_7_10 (F : CX p m c cc nL s args own) (hw : WW G S s H locs) {idx : Nat} (ha : AtO S 7 0 a) (hl : Cond.fieldLink own idx "ClockAuctions" "latestSetsStood" "Z" ∈ wT) (hdg : decode cc pc = .ok (.getfield idx, 3)) (kk : W p l e R s m args below meth c H locs cells slots Q (F0 m (pc + 3) ls (.int (gi S 7 0 10) :: rest))) : W p l e R s m args below meth c H locs cells slots Q (F0 m pc ls (.ref a :: rest)) := pw_get (C := RX8) (T := TX8) (N := 11) F hw 7 (by decide) (by decide) ha twu_RX8 rfl rfl 10 (by decide) hl (fun _ h => h) rfl hdg kk
theorem p_7_10 (F : CX p m c cc nL s args own) (hw : WW G S s H locs) {idx : Nat} (ha : AtO S 7 0 a) (hl : Cond.fieldLink own idx "ClockAuctions" "latestSetsStood" "Z" ∈ wT) {x : Int32} (hz : bz x) (hdg : decode cc pc = .ok (.putfield idx, 3)) (kk : ∀ (S1 : St) (H1 : Heap) (locs1 : List Loc), S1 = si S 7 0 10 x → WW G S1 s H1 locs1 → Ext S S1 → W p l e R s m args below meth c H1 locs1 cells slots Q (F0 m (pc + 3) ls rest)) : W p l e R s m args below meth c H locs cells slots Q (F0 m pc ls (.int x :: .ref a :: rest)) :=
  pw_put (C := RX8) (T := TX8) (N := 11) (ty := .boolean) F hw 7 (by decide) (by decide) ha twu_RX8 tyX8 tyX8_ok nmX8 rfl rfl 10 (by decide) hl (fun _ h => h) rfl (by decide +kernel) (bz_nar hz) (bz_fit hz) (Nat.le_of_ble_eq_true rfl) (S' := si S 7 0 10 x) (by unfold pcS; rw [row_si]; rfl) (upd_si _ _ _ _ _) (wf_same (pw_wf hw.1) rfl rfl) hdg (fun H1 locs1 hw1 hx1 => kk _ H1 locs1 rfl hw1 hx1)
theorem g_8_0 (F : CX p m c cc nL s args own) (hw : WW G S s H locs) {idx : Nat} (ha : AtO S 8 0 a) (hl : Cond.fieldLink own idx "ClockAuctionsModel" "lots" "I" ∈ wT) (hdg : decode cc pc = .ok (.getfield idx, 3)) (kk : W p l e R s m args below meth c H locs cells slots Q (F0 m (pc + 3) ls (.int (gi S 8 0 0) :: rest))) : W p l e R s m args below meth c H locs cells slots Q (F0 m pc ls (.ref a :: rest)) := pw_get (C := RX9) (T := TX9) (N := 36) F hw 8 (by decide) (by decide) ha twu_RX9 rfl rfl 0 (by decide) hl (fun _ h => h) rfl hdg kk
theorem p_8_0 (F : CX p m c cc nL s args own) (hw : WW G S s H locs) {idx : Nat} (ha : AtO S 8 0 a) (hl : Cond.fieldLink own idx "ClockAuctionsModel" "lots" "I" ∈ wT) {x : Int32} (hdg : decode cc pc = .ok (.putfield idx, 3)) (kk : ∀ (S1 : St) (H1 : Heap) (locs1 : List Loc), S1 = si S 8 0 0 x → WW G S1 s H1 locs1 → Ext S S1 → W p l e R s m args below meth c H1 locs1 cells slots Q (F0 m (pc + 3) ls rest)) : W p l e R s m args below meth c H locs cells slots Q (F0 m pc ls (.int x :: .ref a :: rest)) :=
  pw_put (C := RX9) (T := TX9) (N := 36) (ty := .int) F hw 8 (by decide) (by decide) ha twu_RX9 tyX9 tyX9_ok nmX9 rfl rfl 0 (by decide) hl (fun _ h => h) rfl (by decide +kernel) rfl rfl (Nat.le_of_ble_eq_true rfl) (S' := si S 8 0 0 x) (by unfold pcS; rw [row_si]; rfl) (upd_si _ _ _ _ _) (wf_same (pw_wf hw.1) rfl rfl) hdg (fun H1 locs1 hw1 hx1 => kk _ H1 locs1 rfl hw1 hx1)
theorem g_8_1 (F : CX p m c cc nL s args own) (hw : WW G S s H locs) {idx : Nat} (ha : AtO S 8 0 a) (hl : Cond.fieldLink own idx "ClockAuctionsModel" "kind" "[I" ∈ wT) (hdg : decode cc pc = .ok (.getfield idx, 3)) (kk : ∀ a2 : Nat, AtO S 17 0 a2 → W p l e R s m args below meth c H locs cells slots Q (F0 m (pc + 3) ls (.ref a2 :: rest))) : W p l e R s m args below meth c H locs cells slots Q (F0 m pc ls (.ref a :: rest)) := pw_get (C := RX9) (T := TX9) (N := 36) F hw 8 (by decide) (by decide) ha twu_RX9 rfl rfl 1 (by decide) hl (fun _ h => h) rfl hdg (kk _ ⟨hw.1.2.2.2.2.1 17 (by unfold pwFix; decide), rfl⟩)
theorem g_8_2 (F : CX p m c cc nL s args own) (hw : WW G S s H locs) {idx : Nat} (ha : AtO S 8 0 a) (hl : Cond.fieldLink own idx "ClockAuctionsModel" "grams" "[J" ∈ wT) (hdg : decode cc pc = .ok (.getfield idx, 3)) (kk : ∀ a2 : Nat, AtO S 18 0 a2 → W p l e R s m args below meth c H locs cells slots Q (F0 m (pc + 3) ls (.ref a2 :: rest))) : W p l e R s m args below meth c H locs cells slots Q (F0 m pc ls (.ref a :: rest)) := pw_get (C := RX9) (T := TX9) (N := 36) F hw 8 (by decide) (by decide) ha twu_RX9 rfl rfl 2 (by decide) hl (fun _ h => h) rfl hdg (kk _ ⟨hw.1.2.2.2.2.1 18 (by unfold pwFix; decide), rfl⟩)
theorem g_8_3 (F : CX p m c cc nL s args own) (hw : WW G S s H locs) {idx : Nat} (ha : AtO S 8 0 a) (hl : Cond.fieldLink own idx "ClockAuctionsModel" "reserve" "[J" ∈ wT) (hdg : decode cc pc = .ok (.getfield idx, 3)) (kk : ∀ a2 : Nat, AtO S 19 0 a2 → W p l e R s m args below meth c H locs cells slots Q (F0 m (pc + 3) ls (.ref a2 :: rest))) : W p l e R s m args below meth c H locs cells slots Q (F0 m pc ls (.ref a :: rest)) := pw_get (C := RX9) (T := TX9) (N := 36) F hw 8 (by decide) (by decide) ha twu_RX9 rfl rfl 3 (by decide) hl (fun _ h => h) rfl hdg (kk _ ⟨hw.1.2.2.2.2.1 19 (by unfold pwFix; decide), rfl⟩)
theorem g_8_4 (F : CX p m c cc nL s args own) (hw : WW G S s H locs) {idx : Nat} (ha : AtO S 8 0 a) (hl : Cond.fieldLink own idx "ClockAuctionsModel" "state" "[I" ∈ wT) (hdg : decode cc pc = .ok (.getfield idx, 3)) (kk : ∀ a2 : Nat, AtO S 20 0 a2 → W p l e R s m args below meth c H locs cells slots Q (F0 m (pc + 3) ls (.ref a2 :: rest))) : W p l e R s m args below meth c H locs cells slots Q (F0 m pc ls (.ref a :: rest)) := pw_get (C := RX9) (T := TX9) (N := 36) F hw 8 (by decide) (by decide) ha twu_RX9 rfl rfl 4 (by decide) hl (fun _ h => h) rfl hdg (kk _ ⟨hw.1.2.2.2.2.1 20 (by unfold pwFix; decide), rfl⟩)
theorem g_8_5 (F : CX p m c cc nL s args own) (hw : WW G S s H locs) {idx : Nat} (ha : AtO S 8 0 a) (hl : Cond.fieldLink own idx "ClockAuctionsModel" "buyer" "[I" ∈ wT) (hdg : decode cc pc = .ok (.getfield idx, 3)) (kk : ∀ a2 : Nat, AtO S 21 0 a2 → W p l e R s m args below meth c H locs cells slots Q (F0 m (pc + 3) ls (.ref a2 :: rest))) : W p l e R s m args below meth c H locs cells slots Q (F0 m pc ls (.ref a :: rest)) := pw_get (C := RX9) (T := TX9) (N := 36) F hw 8 (by decide) (by decide) ha twu_RX9 rfl rfl 5 (by decide) hl (fun _ h => h) rfl hdg (kk _ ⟨hw.1.2.2.2.2.1 21 (by unfold pwFix; decide), rfl⟩)
theorem g_8_6 (F : CX p m c cc nL s args own) (hw : WW G S s H locs) {idx : Nat} (ha : AtO S 8 0 a) (hl : Cond.fieldLink own idx "ClockAuctionsModel" "price" "[J" ∈ wT) (hdg : decode cc pc = .ok (.getfield idx, 3)) (kk : ∀ a2 : Nat, AtO S 22 0 a2 → W p l e R s m args below meth c H locs cells slots Q (F0 m (pc + 3) ls (.ref a2 :: rest))) : W p l e R s m args below meth c H locs cells slots Q (F0 m pc ls (.ref a :: rest)) := pw_get (C := RX9) (T := TX9) (N := 36) F hw 8 (by decide) (by decide) ha twu_RX9 rfl rfl 6 (by decide) hl (fun _ h => h) rfl hdg (kk _ ⟨hw.1.2.2.2.2.1 22 (by unfold pwFix; decide), rfl⟩)
theorem g_8_7 (F : CX p m c cc nL s args own) (hw : WW G S s H locs) {idx : Nat} (ha : AtO S 8 0 a) (hl : Cond.fieldLink own idx "ClockAuctionsModel" "byClock" "[Z" ∈ wT) (hdg : decode cc pc = .ok (.getfield idx, 3)) (kk : ∀ a2 : Nat, AtO S 23 0 a2 → W p l e R s m args below meth c H locs cells slots Q (F0 m (pc + 3) ls (.ref a2 :: rest))) : W p l e R s m args below meth c H locs cells slots Q (F0 m pc ls (.ref a :: rest)) := pw_get (C := RX9) (T := TX9) (N := 36) F hw 8 (by decide) (by decide) ha twu_RX9 rfl rfl 7 (by decide) hl (fun _ h => h) rfl hdg (kk _ ⟨hw.1.2.2.2.2.1 23 (by unfold pwFix; decide), rfl⟩)
theorem g_8_8 (F : CX p m c cc nL s args own) (hw : WW G S s H locs) {idx : Nat} (ha : AtO S 8 0 a) (hl : Cond.fieldLink own idx "ClockAuctionsModel" "parted" "[Z" ∈ wT) (hdg : decode cc pc = .ok (.getfield idx, 3)) (kk : ∀ a2 : Nat, AtO S 24 0 a2 → W p l e R s m args below meth c H locs cells slots Q (F0 m (pc + 3) ls (.ref a2 :: rest))) : W p l e R s m args below meth c H locs cells slots Q (F0 m pc ls (.ref a :: rest)) := pw_get (C := RX9) (T := TX9) (N := 36) F hw 8 (by decide) (by decide) ha twu_RX9 rfl rfl 8 (by decide) hl (fun _ h => h) rfl hdg (kk _ ⟨hw.1.2.2.2.2.1 24 (by unfold pwFix; decide), rfl⟩)
theorem g_8_9 (F : CX p m c cc nL s args own) (hw : WW G S s H locs) {idx : Nat} (ha : AtO S 8 0 a) (hl : Cond.fieldLink own idx "ClockAuctionsModel" "reopened" "[Z" ∈ wT) (hdg : decode cc pc = .ok (.getfield idx, 3)) (kk : ∀ a2 : Nat, AtO S 25 0 a2 → W p l e R s m args below meth c H locs cells slots Q (F0 m (pc + 3) ls (.ref a2 :: rest))) : W p l e R s m args below meth c H locs cells slots Q (F0 m pc ls (.ref a :: rest)) := pw_get (C := RX9) (T := TX9) (N := 36) F hw 8 (by decide) (by decide) ha twu_RX9 rfl rfl 9 (by decide) hl (fun _ h => h) rfl hdg (kk _ ⟨hw.1.2.2.2.2.1 25 (by unfold pwFix; decide), rfl⟩)
theorem g_8_10 (F : CX p m c cc nL s args own) (hw : WW G S s H locs) {idx : Nat} (ha : AtO S 8 0 a) (hl : Cond.fieldLink own idx "ClockAuctionsModel" "offeredAt" "[J" ∈ wT) (hdg : decode cc pc = .ok (.getfield idx, 3)) (kk : ∀ a2 : Nat, AtO S 26 0 a2 → W p l e R s m args below meth c H locs cells slots Q (F0 m (pc + 3) ls (.ref a2 :: rest))) : W p l e R s m args below meth c H locs cells slots Q (F0 m pc ls (.ref a :: rest)) := pw_get (C := RX9) (T := TX9) (N := 36) F hw 8 (by decide) (by decide) ha twu_RX9 rfl rfl 10 (by decide) hl (fun _ h => h) rfl hdg (kk _ ⟨hw.1.2.2.2.2.1 26 (by unfold pwFix; decide), rfl⟩)
theorem g_8_11 (F : CX p m c cc nL s args own) (hw : WW G S s H locs) {idx : Nat} (ha : AtO S 8 0 a) (hl : Cond.fieldLink own idx "ClockAuctionsModel" "ties" "[I" ∈ wT) (hdg : decode cc pc = .ok (.getfield idx, 3)) (kk : ∀ a2 : Nat, AtO S 27 0 a2 → W p l e R s m args below meth c H locs cells slots Q (F0 m (pc + 3) ls (.ref a2 :: rest))) : W p l e R s m args below meth c H locs cells slots Q (F0 m pc ls (.ref a :: rest)) := pw_get (C := RX9) (T := TX9) (N := 36) F hw 8 (by decide) (by decide) ha twu_RX9 rfl rfl 11 (by decide) hl (fun _ h => h) rfl hdg (kk _ ⟨hw.1.2.2.2.2.1 27 (by unfold pwFix; decide), rfl⟩)
theorem g_8_12 (F : CX p m c cc nL s args own) (hw : WW G S s H locs) {idx : Nat} (ha : AtO S 8 0 a) (hl : Cond.fieldLink own idx "ClockAuctionsModel" "buyers" "I" ∈ wT) (hdg : decode cc pc = .ok (.getfield idx, 3)) (kk : W p l e R s m args below meth c H locs cells slots Q (F0 m (pc + 3) ls (.int (gi S 8 0 12) :: rest))) : W p l e R s m args below meth c H locs cells slots Q (F0 m pc ls (.ref a :: rest)) := pw_get (C := RX9) (T := TX9) (N := 36) F hw 8 (by decide) (by decide) ha twu_RX9 rfl rfl 12 (by decide) hl (fun _ h => h) rfl hdg kk
theorem p_8_12 (F : CX p m c cc nL s args own) (hw : WW G S s H locs) {idx : Nat} (ha : AtO S 8 0 a) (hl : Cond.fieldLink own idx "ClockAuctionsModel" "buyers" "I" ∈ wT) {x : Int32} (hdg : decode cc pc = .ok (.putfield idx, 3)) (kk : ∀ (S1 : St) (H1 : Heap) (locs1 : List Loc), S1 = si S 8 0 12 x → WW G S1 s H1 locs1 → Ext S S1 → W p l e R s m args below meth c H1 locs1 cells slots Q (F0 m (pc + 3) ls rest)) : W p l e R s m args below meth c H locs cells slots Q (F0 m pc ls (.int x :: .ref a :: rest)) :=
  pw_put (C := RX9) (T := TX9) (N := 36) (ty := .int) F hw 8 (by decide) (by decide) ha twu_RX9 tyX9 tyX9_ok nmX9 rfl rfl 12 (by decide) hl (fun _ h => h) rfl (by decide +kernel) rfl rfl (Nat.le_of_ble_eq_true rfl) (S' := si S 8 0 12 x) (by unfold pcS; rw [row_si]; rfl) (upd_si _ _ _ _ _) (wf_same (pw_wf hw.1) rfl rfl) hdg (fun H1 locs1 hw1 hx1 => kk _ H1 locs1 rfl hw1 hx1)
theorem g_8_13 (F : CX p m c cc nL s args own) (hw : WW G S s H locs) {idx : Nat} (ha : AtO S 8 0 a) (hl : Cond.fieldLink own idx "ClockAuctionsModel" "credit" "[J" ∈ wT) (hdg : decode cc pc = .ok (.getfield idx, 3)) (kk : ∀ a2 : Nat, AtO S 28 0 a2 → W p l e R s m args below meth c H locs cells slots Q (F0 m (pc + 3) ls (.ref a2 :: rest))) : W p l e R s m args below meth c H locs cells slots Q (F0 m pc ls (.ref a :: rest)) := pw_get (C := RX9) (T := TX9) (N := 36) F hw 8 (by decide) (by decide) ha twu_RX9 rfl rfl 13 (by decide) hl (fun _ h => h) rfl hdg (kk _ ⟨hw.1.2.2.2.2.1 28 (by unfold pwFix; decide), rfl⟩)
theorem g_8_14 (F : CX p m c cc nL s args own) (hw : WW G S s H locs) {idx : Nat} (ha : AtO S 8 0 a) (hl : Cond.fieldLink own idx "ClockAuctionsModel" "delay" "[J" ∈ wT) (hdg : decode cc pc = .ok (.getfield idx, 3)) (kk : ∀ a2 : Nat, AtO S 29 0 a2 → W p l e R s m args below meth c H locs cells slots Q (F0 m (pc + 3) ls (.ref a2 :: rest))) : W p l e R s m args below meth c H locs cells slots Q (F0 m pc ls (.ref a :: rest)) := pw_get (C := RX9) (T := TX9) (N := 36) F hw 8 (by decide) (by decide) ha twu_RX9 rfl rfl 14 (by decide) hl (fun _ h => h) rfl hdg (kk _ ⟨hw.1.2.2.2.2.1 29 (by unfold pwFix; decide), rfl⟩)
theorem g_8_15 (F : CX p m c cc nL s args own) (hw : WW G S s H locs) {idx : Nat} (ha : AtO S 8 0 a) (hl : Cond.fieldLink own idx "ClockAuctionsModel" "presses" "[J" ∈ wT) (hdg : decode cc pc = .ok (.getfield idx, 3)) (kk : ∀ a2 : Nat, AtO S 30 0 a2 → W p l e R s m args below meth c H locs cells slots Q (F0 m (pc + 3) ls (.ref a2 :: rest))) : W p l e R s m args below meth c H locs cells slots Q (F0 m pc ls (.ref a :: rest)) := pw_get (C := RX9) (T := TX9) (N := 36) F hw 8 (by decide) (by decide) ha twu_RX9 rfl rfl 15 (by decide) hl (fun _ h => h) rfl hdg (kk _ ⟨hw.1.2.2.2.2.1 30 (by unfold pwFix; decide), rfl⟩)
theorem g_8_16 (F : CX p m c cc nL s args own) (hw : WW G S s H locs) {idx : Nat} (ha : AtO S 8 0 a) (hl : Cond.fieldLink own idx "ClockAuctionsModel" "day" "J" ∈ wT) (hdg : decode cc pc = .ok (.getfield idx, 3)) (kk : W p l e R s m args below meth c H locs cells slots Q (F0 m (pc + 3) ls (.long (gj S 8 0 16) :: rest))) : W p l e R s m args below meth c H locs cells slots Q (F0 m pc ls (.ref a :: rest)) := pw_get (C := RX9) (T := TX9) (N := 36) F hw 8 (by decide) (by decide) ha twu_RX9 rfl rfl 16 (by decide) hl (fun _ h => h) rfl hdg kk
theorem p_8_16 (F : CX p m c cc nL s args own) (hw : WW G S s H locs) {idx : Nat} (ha : AtO S 8 0 a) (hl : Cond.fieldLink own idx "ClockAuctionsModel" "day" "J" ∈ wT) {x : Int64} (hdg : decode cc pc = .ok (.putfield idx, 3)) (kk : ∀ (S1 : St) (H1 : Heap) (locs1 : List Loc), S1 = sj S 8 0 16 x → WW G S1 s H1 locs1 → Ext S S1 → W p l e R s m args below meth c H1 locs1 cells slots Q (F0 m (pc + 3) ls rest)) : W p l e R s m args below meth c H locs cells slots Q (F0 m pc ls (.long x :: .ref a :: rest)) :=
  pw_put (C := RX9) (T := TX9) (N := 36) (ty := .long) F hw 8 (by decide) (by decide) ha twu_RX9 tyX9 tyX9_ok nmX9 rfl rfl 16 (by decide) hl (fun _ h => h) rfl (by decide +kernel) rfl rfl (Nat.le_of_ble_eq_true rfl) (S' := sj S 8 0 16 x) (by unfold pcS; rw [row_sj]; rfl) (upd_sj _ _ _ _ _) (wf_same (pw_wf hw.1) rfl rfl) hdg (fun H1 locs1 hw1 hx1 => kk _ H1 locs1 rfl hw1 hx1)
theorem g_8_17 (F : CX p m c cc nL s args own) (hw : WW G S s H locs) {idx : Nat} (ha : AtO S 8 0 a) (hl : Cond.fieldLink own idx "ClockAuctionsModel" "now" "I" ∈ wT) (hdg : decode cc pc = .ok (.getfield idx, 3)) (kk : W p l e R s m args below meth c H locs cells slots Q (F0 m (pc + 3) ls (.int (gi S 8 0 17) :: rest))) : W p l e R s m args below meth c H locs cells slots Q (F0 m pc ls (.ref a :: rest)) := pw_get (C := RX9) (T := TX9) (N := 36) F hw 8 (by decide) (by decide) ha twu_RX9 rfl rfl 17 (by decide) hl (fun _ h => h) rfl hdg kk
theorem p_8_17 (F : CX p m c cc nL s args own) (hw : WW G S s H locs) {idx : Nat} (ha : AtO S 8 0 a) (hl : Cond.fieldLink own idx "ClockAuctionsModel" "now" "I" ∈ wT) {x : Int32} (hdg : decode cc pc = .ok (.putfield idx, 3)) (kk : ∀ (S1 : St) (H1 : Heap) (locs1 : List Loc), S1 = si S 8 0 17 x → WW G S1 s H1 locs1 → Ext S S1 → W p l e R s m args below meth c H1 locs1 cells slots Q (F0 m (pc + 3) ls rest)) : W p l e R s m args below meth c H locs cells slots Q (F0 m pc ls (.int x :: .ref a :: rest)) :=
  pw_put (C := RX9) (T := TX9) (N := 36) (ty := .int) F hw 8 (by decide) (by decide) ha twu_RX9 tyX9 tyX9_ok nmX9 rfl rfl 17 (by decide) hl (fun _ h => h) rfl (by decide +kernel) rfl rfl (Nat.le_of_ble_eq_true rfl) (S' := si S 8 0 17 x) (by unfold pcS; rw [row_si]; rfl) (upd_si _ _ _ _ _) (wf_same (pw_wf hw.1) rfl rfl) hdg (fun H1 locs1 hw1 hx1 => kk _ H1 locs1 rfl hw1 hx1)
theorem g_8_18 (F : CX p m c cc nL s args own) (hw : WW G S s H locs) {idx : Nat} (ha : AtO S 8 0 a) (hl : Cond.fieldLink own idx "ClockAuctionsModel" "time" "J" ∈ wT) (hdg : decode cc pc = .ok (.getfield idx, 3)) (kk : W p l e R s m args below meth c H locs cells slots Q (F0 m (pc + 3) ls (.long (gj S 8 0 18) :: rest))) : W p l e R s m args below meth c H locs cells slots Q (F0 m pc ls (.ref a :: rest)) := pw_get (C := RX9) (T := TX9) (N := 36) F hw 8 (by decide) (by decide) ha twu_RX9 rfl rfl 18 (by decide) hl (fun _ h => h) rfl hdg kk
theorem p_8_18 (F : CX p m c cc nL s args own) (hw : WW G S s H locs) {idx : Nat} (ha : AtO S 8 0 a) (hl : Cond.fieldLink own idx "ClockAuctionsModel" "time" "J" ∈ wT) {x : Int64} (hdg : decode cc pc = .ok (.putfield idx, 3)) (kk : ∀ (S1 : St) (H1 : Heap) (locs1 : List Loc), S1 = sj S 8 0 18 x → WW G S1 s H1 locs1 → Ext S S1 → W p l e R s m args below meth c H1 locs1 cells slots Q (F0 m (pc + 3) ls rest)) : W p l e R s m args below meth c H locs cells slots Q (F0 m pc ls (.long x :: .ref a :: rest)) :=
  pw_put (C := RX9) (T := TX9) (N := 36) (ty := .long) F hw 8 (by decide) (by decide) ha twu_RX9 tyX9 tyX9_ok nmX9 rfl rfl 18 (by decide) hl (fun _ h => h) rfl (by decide +kernel) rfl rfl (Nat.le_of_ble_eq_true rfl) (S' := sj S 8 0 18 x) (by unfold pcS; rw [row_sj]; rfl) (upd_sj _ _ _ _ _) (wf_same (pw_wf hw.1) rfl rfl) hdg (fun H1 locs1 hw1 hx1 => kk _ H1 locs1 rfl hw1 hx1)
theorem g_8_19 (F : CX p m c cc nL s args own) (hw : WW G S s H locs) {idx : Nat} (ha : AtO S 8 0 a) (hl : Cond.fieldLink own idx "ClockAuctionsModel" "end" "J" ∈ wT) (hdg : decode cc pc = .ok (.getfield idx, 3)) (kk : W p l e R s m args below meth c H locs cells slots Q (F0 m (pc + 3) ls (.long (gj S 8 0 19) :: rest))) : W p l e R s m args below meth c H locs cells slots Q (F0 m pc ls (.ref a :: rest)) := pw_get (C := RX9) (T := TX9) (N := 36) F hw 8 (by decide) (by decide) ha twu_RX9 rfl rfl 19 (by decide) hl (fun _ h => h) rfl hdg kk
theorem p_8_19 (F : CX p m c cc nL s args own) (hw : WW G S s H locs) {idx : Nat} (ha : AtO S 8 0 a) (hl : Cond.fieldLink own idx "ClockAuctionsModel" "end" "J" ∈ wT) {x : Int64} (hdg : decode cc pc = .ok (.putfield idx, 3)) (kk : ∀ (S1 : St) (H1 : Heap) (locs1 : List Loc), S1 = sj S 8 0 19 x → WW G S1 s H1 locs1 → Ext S S1 → W p l e R s m args below meth c H1 locs1 cells slots Q (F0 m (pc + 3) ls rest)) : W p l e R s m args below meth c H locs cells slots Q (F0 m pc ls (.long x :: .ref a :: rest)) :=
  pw_put (C := RX9) (T := TX9) (N := 36) (ty := .long) F hw 8 (by decide) (by decide) ha twu_RX9 tyX9 tyX9_ok nmX9 rfl rfl 19 (by decide) hl (fun _ h => h) rfl (by decide +kernel) rfl rfl (Nat.le_of_ble_eq_true rfl) (S' := sj S 8 0 19 x) (by unfold pcS; rw [row_sj]; rfl) (upd_sj _ _ _ _ _) (wf_same (pw_wf hw.1) rfl rfl) hdg (fun H1 locs1 hw1 hx1 => kk _ H1 locs1 rfl hw1 hx1)
theorem g_8_20 (F : CX p m c cc nL s args own) (hw : WW G S s H locs) {idx : Nat} (ha : AtO S 8 0 a) (hl : Cond.fieldLink own idx "ClockAuctionsModel" "from" "J" ∈ wT) (hdg : decode cc pc = .ok (.getfield idx, 3)) (kk : W p l e R s m args below meth c H locs cells slots Q (F0 m (pc + 3) ls (.long (gj S 8 0 20) :: rest))) : W p l e R s m args below meth c H locs cells slots Q (F0 m pc ls (.ref a :: rest)) := pw_get (C := RX9) (T := TX9) (N := 36) F hw 8 (by decide) (by decide) ha twu_RX9 rfl rfl 20 (by decide) hl (fun _ h => h) rfl hdg kk
theorem p_8_20 (F : CX p m c cc nL s args own) (hw : WW G S s H locs) {idx : Nat} (ha : AtO S 8 0 a) (hl : Cond.fieldLink own idx "ClockAuctionsModel" "from" "J" ∈ wT) {x : Int64} (hdg : decode cc pc = .ok (.putfield idx, 3)) (kk : ∀ (S1 : St) (H1 : Heap) (locs1 : List Loc), S1 = sj S 8 0 20 x → WW G S1 s H1 locs1 → Ext S S1 → W p l e R s m args below meth c H1 locs1 cells slots Q (F0 m (pc + 3) ls rest)) : W p l e R s m args below meth c H locs cells slots Q (F0 m pc ls (.long x :: .ref a :: rest)) :=
  pw_put (C := RX9) (T := TX9) (N := 36) (ty := .long) F hw 8 (by decide) (by decide) ha twu_RX9 tyX9 tyX9_ok nmX9 rfl rfl 20 (by decide) hl (fun _ h => h) rfl (by decide +kernel) rfl rfl (Nat.le_of_ble_eq_true rfl) (S' := sj S 8 0 20 x) (by unfold pcS; rw [row_sj]; rfl) (upd_sj _ _ _ _ _) (wf_same (pw_wf hw.1) rfl rfl) hdg (fun H1 locs1 hw1 hx1 => kk _ H1 locs1 rfl hw1 hx1)
theorem g_8_21 (F : CX p m c cc nL s args own) (hw : WW G S s H locs) {idx : Nat} (ha : AtO S 8 0 a) (hl : Cond.fieldLink own idx "ClockAuctionsModel" "step" "J" ∈ wT) (hdg : decode cc pc = .ok (.getfield idx, 3)) (kk : W p l e R s m args below meth c H locs cells slots Q (F0 m (pc + 3) ls (.long (gj S 8 0 21) :: rest))) : W p l e R s m args below meth c H locs cells slots Q (F0 m pc ls (.ref a :: rest)) := pw_get (C := RX9) (T := TX9) (N := 36) F hw 8 (by decide) (by decide) ha twu_RX9 rfl rfl 21 (by decide) hl (fun _ h => h) rfl hdg kk
theorem p_8_21 (F : CX p m c cc nL s args own) (hw : WW G S s H locs) {idx : Nat} (ha : AtO S 8 0 a) (hl : Cond.fieldLink own idx "ClockAuctionsModel" "step" "J" ∈ wT) {x : Int64} (hdg : decode cc pc = .ok (.putfield idx, 3)) (kk : ∀ (S1 : St) (H1 : Heap) (locs1 : List Loc), S1 = sj S 8 0 21 x → WW G S1 s H1 locs1 → Ext S S1 → W p l e R s m args below meth c H1 locs1 cells slots Q (F0 m (pc + 3) ls rest)) : W p l e R s m args below meth c H locs cells slots Q (F0 m pc ls (.long x :: .ref a :: rest)) :=
  pw_put (C := RX9) (T := TX9) (N := 36) (ty := .long) F hw 8 (by decide) (by decide) ha twu_RX9 tyX9 tyX9_ok nmX9 rfl rfl 21 (by decide) hl (fun _ h => h) rfl (by decide +kernel) rfl rfl (Nat.le_of_ble_eq_true rfl) (S' := sj S 8 0 21 x) (by unfold pcS; rw [row_sj]; rfl) (upd_sj _ _ _ _ _) (wf_same (pw_wf hw.1) rfl rfl) hdg (fun H1 locs1 hw1 hx1 => kk _ H1 locs1 rfl hw1 hx1)
theorem g_8_22 (F : CX p m c cc nL s args own) (hw : WW G S s H locs) {idx : Nat} (ha : AtO S 8 0 a) (hl : Cond.fieldLink own idx "ClockAuctionsModel" "stands" "Z" ∈ wT) (hdg : decode cc pc = .ok (.getfield idx, 3)) (kk : W p l e R s m args below meth c H locs cells slots Q (F0 m (pc + 3) ls (.int (gi S 8 0 22) :: rest))) : W p l e R s m args below meth c H locs cells slots Q (F0 m pc ls (.ref a :: rest)) := pw_get (C := RX9) (T := TX9) (N := 36) F hw 8 (by decide) (by decide) ha twu_RX9 rfl rfl 22 (by decide) hl (fun _ h => h) rfl hdg kk
theorem p_8_22 (F : CX p m c cc nL s args own) (hw : WW G S s H locs) {idx : Nat} (ha : AtO S 8 0 a) (hl : Cond.fieldLink own idx "ClockAuctionsModel" "stands" "Z" ∈ wT) {x : Int32} (hz : bz x) (hdg : decode cc pc = .ok (.putfield idx, 3)) (kk : ∀ (S1 : St) (H1 : Heap) (locs1 : List Loc), S1 = si S 8 0 22 x → WW G S1 s H1 locs1 → Ext S S1 → W p l e R s m args below meth c H1 locs1 cells slots Q (F0 m (pc + 3) ls rest)) : W p l e R s m args below meth c H locs cells slots Q (F0 m pc ls (.int x :: .ref a :: rest)) :=
  pw_put (C := RX9) (T := TX9) (N := 36) (ty := .boolean) F hw 8 (by decide) (by decide) ha twu_RX9 tyX9 tyX9_ok nmX9 rfl rfl 22 (by decide) hl (fun _ h => h) rfl (by decide +kernel) (bz_nar hz) (bz_fit hz) (Nat.le_of_ble_eq_true rfl) (S' := si S 8 0 22 x) (by unfold pcS; rw [row_si]; rfl) (upd_si _ _ _ _ _) (wf_same (pw_wf hw.1) rfl rfl) hdg (fun H1 locs1 hw1 hx1 => kk _ H1 locs1 rfl hw1 hx1)
theorem g_8_23 (F : CX p m c cc nL s args own) (hw : WW G S s H locs) {idx : Nat} (ha : AtO S 8 0 a) (hl : Cond.fieldLink own idx "ClockAuctionsModel" "bids" "I" ∈ wT) (hdg : decode cc pc = .ok (.getfield idx, 3)) (kk : W p l e R s m args below meth c H locs cells slots Q (F0 m (pc + 3) ls (.int (gi S 8 0 23) :: rest))) : W p l e R s m args below meth c H locs cells slots Q (F0 m pc ls (.ref a :: rest)) := pw_get (C := RX9) (T := TX9) (N := 36) F hw 8 (by decide) (by decide) ha twu_RX9 rfl rfl 23 (by decide) hl (fun _ h => h) rfl hdg kk
theorem p_8_23 (F : CX p m c cc nL s args own) (hw : WW G S s H locs) {idx : Nat} (ha : AtO S 8 0 a) (hl : Cond.fieldLink own idx "ClockAuctionsModel" "bids" "I" ∈ wT) {x : Int32} (hdg : decode cc pc = .ok (.putfield idx, 3)) (kk : ∀ (S1 : St) (H1 : Heap) (locs1 : List Loc), S1 = si S 8 0 23 x → WW G S1 s H1 locs1 → Ext S S1 → W p l e R s m args below meth c H1 locs1 cells slots Q (F0 m (pc + 3) ls rest)) : W p l e R s m args below meth c H locs cells slots Q (F0 m pc ls (.int x :: .ref a :: rest)) :=
  pw_put (C := RX9) (T := TX9) (N := 36) (ty := .int) F hw 8 (by decide) (by decide) ha twu_RX9 tyX9 tyX9_ok nmX9 rfl rfl 23 (by decide) hl (fun _ h => h) rfl (by decide +kernel) rfl rfl (Nat.le_of_ble_eq_true rfl) (S' := si S 8 0 23 x) (by unfold pcS; rw [row_si]; rfl) (upd_si _ _ _ _ _) (wf_same (pw_wf hw.1) rfl rfl) hdg (fun H1 locs1 hw1 hx1 => kk _ H1 locs1 rfl hw1 hx1)
theorem g_8_24 (F : CX p m c cc nL s args own) (hw : WW G S s H locs) {idx : Nat} (ha : AtO S 8 0 a) (hl : Cond.fieldLink own idx "ClockAuctionsModel" "bidBuyer" "[I" ∈ wT) (hdg : decode cc pc = .ok (.getfield idx, 3)) (kk : ∀ a2 : Nat, AtO S 31 0 a2 → W p l e R s m args below meth c H locs cells slots Q (F0 m (pc + 3) ls (.ref a2 :: rest))) : W p l e R s m args below meth c H locs cells slots Q (F0 m pc ls (.ref a :: rest)) := pw_get (C := RX9) (T := TX9) (N := 36) F hw 8 (by decide) (by decide) ha twu_RX9 rfl rfl 24 (by decide) hl (fun _ h => h) rfl hdg (kk _ ⟨hw.1.2.2.2.2.1 31 (by unfold pwFix; decide), rfl⟩)
theorem g_8_25 (F : CX p m c cc nL s args own) (hw : WW G S s H locs) {idx : Nat} (ha : AtO S 8 0 a) (hl : Cond.fieldLink own idx "ClockAuctionsModel" "bidCents" "[J" ∈ wT) (hdg : decode cc pc = .ok (.getfield idx, 3)) (kk : ∀ a2 : Nat, AtO S 32 0 a2 → W p l e R s m args below meth c H locs cells slots Q (F0 m (pc + 3) ls (.ref a2 :: rest))) : W p l e R s m args below meth c H locs cells slots Q (F0 m pc ls (.ref a :: rest)) := pw_get (C := RX9) (T := TX9) (N := 36) F hw 8 (by decide) (by decide) ha twu_RX9 rfl rfl 25 (by decide) hl (fun _ h => h) rfl hdg (kk _ ⟨hw.1.2.2.2.2.1 32 (by unfold pwFix; decide), rfl⟩)
theorem g_8_26 (F : CX p m c cc nL s args own) (hw : WW G S s H locs) {idx : Nat} (ha : AtO S 8 0 a) (hl : Cond.fieldLink own idx "ClockAuctionsModel" "bidLots" "[J" ∈ wT) (hdg : decode cc pc = .ok (.getfield idx, 3)) (kk : ∀ a2 : Nat, AtO S 33 0 a2 → W p l e R s m args below meth c H locs cells slots Q (F0 m (pc + 3) ls (.ref a2 :: rest))) : W p l e R s m args below meth c H locs cells slots Q (F0 m pc ls (.ref a :: rest)) := pw_get (C := RX9) (T := TX9) (N := 36) F hw 8 (by decide) (by decide) ha twu_RX9 rfl rfl 26 (by decide) hl (fun _ h => h) rfl hdg (kk _ ⟨hw.1.2.2.2.2.1 33 (by unfold pwFix; decide), rfl⟩)
theorem g_8_27 (F : CX p m c cc nL s args own) (hw : WW G S s H locs) {idx : Nat} (ha : AtO S 8 0 a) (hl : Cond.fieldLink own idx "ClockAuctionsModel" "winners" "I" ∈ wT) (hdg : decode cc pc = .ok (.getfield idx, 3)) (kk : W p l e R s m args below meth c H locs cells slots Q (F0 m (pc + 3) ls (.int (gi S 8 0 27) :: rest))) : W p l e R s m args below meth c H locs cells slots Q (F0 m pc ls (.ref a :: rest)) := pw_get (C := RX9) (T := TX9) (N := 36) F hw 8 (by decide) (by decide) ha twu_RX9 rfl rfl 27 (by decide) hl (fun _ h => h) rfl hdg kk
theorem p_8_27 (F : CX p m c cc nL s args own) (hw : WW G S s H locs) {idx : Nat} (ha : AtO S 8 0 a) (hl : Cond.fieldLink own idx "ClockAuctionsModel" "winners" "I" ∈ wT) {x : Int32} (hdg : decode cc pc = .ok (.putfield idx, 3)) (kk : ∀ (S1 : St) (H1 : Heap) (locs1 : List Loc), S1 = si S 8 0 27 x → WW G S1 s H1 locs1 → Ext S S1 → W p l e R s m args below meth c H1 locs1 cells slots Q (F0 m (pc + 3) ls rest)) : W p l e R s m args below meth c H locs cells slots Q (F0 m pc ls (.int x :: .ref a :: rest)) :=
  pw_put (C := RX9) (T := TX9) (N := 36) (ty := .int) F hw 8 (by decide) (by decide) ha twu_RX9 tyX9 tyX9_ok nmX9 rfl rfl 27 (by decide) hl (fun _ h => h) rfl (by decide +kernel) rfl rfl (Nat.le_of_ble_eq_true rfl) (S' := si S 8 0 27 x) (by unfold pcS; rw [row_si]; rfl) (upd_si _ _ _ _ _) (wf_same (pw_wf hw.1) rfl rfl) hdg (fun H1 locs1 hw1 hx1 => kk _ H1 locs1 rfl hw1 hx1)
theorem g_8_28 (F : CX p m c cc nL s args own) (hw : WW G S s H locs) {idx : Nat} (ha : AtO S 8 0 a) (hl : Cond.fieldLink own idx "ClockAuctionsModel" "sum" "J" ∈ wT) (hdg : decode cc pc = .ok (.getfield idx, 3)) (kk : W p l e R s m args below meth c H locs cells slots Q (F0 m (pc + 3) ls (.long (gj S 8 0 28) :: rest))) : W p l e R s m args below meth c H locs cells slots Q (F0 m pc ls (.ref a :: rest)) := pw_get (C := RX9) (T := TX9) (N := 36) F hw 8 (by decide) (by decide) ha twu_RX9 rfl rfl 28 (by decide) hl (fun _ h => h) rfl hdg kk
theorem p_8_28 (F : CX p m c cc nL s args own) (hw : WW G S s H locs) {idx : Nat} (ha : AtO S 8 0 a) (hl : Cond.fieldLink own idx "ClockAuctionsModel" "sum" "J" ∈ wT) {x : Int64} (hdg : decode cc pc = .ok (.putfield idx, 3)) (kk : ∀ (S1 : St) (H1 : Heap) (locs1 : List Loc), S1 = sj S 8 0 28 x → WW G S1 s H1 locs1 → Ext S S1 → W p l e R s m args below meth c H1 locs1 cells slots Q (F0 m (pc + 3) ls rest)) : W p l e R s m args below meth c H locs cells slots Q (F0 m pc ls (.long x :: .ref a :: rest)) :=
  pw_put (C := RX9) (T := TX9) (N := 36) (ty := .long) F hw 8 (by decide) (by decide) ha twu_RX9 tyX9 tyX9_ok nmX9 rfl rfl 28 (by decide) hl (fun _ h => h) rfl (by decide +kernel) rfl rfl (Nat.le_of_ble_eq_true rfl) (S' := sj S 8 0 28 x) (by unfold pcS; rw [row_sj]; rfl) (upd_sj _ _ _ _ _) (wf_same (pw_wf hw.1) rfl rfl) hdg (fun H1 locs1 hw1 hx1 => kk _ H1 locs1 rfl hw1 hx1)
theorem g_8_29 (F : CX p m c cc nL s args own) (hw : WW G S s H locs) {idx : Nat} (ha : AtO S 8 0 a) (hl : Cond.fieldLink own idx "ClockAuctionsModel" "proved" "Z" ∈ wT) (hdg : decode cc pc = .ok (.getfield idx, 3)) (kk : W p l e R s m args below meth c H locs cells slots Q (F0 m (pc + 3) ls (.int (gi S 8 0 29) :: rest))) : W p l e R s m args below meth c H locs cells slots Q (F0 m pc ls (.ref a :: rest)) := pw_get (C := RX9) (T := TX9) (N := 36) F hw 8 (by decide) (by decide) ha twu_RX9 rfl rfl 29 (by decide) hl (fun _ h => h) rfl hdg kk
theorem p_8_29 (F : CX p m c cc nL s args own) (hw : WW G S s H locs) {idx : Nat} (ha : AtO S 8 0 a) (hl : Cond.fieldLink own idx "ClockAuctionsModel" "proved" "Z" ∈ wT) {x : Int32} (hz : bz x) (hdg : decode cc pc = .ok (.putfield idx, 3)) (kk : ∀ (S1 : St) (H1 : Heap) (locs1 : List Loc), S1 = si S 8 0 29 x → WW G S1 s H1 locs1 → Ext S S1 → W p l e R s m args below meth c H1 locs1 cells slots Q (F0 m (pc + 3) ls rest)) : W p l e R s m args below meth c H locs cells slots Q (F0 m pc ls (.int x :: .ref a :: rest)) :=
  pw_put (C := RX9) (T := TX9) (N := 36) (ty := .boolean) F hw 8 (by decide) (by decide) ha twu_RX9 tyX9 tyX9_ok nmX9 rfl rfl 29 (by decide) hl (fun _ h => h) rfl (by decide +kernel) (bz_nar hz) (bz_fit hz) (Nat.le_of_ble_eq_true rfl) (S' := si S 8 0 29 x) (by unfold pcS; rw [row_si]; rfl) (upd_si _ _ _ _ _) (wf_same (pw_wf hw.1) rfl rfl) hdg (fun H1 locs1 hw1 hx1 => kk _ H1 locs1 rfl hw1 hx1)
theorem g_8_30 (F : CX p m c cc nL s args own) (hw : WW G S s H locs) {idx : Nat} (ha : AtO S 8 0 a) (hl : Cond.fieldLink own idx "ClockAuctionsModel" "records" "I" ∈ wT) (hdg : decode cc pc = .ok (.getfield idx, 3)) (kk : W p l e R s m args below meth c H locs cells slots Q (F0 m (pc + 3) ls (.int (gi S 8 0 30) :: rest))) : W p l e R s m args below meth c H locs cells slots Q (F0 m pc ls (.ref a :: rest)) := pw_get (C := RX9) (T := TX9) (N := 36) F hw 8 (by decide) (by decide) ha twu_RX9 rfl rfl 30 (by decide) hl (fun _ h => h) rfl hdg kk
theorem p_8_30 (F : CX p m c cc nL s args own) (hw : WW G S s H locs) {idx : Nat} (ha : AtO S 8 0 a) (hl : Cond.fieldLink own idx "ClockAuctionsModel" "records" "I" ∈ wT) {x : Int32} (hdg : decode cc pc = .ok (.putfield idx, 3)) (kk : ∀ (S1 : St) (H1 : Heap) (locs1 : List Loc), S1 = si S 8 0 30 x → WW G S1 s H1 locs1 → Ext S S1 → W p l e R s m args below meth c H1 locs1 cells slots Q (F0 m (pc + 3) ls rest)) : W p l e R s m args below meth c H locs cells slots Q (F0 m pc ls (.int x :: .ref a :: rest)) :=
  pw_put (C := RX9) (T := TX9) (N := 36) (ty := .int) F hw 8 (by decide) (by decide) ha twu_RX9 tyX9 tyX9_ok nmX9 rfl rfl 30 (by decide) hl (fun _ h => h) rfl (by decide +kernel) rfl rfl (Nat.le_of_ble_eq_true rfl) (S' := si S 8 0 30 x) (by unfold pcS; rw [row_si]; rfl) (upd_si _ _ _ _ _) (wf_same (pw_wf hw.1) rfl rfl) hdg (fun H1 locs1 hw1 hx1 => kk _ H1 locs1 rfl hw1 hx1)
theorem g_8_31 (F : CX p m c cc nL s args own) (hw : WW G S s H locs) {idx : Nat} (ha : AtO S 8 0 a) (hl : Cond.fieldLink own idx "ClockAuctionsModel" "sorts" "[I" ∈ wT) (hdg : decode cc pc = .ok (.getfield idx, 3)) (kk : ∀ a2 : Nat, AtO S 34 0 a2 → W p l e R s m args below meth c H locs cells slots Q (F0 m (pc + 3) ls (.ref a2 :: rest))) : W p l e R s m args below meth c H locs cells slots Q (F0 m pc ls (.ref a :: rest)) := pw_get (C := RX9) (T := TX9) (N := 36) F hw 8 (by decide) (by decide) ha twu_RX9 rfl rfl 31 (by decide) hl (fun _ h => h) rfl hdg (kk _ ⟨hw.1.2.2.2.2.1 34 (by unfold pwFix; decide), rfl⟩)
theorem g_8_32 (F : CX p m c cc nL s args own) (hw : WW G S s H locs) {idx : Nat} (ha : AtO S 8 0 a) (hl : Cond.fieldLink own idx "ClockAuctionsModel" "recordLots" "[I" ∈ wT) (hdg : decode cc pc = .ok (.getfield idx, 3)) (kk : ∀ a2 : Nat, AtO S 35 0 a2 → W p l e R s m args below meth c H locs cells slots Q (F0 m (pc + 3) ls (.ref a2 :: rest))) : W p l e R s m args below meth c H locs cells slots Q (F0 m pc ls (.ref a :: rest)) := pw_get (C := RX9) (T := TX9) (N := 36) F hw 8 (by decide) (by decide) ha twu_RX9 rfl rfl 32 (by decide) hl (fun _ h => h) rfl hdg (kk _ ⟨hw.1.2.2.2.2.1 35 (by unfold pwFix; decide), rfl⟩)
theorem g_8_33 (F : CX p m c cc nL s args own) (hw : WW G S s H locs) {idx : Nat} (ha : AtO S 8 0 a) (hl : Cond.fieldLink own idx "ClockAuctionsModel" "recordBuyers" "[I" ∈ wT) (hdg : decode cc pc = .ok (.getfield idx, 3)) (kk : ∀ a2 : Nat, AtO S 36 0 a2 → W p l e R s m args below meth c H locs cells slots Q (F0 m (pc + 3) ls (.ref a2 :: rest))) : W p l e R s m args below meth c H locs cells slots Q (F0 m pc ls (.ref a :: rest)) := pw_get (C := RX9) (T := TX9) (N := 36) F hw 8 (by decide) (by decide) ha twu_RX9 rfl rfl 33 (by decide) hl (fun _ h => h) rfl hdg (kk _ ⟨hw.1.2.2.2.2.1 36 (by unfold pwFix; decide), rfl⟩)
theorem g_8_34 (F : CX p m c cc nL s args own) (hw : WW G S s H locs) {idx : Nat} (ha : AtO S 8 0 a) (hl : Cond.fieldLink own idx "ClockAuctionsModel" "recordPrices" "[J" ∈ wT) (hdg : decode cc pc = .ok (.getfield idx, 3)) (kk : ∀ a2 : Nat, AtO S 37 0 a2 → W p l e R s m args below meth c H locs cells slots Q (F0 m (pc + 3) ls (.ref a2 :: rest))) : W p l e R s m args below meth c H locs cells slots Q (F0 m pc ls (.ref a :: rest)) := pw_get (C := RX9) (T := TX9) (N := 36) F hw 8 (by decide) (by decide) ha twu_RX9 rfl rfl 34 (by decide) hl (fun _ h => h) rfl hdg (kk _ ⟨hw.1.2.2.2.2.1 37 (by unfold pwFix; decide), rfl⟩)
theorem g_8_35 (F : CX p m c cc nL s args own) (hw : WW G S s H locs) {idx : Nat} (ha : AtO S 8 0 a) (hl : Cond.fieldLink own idx "ClockAuctionsModel" "chain" "[I" ∈ wT) (hdg : decode cc pc = .ok (.getfield idx, 3)) (kk : ∀ a2 : Nat, AtO S 38 0 a2 → W p l e R s m args below meth c H locs cells slots Q (F0 m (pc + 3) ls (.ref a2 :: rest))) : W p l e R s m args below meth c H locs cells slots Q (F0 m pc ls (.ref a :: rest)) := pw_get (C := RX9) (T := TX9) (N := 36) F hw 8 (by decide) (by decide) ha twu_RX9 rfl rfl 35 (by decide) hl (fun _ h => h) rfl hdg (kk _ ⟨hw.1.2.2.2.2.1 38 (by unfold pwFix; decide), rfl⟩)
theorem al_10 (F : CX p m c cc nL s args own) (hw : WW G S s H locs) (ha : AtO S 10 0 a) {i : Int32} (hin : vp_in i 60) (hdg : decode cc pc = .ok (.aaload, 1)) (kn : gr S 10 0 i.toNatClampNeg = none → W p l e R s m args below meth c H locs cells slots Q (F0 m (pc + 1) ls (.null :: rest))) (ks : ∀ j2 a2 : Nat, gr S 10 0 i.toNatClampNeg = some j2 → AtO S 5 j2 a2 → W p l e R s m args below meth c H locs cells slots Q (F0 m (pc + 1) ls (.ref a2 :: rest))) : W p l e R s m args below meth c H locs cells slots Q (F0 m pc ls (.int i :: .ref a :: rest)) := pw_aald F hw 10 0 5 (by decide) (by decide) ha rfl rfl rfl hin hdg kn ks
theorem as_10 (F : CX p m c cc nL s args own) (hw : WW G S s H locs) (ha : AtO S 10 0 a) {j2 a2 : Nat} (ha2 : AtO S 5 j2 a2) {i : Int32} (hin : vp_in i 60) (hdg : decode cc pc = .ok (.aastore, 1)) (kk : ∀ (S1 : St) (H1 : Heap) (locs1 : List Loc), S1 = sr S 10 0 i.toNatClampNeg (some j2) → WW G S1 s H1 locs1 → Ext S S1 → W p l e R s m args below meth c H1 locs1 cells slots Q (F0 m (pc + 1) ls rest)) : W p l e R s m args below meth c H locs cells slots Q (F0 m pc ls (.ref a2 :: .int i :: .ref a :: rest)) := pw_aast (r := (RX5, TX5, 12)) F hw 10 0 5 (by decide) (by decide) (by decide) (by decide) ha ha2 (fun _ => rfl) rfl rfl rfl rfl hin hdg kk
theorem ln_10 (F : CX p m c cc nL s args own) (hw : WW G S s H locs) (ha : AtO S 10 0 a) (hdg : decode cc pc = .ok (.arraylength, 1)) (kk : W p l e R s m args below meth c H locs cells slots Q (F0 m (pc + 1) ls (.int 60 :: rest))) : W p l e R s m args below meth c H locs cells slots Q (F0 m pc ls (.ref a :: rest)) := pw_alen F hw 10 0 (by decide) (by decide) ha rfl rfl rfl hdg kk
theorem al_11 (F : CX p m c cc nL s args own) (hw : WW G S s H locs) (ha : AtO S 11 0 a) {i : Int32} (hin : vp_in i 30) (hdg : decode cc pc = .ok (.aaload, 1)) (kn : gr S 11 0 i.toNatClampNeg = none → W p l e R s m args below meth c H locs cells slots Q (F0 m (pc + 1) ls (.null :: rest))) (ks : ∀ j2 a2 : Nat, gr S 11 0 i.toNatClampNeg = some j2 → AtO S 1 j2 a2 → W p l e R s m args below meth c H locs cells slots Q (F0 m (pc + 1) ls (.ref a2 :: rest))) : W p l e R s m args below meth c H locs cells slots Q (F0 m pc ls (.int i :: .ref a :: rest)) := pw_aald F hw 11 1 1 (by decide) (by decide) ha rfl rfl rfl hin hdg kn ks
theorem as_11 (F : CX p m c cc nL s args own) (hw : WW G S s H locs) (ha : AtO S 11 0 a) {j2 a2 : Nat} (ha2 : AtO S 1 j2 a2) {i : Int32} (hin : vp_in i 30) (hdg : decode cc pc = .ok (.aastore, 1)) (kk : ∀ (S1 : St) (H1 : Heap) (locs1 : List Loc), S1 = sr S 11 0 i.toNatClampNeg (some j2) → WW G S1 s H1 locs1 → Ext S S1 → W p l e R s m args below meth c H1 locs1 cells slots Q (F0 m (pc + 1) ls rest)) : W p l e R s m args below meth c H locs cells slots Q (F0 m pc ls (.ref a2 :: .int i :: .ref a :: rest)) := pw_aast (r := (RX1, TX1, 4)) F hw 11 1 1 (by decide) (by decide) (by decide) (by decide) ha ha2 (fun _ => rfl) rfl rfl rfl rfl hin hdg kk
theorem ln_11 (F : CX p m c cc nL s args own) (hw : WW G S s H locs) (ha : AtO S 11 0 a) (hdg : decode cc pc = .ok (.arraylength, 1)) (kk : W p l e R s m args below meth c H locs cells slots Q (F0 m (pc + 1) ls (.int 30 :: rest))) : W p l e R s m args below meth c H locs cells slots Q (F0 m pc ls (.ref a :: rest)) := pw_alen F hw 11 1 (by decide) (by decide) ha rfl rfl rfl hdg kk
theorem al_12 (F : CX p m c cc nL s args own) (hw : WW G S s H locs) (ha : AtO S 12 0 a) {i : Int32} (hin : vp_in i 18) (hdg : decode cc pc = .ok (.aaload, 1)) (kn : gr S 12 0 i.toNatClampNeg = none → W p l e R s m args below meth c H locs cells slots Q (F0 m (pc + 1) ls (.null :: rest))) (ks : ∀ j2 a2 : Nat, gr S 12 0 i.toNatClampNeg = some j2 → AtO S 0 j2 a2 → W p l e R s m args below meth c H locs cells slots Q (F0 m (pc + 1) ls (.ref a2 :: rest))) : W p l e R s m args below meth c H locs cells slots Q (F0 m pc ls (.int i :: .ref a :: rest)) := pw_aald F hw 12 2 0 (by decide) (by decide) ha rfl rfl rfl hin hdg kn ks
theorem as_12 (F : CX p m c cc nL s args own) (hw : WW G S s H locs) (ha : AtO S 12 0 a) {j2 a2 : Nat} (ha2 : AtO S 0 j2 a2) {i : Int32} (hin : vp_in i 18) (hdg : decode cc pc = .ok (.aastore, 1)) (kk : ∀ (S1 : St) (H1 : Heap) (locs1 : List Loc), S1 = sr S 12 0 i.toNatClampNeg (some j2) → WW G S1 s H1 locs1 → Ext S S1 → W p l e R s m args below meth c H1 locs1 cells slots Q (F0 m (pc + 1) ls rest)) : W p l e R s m args below meth c H locs cells slots Q (F0 m pc ls (.ref a2 :: .int i :: .ref a :: rest)) := pw_aast (r := (RX0, TX0, 4)) F hw 12 2 0 (by decide) (by decide) (by decide) (by decide) ha ha2 (fun _ => rfl) rfl rfl rfl rfl hin hdg kk
theorem ln_12 (F : CX p m c cc nL s args own) (hw : WW G S s H locs) (ha : AtO S 12 0 a) (hdg : decode cc pc = .ok (.arraylength, 1)) (kk : W p l e R s m args below meth c H locs cells slots Q (F0 m (pc + 1) ls (.int 18 :: rest))) : W p l e R s m args below meth c H locs cells slots Q (F0 m pc ls (.ref a :: rest)) := pw_alen F hw 12 2 (by decide) (by decide) ha rfl rfl rfl hdg kk
theorem al_13 (F : CX p m c cc nL s args own) (hw : WW G S s H locs) (ha : AtO S 13 0 a) {i : Int32} (hin : vp_in i 240) (hdg : decode cc pc = .ok (.aaload, 1)) (kn : gr S 13 0 i.toNatClampNeg = none → W p l e R s m args below meth c H locs cells slots Q (F0 m (pc + 1) ls (.null :: rest))) (ks : ∀ j2 a2 : Nat, gr S 13 0 i.toNatClampNeg = some j2 → AtO S 3 j2 a2 → W p l e R s m args below meth c H locs cells slots Q (F0 m (pc + 1) ls (.ref a2 :: rest))) : W p l e R s m args below meth c H locs cells slots Q (F0 m pc ls (.int i :: .ref a :: rest)) := pw_aald F hw 13 3 3 (by decide) (by decide) ha rfl rfl rfl hin hdg kn ks
theorem as_13 (F : CX p m c cc nL s args own) (hw : WW G S s H locs) (ha : AtO S 13 0 a) {j2 a2 : Nat} (ha2 : AtO S 3 j2 a2) {i : Int32} (hin : vp_in i 240) (hdg : decode cc pc = .ok (.aastore, 1)) (kk : ∀ (S1 : St) (H1 : Heap) (locs1 : List Loc), S1 = sr S 13 0 i.toNatClampNeg (some j2) → WW G S1 s H1 locs1 → Ext S S1 → W p l e R s m args below meth c H1 locs1 cells slots Q (F0 m (pc + 1) ls rest)) : W p l e R s m args below meth c H locs cells slots Q (F0 m pc ls (.ref a2 :: .int i :: .ref a :: rest)) := pw_aast (r := (RX3, TX3, 5)) F hw 13 3 3 (by decide) (by decide) (by decide) (by decide) ha ha2 (fun _ => rfl) rfl rfl rfl rfl hin hdg kk
theorem ln_13 (F : CX p m c cc nL s args own) (hw : WW G S s H locs) (ha : AtO S 13 0 a) (hdg : decode cc pc = .ok (.arraylength, 1)) (kk : W p l e R s m args below meth c H locs cells slots Q (F0 m (pc + 1) ls (.int 240 :: rest))) : W p l e R s m args below meth c H locs cells slots Q (F0 m pc ls (.ref a :: rest)) := pw_alen F hw 13 3 (by decide) (by decide) ha rfl rfl rfl hdg kk
theorem al_14 (F : CX p m c cc nL s args own) (hw : WW G S s H locs) (ha : AtO S 14 0 a) {i : Int32} (hin : vp_in i 18) (hdg : decode cc pc = .ok (.aaload, 1)) (kn : gr S 14 0 i.toNatClampNeg = none → W p l e R s m args below meth c H locs cells slots Q (F0 m (pc + 1) ls (.null :: rest))) (ks : ∀ j2 a2 : Nat, gr S 14 0 i.toNatClampNeg = some j2 → AtO S 0 j2 a2 → W p l e R s m args below meth c H locs cells slots Q (F0 m (pc + 1) ls (.ref a2 :: rest))) : W p l e R s m args below meth c H locs cells slots Q (F0 m pc ls (.int i :: .ref a :: rest)) := pw_aald F hw 14 4 0 (by decide) (by decide) ha rfl rfl rfl hin hdg kn ks
theorem as_14 (F : CX p m c cc nL s args own) (hw : WW G S s H locs) (ha : AtO S 14 0 a) {j2 a2 : Nat} (ha2 : AtO S 0 j2 a2) {i : Int32} (hin : vp_in i 18) (hdg : decode cc pc = .ok (.aastore, 1)) (kk : ∀ (S1 : St) (H1 : Heap) (locs1 : List Loc), S1 = sr S 14 0 i.toNatClampNeg (some j2) → WW G S1 s H1 locs1 → Ext S S1 → W p l e R s m args below meth c H1 locs1 cells slots Q (F0 m (pc + 1) ls rest)) : W p l e R s m args below meth c H locs cells slots Q (F0 m pc ls (.ref a2 :: .int i :: .ref a :: rest)) := pw_aast (r := (RX0, TX0, 4)) F hw 14 4 0 (by decide) (by decide) (by decide) (by decide) ha ha2 (fun _ => rfl) rfl rfl rfl rfl hin hdg kk
theorem ln_14 (F : CX p m c cc nL s args own) (hw : WW G S s H locs) (ha : AtO S 14 0 a) (hdg : decode cc pc = .ok (.arraylength, 1)) (kk : W p l e R s m args below meth c H locs cells slots Q (F0 m (pc + 1) ls (.int 18 :: rest))) : W p l e R s m args below meth c H locs cells slots Q (F0 m pc ls (.ref a :: rest)) := pw_alen F hw 14 4 (by decide) (by decide) ha rfl rfl rfl hdg kk
theorem al_15 (F : CX p m c cc nL s args own) (hw : WW G S s H locs) (ha : AtO S 15 0 a) {i : Int32} (hin : vp_in i 19) (hdg : decode cc pc = .ok (.laload, 1)) (kk : W p l e R s m args below meth c H locs cells slots Q (F0 m (pc + 1) ls (.long (gj S 15 0 i.toNatClampNeg) :: rest))) : W p l e R s m args below meth c H locs cells slots Q (F0 m pc ls (.int i :: .ref a :: rest)) := pw_lald F hw 15 5 (by decide) (by decide) ha rfl rfl hin hdg kk
theorem as_15 (F : CX p m c cc nL s args own) (hw : WW G S s H locs) (ha : AtO S 15 0 a) {i : Int32} {x : Int64} (hin : vp_in i 19) (hdg : decode cc pc = .ok (.lastore, 1)) (kk : ∀ (S1 : St) (H1 : Heap) (locs1 : List Loc), S1 = sj S 15 0 i.toNatClampNeg x → WW G S1 s H1 locs1 → Ext S S1 → W p l e R s m args below meth c H1 locs1 cells slots Q (F0 m (pc + 1) ls rest)) : W p l e R s m args below meth c H locs cells slots Q (F0 m pc ls (.long x :: .int i :: .ref a :: rest)) := pw_last F hw 15 5 (by decide) (by decide) ha (fun _ => rfl) rfl hin hdg kk
theorem ln_15 (F : CX p m c cc nL s args own) (hw : WW G S s H locs) (ha : AtO S 15 0 a) (hdg : decode cc pc = .ok (.arraylength, 1)) (kk : W p l e R s m args below meth c H locs cells slots Q (F0 m (pc + 1) ls (.int 19 :: rest))) : W p l e R s m args below meth c H locs cells slots Q (F0 m pc ls (.ref a :: rest)) := pw_alen F hw 15 5 (by decide) (by decide) ha rfl rfl rfl hdg kk
theorem al_16 (F : CX p m c cc nL s args own) (hw : WW G S s H locs) (ha : AtO S 16 0 a) {i : Int32} (hin : vp_in i 30) (hdg : decode cc pc = .ok (.laload, 1)) (kk : W p l e R s m args below meth c H locs cells slots Q (F0 m (pc + 1) ls (.long (gj S 16 0 i.toNatClampNeg) :: rest))) : W p l e R s m args below meth c H locs cells slots Q (F0 m pc ls (.int i :: .ref a :: rest)) := pw_lald F hw 16 6 (by decide) (by decide) ha rfl rfl hin hdg kk
theorem as_16 (F : CX p m c cc nL s args own) (hw : WW G S s H locs) (ha : AtO S 16 0 a) {i : Int32} {x : Int64} (hin : vp_in i 30) (hdg : decode cc pc = .ok (.lastore, 1)) (kk : ∀ (S1 : St) (H1 : Heap) (locs1 : List Loc), S1 = sj S 16 0 i.toNatClampNeg x → WW G S1 s H1 locs1 → Ext S S1 → W p l e R s m args below meth c H1 locs1 cells slots Q (F0 m (pc + 1) ls rest)) : W p l e R s m args below meth c H locs cells slots Q (F0 m pc ls (.long x :: .int i :: .ref a :: rest)) := pw_last F hw 16 6 (by decide) (by decide) ha (fun _ => rfl) rfl hin hdg kk
theorem ln_16 (F : CX p m c cc nL s args own) (hw : WW G S s H locs) (ha : AtO S 16 0 a) (hdg : decode cc pc = .ok (.arraylength, 1)) (kk : W p l e R s m args below meth c H locs cells slots Q (F0 m (pc + 1) ls (.int 30 :: rest))) : W p l e R s m args below meth c H locs cells slots Q (F0 m pc ls (.ref a :: rest)) := pw_alen F hw 16 6 (by decide) (by decide) ha rfl rfl rfl hdg kk
theorem al_17 (F : CX p m c cc nL s args own) (hw : WW G S s H locs) (ha : AtO S 17 0 a) {i : Int32} (hin : vp_in i 60) (hdg : decode cc pc = .ok (.iaload, 1)) (kk : W p l e R s m args below meth c H locs cells slots Q (F0 m (pc + 1) ls (.int (gi S 17 0 i.toNatClampNeg) :: rest))) : W p l e R s m args below meth c H locs cells slots Q (F0 m pc ls (.int i :: .ref a :: rest)) := pw_iald F hw 17 7 (by decide) (by decide) ha rfl rfl hin hdg kk
theorem as_17 (F : CX p m c cc nL s args own) (hw : WW G S s H locs) (ha : AtO S 17 0 a) {i : Int32} {x : Int32} (hin : vp_in i 60) (hdg : decode cc pc = .ok (.iastore, 1)) (kk : ∀ (S1 : St) (H1 : Heap) (locs1 : List Loc), S1 = si S 17 0 i.toNatClampNeg x → WW G S1 s H1 locs1 → Ext S S1 → W p l e R s m args below meth c H1 locs1 cells slots Q (F0 m (pc + 1) ls rest)) : W p l e R s m args below meth c H locs cells slots Q (F0 m pc ls (.int x :: .int i :: .ref a :: rest)) := pw_iast F hw 17 7 (by decide) (by decide) ha (fun _ => rfl) rfl hin hdg kk
theorem ln_17 (F : CX p m c cc nL s args own) (hw : WW G S s H locs) (ha : AtO S 17 0 a) (hdg : decode cc pc = .ok (.arraylength, 1)) (kk : W p l e R s m args below meth c H locs cells slots Q (F0 m (pc + 1) ls (.int 60 :: rest))) : W p l e R s m args below meth c H locs cells slots Q (F0 m pc ls (.ref a :: rest)) := pw_alen F hw 17 7 (by decide) (by decide) ha rfl rfl rfl hdg kk
theorem al_18 (F : CX p m c cc nL s args own) (hw : WW G S s H locs) (ha : AtO S 18 0 a) {i : Int32} (hin : vp_in i 60) (hdg : decode cc pc = .ok (.laload, 1)) (kk : W p l e R s m args below meth c H locs cells slots Q (F0 m (pc + 1) ls (.long (gj S 18 0 i.toNatClampNeg) :: rest))) : W p l e R s m args below meth c H locs cells slots Q (F0 m pc ls (.int i :: .ref a :: rest)) := pw_lald F hw 18 8 (by decide) (by decide) ha rfl rfl hin hdg kk
theorem as_18 (F : CX p m c cc nL s args own) (hw : WW G S s H locs) (ha : AtO S 18 0 a) {i : Int32} {x : Int64} (hin : vp_in i 60) (hdg : decode cc pc = .ok (.lastore, 1)) (kk : ∀ (S1 : St) (H1 : Heap) (locs1 : List Loc), S1 = sj S 18 0 i.toNatClampNeg x → WW G S1 s H1 locs1 → Ext S S1 → W p l e R s m args below meth c H1 locs1 cells slots Q (F0 m (pc + 1) ls rest)) : W p l e R s m args below meth c H locs cells slots Q (F0 m pc ls (.long x :: .int i :: .ref a :: rest)) := pw_last F hw 18 8 (by decide) (by decide) ha (fun _ => rfl) rfl hin hdg kk
theorem ln_18 (F : CX p m c cc nL s args own) (hw : WW G S s H locs) (ha : AtO S 18 0 a) (hdg : decode cc pc = .ok (.arraylength, 1)) (kk : W p l e R s m args below meth c H locs cells slots Q (F0 m (pc + 1) ls (.int 60 :: rest))) : W p l e R s m args below meth c H locs cells slots Q (F0 m pc ls (.ref a :: rest)) := pw_alen F hw 18 8 (by decide) (by decide) ha rfl rfl rfl hdg kk
theorem al_19 (F : CX p m c cc nL s args own) (hw : WW G S s H locs) (ha : AtO S 19 0 a) {i : Int32} (hin : vp_in i 60) (hdg : decode cc pc = .ok (.laload, 1)) (kk : W p l e R s m args below meth c H locs cells slots Q (F0 m (pc + 1) ls (.long (gj S 19 0 i.toNatClampNeg) :: rest))) : W p l e R s m args below meth c H locs cells slots Q (F0 m pc ls (.int i :: .ref a :: rest)) := pw_lald F hw 19 9 (by decide) (by decide) ha rfl rfl hin hdg kk
theorem as_19 (F : CX p m c cc nL s args own) (hw : WW G S s H locs) (ha : AtO S 19 0 a) {i : Int32} {x : Int64} (hin : vp_in i 60) (hdg : decode cc pc = .ok (.lastore, 1)) (kk : ∀ (S1 : St) (H1 : Heap) (locs1 : List Loc), S1 = sj S 19 0 i.toNatClampNeg x → WW G S1 s H1 locs1 → Ext S S1 → W p l e R s m args below meth c H1 locs1 cells slots Q (F0 m (pc + 1) ls rest)) : W p l e R s m args below meth c H locs cells slots Q (F0 m pc ls (.long x :: .int i :: .ref a :: rest)) := pw_last F hw 19 9 (by decide) (by decide) ha (fun _ => rfl) rfl hin hdg kk
theorem ln_19 (F : CX p m c cc nL s args own) (hw : WW G S s H locs) (ha : AtO S 19 0 a) (hdg : decode cc pc = .ok (.arraylength, 1)) (kk : W p l e R s m args below meth c H locs cells slots Q (F0 m (pc + 1) ls (.int 60 :: rest))) : W p l e R s m args below meth c H locs cells slots Q (F0 m pc ls (.ref a :: rest)) := pw_alen F hw 19 9 (by decide) (by decide) ha rfl rfl rfl hdg kk
theorem al_20 (F : CX p m c cc nL s args own) (hw : WW G S s H locs) (ha : AtO S 20 0 a) {i : Int32} (hin : vp_in i 60) (hdg : decode cc pc = .ok (.iaload, 1)) (kk : W p l e R s m args below meth c H locs cells slots Q (F0 m (pc + 1) ls (.int (gi S 20 0 i.toNatClampNeg) :: rest))) : W p l e R s m args below meth c H locs cells slots Q (F0 m pc ls (.int i :: .ref a :: rest)) := pw_iald F hw 20 10 (by decide) (by decide) ha rfl rfl hin hdg kk
theorem as_20 (F : CX p m c cc nL s args own) (hw : WW G S s H locs) (ha : AtO S 20 0 a) {i : Int32} {x : Int32} (hin : vp_in i 60) (hdg : decode cc pc = .ok (.iastore, 1)) (kk : ∀ (S1 : St) (H1 : Heap) (locs1 : List Loc), S1 = si S 20 0 i.toNatClampNeg x → WW G S1 s H1 locs1 → Ext S S1 → W p l e R s m args below meth c H1 locs1 cells slots Q (F0 m (pc + 1) ls rest)) : W p l e R s m args below meth c H locs cells slots Q (F0 m pc ls (.int x :: .int i :: .ref a :: rest)) := pw_iast F hw 20 10 (by decide) (by decide) ha (fun _ => rfl) rfl hin hdg kk
theorem ln_20 (F : CX p m c cc nL s args own) (hw : WW G S s H locs) (ha : AtO S 20 0 a) (hdg : decode cc pc = .ok (.arraylength, 1)) (kk : W p l e R s m args below meth c H locs cells slots Q (F0 m (pc + 1) ls (.int 60 :: rest))) : W p l e R s m args below meth c H locs cells slots Q (F0 m pc ls (.ref a :: rest)) := pw_alen F hw 20 10 (by decide) (by decide) ha rfl rfl rfl hdg kk
theorem al_21 (F : CX p m c cc nL s args own) (hw : WW G S s H locs) (ha : AtO S 21 0 a) {i : Int32} (hin : vp_in i 60) (hdg : decode cc pc = .ok (.iaload, 1)) (kk : W p l e R s m args below meth c H locs cells slots Q (F0 m (pc + 1) ls (.int (gi S 21 0 i.toNatClampNeg) :: rest))) : W p l e R s m args below meth c H locs cells slots Q (F0 m pc ls (.int i :: .ref a :: rest)) := pw_iald F hw 21 11 (by decide) (by decide) ha rfl rfl hin hdg kk
theorem as_21 (F : CX p m c cc nL s args own) (hw : WW G S s H locs) (ha : AtO S 21 0 a) {i : Int32} {x : Int32} (hin : vp_in i 60) (hdg : decode cc pc = .ok (.iastore, 1)) (kk : ∀ (S1 : St) (H1 : Heap) (locs1 : List Loc), S1 = si S 21 0 i.toNatClampNeg x → WW G S1 s H1 locs1 → Ext S S1 → W p l e R s m args below meth c H1 locs1 cells slots Q (F0 m (pc + 1) ls rest)) : W p l e R s m args below meth c H locs cells slots Q (F0 m pc ls (.int x :: .int i :: .ref a :: rest)) := pw_iast F hw 21 11 (by decide) (by decide) ha (fun _ => rfl) rfl hin hdg kk
theorem ln_21 (F : CX p m c cc nL s args own) (hw : WW G S s H locs) (ha : AtO S 21 0 a) (hdg : decode cc pc = .ok (.arraylength, 1)) (kk : W p l e R s m args below meth c H locs cells slots Q (F0 m (pc + 1) ls (.int 60 :: rest))) : W p l e R s m args below meth c H locs cells slots Q (F0 m pc ls (.ref a :: rest)) := pw_alen F hw 21 11 (by decide) (by decide) ha rfl rfl rfl hdg kk
theorem al_22 (F : CX p m c cc nL s args own) (hw : WW G S s H locs) (ha : AtO S 22 0 a) {i : Int32} (hin : vp_in i 60) (hdg : decode cc pc = .ok (.laload, 1)) (kk : W p l e R s m args below meth c H locs cells slots Q (F0 m (pc + 1) ls (.long (gj S 22 0 i.toNatClampNeg) :: rest))) : W p l e R s m args below meth c H locs cells slots Q (F0 m pc ls (.int i :: .ref a :: rest)) := pw_lald F hw 22 12 (by decide) (by decide) ha rfl rfl hin hdg kk
theorem as_22 (F : CX p m c cc nL s args own) (hw : WW G S s H locs) (ha : AtO S 22 0 a) {i : Int32} {x : Int64} (hin : vp_in i 60) (hdg : decode cc pc = .ok (.lastore, 1)) (kk : ∀ (S1 : St) (H1 : Heap) (locs1 : List Loc), S1 = sj S 22 0 i.toNatClampNeg x → WW G S1 s H1 locs1 → Ext S S1 → W p l e R s m args below meth c H1 locs1 cells slots Q (F0 m (pc + 1) ls rest)) : W p l e R s m args below meth c H locs cells slots Q (F0 m pc ls (.long x :: .int i :: .ref a :: rest)) := pw_last F hw 22 12 (by decide) (by decide) ha (fun _ => rfl) rfl hin hdg kk
theorem ln_22 (F : CX p m c cc nL s args own) (hw : WW G S s H locs) (ha : AtO S 22 0 a) (hdg : decode cc pc = .ok (.arraylength, 1)) (kk : W p l e R s m args below meth c H locs cells slots Q (F0 m (pc + 1) ls (.int 60 :: rest))) : W p l e R s m args below meth c H locs cells slots Q (F0 m pc ls (.ref a :: rest)) := pw_alen F hw 22 12 (by decide) (by decide) ha rfl rfl rfl hdg kk
theorem al_23 (F : CX p m c cc nL s args own) (hw : WW G S s H locs) (ha : AtO S 23 0 a) {i : Int32} (hin : vp_in i 60) (hdg : decode cc pc = .ok (.baload, 1)) (kk : W p l e R s m args below meth c H locs cells slots Q (F0 m (pc + 1) ls (.int (gi S 23 0 i.toNatClampNeg) :: rest))) : W p l e R s m args below meth c H locs cells slots Q (F0 m pc ls (.int i :: .ref a :: rest)) := pw_zald F hw 23 13 (by decide) (by decide) ha rfl rfl hin hdg kk
theorem as_23 (F : CX p m c cc nL s args own) (hw : WW G S s H locs) (ha : AtO S 23 0 a) {i : Int32} {x : Int32} (hin : vp_in i 60) (hz : bz x) (hdg : decode cc pc = .ok (.bastore, 1)) (kk : ∀ (S1 : St) (H1 : Heap) (locs1 : List Loc), S1 = si S 23 0 i.toNatClampNeg x → WW G S1 s H1 locs1 → Ext S S1 → W p l e R s m args below meth c H1 locs1 cells slots Q (F0 m (pc + 1) ls rest)) : W p l e R s m args below meth c H locs cells slots Q (F0 m pc ls (.int x :: .int i :: .ref a :: rest)) := pw_zast F hw 23 13 (by decide) (by decide) ha (fun _ => rfl) rfl hin (bz_nar hz) hdg kk
theorem ln_23 (F : CX p m c cc nL s args own) (hw : WW G S s H locs) (ha : AtO S 23 0 a) (hdg : decode cc pc = .ok (.arraylength, 1)) (kk : W p l e R s m args below meth c H locs cells slots Q (F0 m (pc + 1) ls (.int 60 :: rest))) : W p l e R s m args below meth c H locs cells slots Q (F0 m pc ls (.ref a :: rest)) := pw_alen F hw 23 13 (by decide) (by decide) ha rfl rfl rfl hdg kk
theorem al_24 (F : CX p m c cc nL s args own) (hw : WW G S s H locs) (ha : AtO S 24 0 a) {i : Int32} (hin : vp_in i 60) (hdg : decode cc pc = .ok (.baload, 1)) (kk : W p l e R s m args below meth c H locs cells slots Q (F0 m (pc + 1) ls (.int (gi S 24 0 i.toNatClampNeg) :: rest))) : W p l e R s m args below meth c H locs cells slots Q (F0 m pc ls (.int i :: .ref a :: rest)) := pw_zald F hw 24 14 (by decide) (by decide) ha rfl rfl hin hdg kk
theorem as_24 (F : CX p m c cc nL s args own) (hw : WW G S s H locs) (ha : AtO S 24 0 a) {i : Int32} {x : Int32} (hin : vp_in i 60) (hz : bz x) (hdg : decode cc pc = .ok (.bastore, 1)) (kk : ∀ (S1 : St) (H1 : Heap) (locs1 : List Loc), S1 = si S 24 0 i.toNatClampNeg x → WW G S1 s H1 locs1 → Ext S S1 → W p l e R s m args below meth c H1 locs1 cells slots Q (F0 m (pc + 1) ls rest)) : W p l e R s m args below meth c H locs cells slots Q (F0 m pc ls (.int x :: .int i :: .ref a :: rest)) := pw_zast F hw 24 14 (by decide) (by decide) ha (fun _ => rfl) rfl hin (bz_nar hz) hdg kk
theorem ln_24 (F : CX p m c cc nL s args own) (hw : WW G S s H locs) (ha : AtO S 24 0 a) (hdg : decode cc pc = .ok (.arraylength, 1)) (kk : W p l e R s m args below meth c H locs cells slots Q (F0 m (pc + 1) ls (.int 60 :: rest))) : W p l e R s m args below meth c H locs cells slots Q (F0 m pc ls (.ref a :: rest)) := pw_alen F hw 24 14 (by decide) (by decide) ha rfl rfl rfl hdg kk
theorem al_25 (F : CX p m c cc nL s args own) (hw : WW G S s H locs) (ha : AtO S 25 0 a) {i : Int32} (hin : vp_in i 60) (hdg : decode cc pc = .ok (.baload, 1)) (kk : W p l e R s m args below meth c H locs cells slots Q (F0 m (pc + 1) ls (.int (gi S 25 0 i.toNatClampNeg) :: rest))) : W p l e R s m args below meth c H locs cells slots Q (F0 m pc ls (.int i :: .ref a :: rest)) := pw_zald F hw 25 15 (by decide) (by decide) ha rfl rfl hin hdg kk
theorem as_25 (F : CX p m c cc nL s args own) (hw : WW G S s H locs) (ha : AtO S 25 0 a) {i : Int32} {x : Int32} (hin : vp_in i 60) (hz : bz x) (hdg : decode cc pc = .ok (.bastore, 1)) (kk : ∀ (S1 : St) (H1 : Heap) (locs1 : List Loc), S1 = si S 25 0 i.toNatClampNeg x → WW G S1 s H1 locs1 → Ext S S1 → W p l e R s m args below meth c H1 locs1 cells slots Q (F0 m (pc + 1) ls rest)) : W p l e R s m args below meth c H locs cells slots Q (F0 m pc ls (.int x :: .int i :: .ref a :: rest)) := pw_zast F hw 25 15 (by decide) (by decide) ha (fun _ => rfl) rfl hin (bz_nar hz) hdg kk
theorem ln_25 (F : CX p m c cc nL s args own) (hw : WW G S s H locs) (ha : AtO S 25 0 a) (hdg : decode cc pc = .ok (.arraylength, 1)) (kk : W p l e R s m args below meth c H locs cells slots Q (F0 m (pc + 1) ls (.int 60 :: rest))) : W p l e R s m args below meth c H locs cells slots Q (F0 m pc ls (.ref a :: rest)) := pw_alen F hw 25 15 (by decide) (by decide) ha rfl rfl rfl hdg kk
theorem al_26 (F : CX p m c cc nL s args own) (hw : WW G S s H locs) (ha : AtO S 26 0 a) {i : Int32} (hin : vp_in i 60) (hdg : decode cc pc = .ok (.laload, 1)) (kk : W p l e R s m args below meth c H locs cells slots Q (F0 m (pc + 1) ls (.long (gj S 26 0 i.toNatClampNeg) :: rest))) : W p l e R s m args below meth c H locs cells slots Q (F0 m pc ls (.int i :: .ref a :: rest)) := pw_lald F hw 26 16 (by decide) (by decide) ha rfl rfl hin hdg kk
theorem as_26 (F : CX p m c cc nL s args own) (hw : WW G S s H locs) (ha : AtO S 26 0 a) {i : Int32} {x : Int64} (hin : vp_in i 60) (hdg : decode cc pc = .ok (.lastore, 1)) (kk : ∀ (S1 : St) (H1 : Heap) (locs1 : List Loc), S1 = sj S 26 0 i.toNatClampNeg x → WW G S1 s H1 locs1 → Ext S S1 → W p l e R s m args below meth c H1 locs1 cells slots Q (F0 m (pc + 1) ls rest)) : W p l e R s m args below meth c H locs cells slots Q (F0 m pc ls (.long x :: .int i :: .ref a :: rest)) := pw_last F hw 26 16 (by decide) (by decide) ha (fun _ => rfl) rfl hin hdg kk
theorem ln_26 (F : CX p m c cc nL s args own) (hw : WW G S s H locs) (ha : AtO S 26 0 a) (hdg : decode cc pc = .ok (.arraylength, 1)) (kk : W p l e R s m args below meth c H locs cells slots Q (F0 m (pc + 1) ls (.int 60 :: rest))) : W p l e R s m args below meth c H locs cells slots Q (F0 m pc ls (.ref a :: rest)) := pw_alen F hw 26 16 (by decide) (by decide) ha rfl rfl rfl hdg kk
theorem al_27 (F : CX p m c cc nL s args own) (hw : WW G S s H locs) (ha : AtO S 27 0 a) {i : Int32} (hin : vp_in i 60) (hdg : decode cc pc = .ok (.iaload, 1)) (kk : W p l e R s m args below meth c H locs cells slots Q (F0 m (pc + 1) ls (.int (gi S 27 0 i.toNatClampNeg) :: rest))) : W p l e R s m args below meth c H locs cells slots Q (F0 m pc ls (.int i :: .ref a :: rest)) := pw_iald F hw 27 17 (by decide) (by decide) ha rfl rfl hin hdg kk
theorem as_27 (F : CX p m c cc nL s args own) (hw : WW G S s H locs) (ha : AtO S 27 0 a) {i : Int32} {x : Int32} (hin : vp_in i 60) (hdg : decode cc pc = .ok (.iastore, 1)) (kk : ∀ (S1 : St) (H1 : Heap) (locs1 : List Loc), S1 = si S 27 0 i.toNatClampNeg x → WW G S1 s H1 locs1 → Ext S S1 → W p l e R s m args below meth c H1 locs1 cells slots Q (F0 m (pc + 1) ls rest)) : W p l e R s m args below meth c H locs cells slots Q (F0 m pc ls (.int x :: .int i :: .ref a :: rest)) := pw_iast F hw 27 17 (by decide) (by decide) ha (fun _ => rfl) rfl hin hdg kk
theorem ln_27 (F : CX p m c cc nL s args own) (hw : WW G S s H locs) (ha : AtO S 27 0 a) (hdg : decode cc pc = .ok (.arraylength, 1)) (kk : W p l e R s m args below meth c H locs cells slots Q (F0 m (pc + 1) ls (.int 60 :: rest))) : W p l e R s m args below meth c H locs cells slots Q (F0 m pc ls (.ref a :: rest)) := pw_alen F hw 27 17 (by decide) (by decide) ha rfl rfl rfl hdg kk
theorem al_28 (F : CX p m c cc nL s args own) (hw : WW G S s H locs) (ha : AtO S 28 0 a) {i : Int32} (hin : vp_in i 30) (hdg : decode cc pc = .ok (.laload, 1)) (kk : W p l e R s m args below meth c H locs cells slots Q (F0 m (pc + 1) ls (.long (gj S 28 0 i.toNatClampNeg) :: rest))) : W p l e R s m args below meth c H locs cells slots Q (F0 m pc ls (.int i :: .ref a :: rest)) := pw_lald F hw 28 18 (by decide) (by decide) ha rfl rfl hin hdg kk
theorem as_28 (F : CX p m c cc nL s args own) (hw : WW G S s H locs) (ha : AtO S 28 0 a) {i : Int32} {x : Int64} (hin : vp_in i 30) (hdg : decode cc pc = .ok (.lastore, 1)) (kk : ∀ (S1 : St) (H1 : Heap) (locs1 : List Loc), S1 = sj S 28 0 i.toNatClampNeg x → WW G S1 s H1 locs1 → Ext S S1 → W p l e R s m args below meth c H1 locs1 cells slots Q (F0 m (pc + 1) ls rest)) : W p l e R s m args below meth c H locs cells slots Q (F0 m pc ls (.long x :: .int i :: .ref a :: rest)) := pw_last F hw 28 18 (by decide) (by decide) ha (fun _ => rfl) rfl hin hdg kk
theorem ln_28 (F : CX p m c cc nL s args own) (hw : WW G S s H locs) (ha : AtO S 28 0 a) (hdg : decode cc pc = .ok (.arraylength, 1)) (kk : W p l e R s m args below meth c H locs cells slots Q (F0 m (pc + 1) ls (.int 30 :: rest))) : W p l e R s m args below meth c H locs cells slots Q (F0 m pc ls (.ref a :: rest)) := pw_alen F hw 28 18 (by decide) (by decide) ha rfl rfl rfl hdg kk
theorem al_29 (F : CX p m c cc nL s args own) (hw : WW G S s H locs) (ha : AtO S 29 0 a) {i : Int32} (hin : vp_in i 30) (hdg : decode cc pc = .ok (.laload, 1)) (kk : W p l e R s m args below meth c H locs cells slots Q (F0 m (pc + 1) ls (.long (gj S 29 0 i.toNatClampNeg) :: rest))) : W p l e R s m args below meth c H locs cells slots Q (F0 m pc ls (.int i :: .ref a :: rest)) := pw_lald F hw 29 19 (by decide) (by decide) ha rfl rfl hin hdg kk
theorem as_29 (F : CX p m c cc nL s args own) (hw : WW G S s H locs) (ha : AtO S 29 0 a) {i : Int32} {x : Int64} (hin : vp_in i 30) (hdg : decode cc pc = .ok (.lastore, 1)) (kk : ∀ (S1 : St) (H1 : Heap) (locs1 : List Loc), S1 = sj S 29 0 i.toNatClampNeg x → WW G S1 s H1 locs1 → Ext S S1 → W p l e R s m args below meth c H1 locs1 cells slots Q (F0 m (pc + 1) ls rest)) : W p l e R s m args below meth c H locs cells slots Q (F0 m pc ls (.long x :: .int i :: .ref a :: rest)) := pw_last F hw 29 19 (by decide) (by decide) ha (fun _ => rfl) rfl hin hdg kk
theorem ln_29 (F : CX p m c cc nL s args own) (hw : WW G S s H locs) (ha : AtO S 29 0 a) (hdg : decode cc pc = .ok (.arraylength, 1)) (kk : W p l e R s m args below meth c H locs cells slots Q (F0 m (pc + 1) ls (.int 30 :: rest))) : W p l e R s m args below meth c H locs cells slots Q (F0 m pc ls (.ref a :: rest)) := pw_alen F hw 29 19 (by decide) (by decide) ha rfl rfl rfl hdg kk
theorem al_30 (F : CX p m c cc nL s args own) (hw : WW G S s H locs) (ha : AtO S 30 0 a) {i : Int32} (hin : vp_in i 30) (hdg : decode cc pc = .ok (.laload, 1)) (kk : W p l e R s m args below meth c H locs cells slots Q (F0 m (pc + 1) ls (.long (gj S 30 0 i.toNatClampNeg) :: rest))) : W p l e R s m args below meth c H locs cells slots Q (F0 m pc ls (.int i :: .ref a :: rest)) := pw_lald F hw 30 20 (by decide) (by decide) ha rfl rfl hin hdg kk
theorem as_30 (F : CX p m c cc nL s args own) (hw : WW G S s H locs) (ha : AtO S 30 0 a) {i : Int32} {x : Int64} (hin : vp_in i 30) (hdg : decode cc pc = .ok (.lastore, 1)) (kk : ∀ (S1 : St) (H1 : Heap) (locs1 : List Loc), S1 = sj S 30 0 i.toNatClampNeg x → WW G S1 s H1 locs1 → Ext S S1 → W p l e R s m args below meth c H1 locs1 cells slots Q (F0 m (pc + 1) ls rest)) : W p l e R s m args below meth c H locs cells slots Q (F0 m pc ls (.long x :: .int i :: .ref a :: rest)) := pw_last F hw 30 20 (by decide) (by decide) ha (fun _ => rfl) rfl hin hdg kk
theorem ln_30 (F : CX p m c cc nL s args own) (hw : WW G S s H locs) (ha : AtO S 30 0 a) (hdg : decode cc pc = .ok (.arraylength, 1)) (kk : W p l e R s m args below meth c H locs cells slots Q (F0 m (pc + 1) ls (.int 30 :: rest))) : W p l e R s m args below meth c H locs cells slots Q (F0 m pc ls (.ref a :: rest)) := pw_alen F hw 30 20 (by decide) (by decide) ha rfl rfl rfl hdg kk
theorem al_31 (F : CX p m c cc nL s args own) (hw : WW G S s H locs) (ha : AtO S 31 0 a) {i : Int32} (hin : vp_in i 18) (hdg : decode cc pc = .ok (.iaload, 1)) (kk : W p l e R s m args below meth c H locs cells slots Q (F0 m (pc + 1) ls (.int (gi S 31 0 i.toNatClampNeg) :: rest))) : W p l e R s m args below meth c H locs cells slots Q (F0 m pc ls (.int i :: .ref a :: rest)) := pw_iald F hw 31 21 (by decide) (by decide) ha rfl rfl hin hdg kk
theorem as_31 (F : CX p m c cc nL s args own) (hw : WW G S s H locs) (ha : AtO S 31 0 a) {i : Int32} {x : Int32} (hin : vp_in i 18) (hdg : decode cc pc = .ok (.iastore, 1)) (kk : ∀ (S1 : St) (H1 : Heap) (locs1 : List Loc), S1 = si S 31 0 i.toNatClampNeg x → WW G S1 s H1 locs1 → Ext S S1 → W p l e R s m args below meth c H1 locs1 cells slots Q (F0 m (pc + 1) ls rest)) : W p l e R s m args below meth c H locs cells slots Q (F0 m pc ls (.int x :: .int i :: .ref a :: rest)) := pw_iast F hw 31 21 (by decide) (by decide) ha (fun _ => rfl) rfl hin hdg kk
theorem ln_31 (F : CX p m c cc nL s args own) (hw : WW G S s H locs) (ha : AtO S 31 0 a) (hdg : decode cc pc = .ok (.arraylength, 1)) (kk : W p l e R s m args below meth c H locs cells slots Q (F0 m (pc + 1) ls (.int 18 :: rest))) : W p l e R s m args below meth c H locs cells slots Q (F0 m pc ls (.ref a :: rest)) := pw_alen F hw 31 21 (by decide) (by decide) ha rfl rfl rfl hdg kk
theorem al_32 (F : CX p m c cc nL s args own) (hw : WW G S s H locs) (ha : AtO S 32 0 a) {i : Int32} (hin : vp_in i 18) (hdg : decode cc pc = .ok (.laload, 1)) (kk : W p l e R s m args below meth c H locs cells slots Q (F0 m (pc + 1) ls (.long (gj S 32 0 i.toNatClampNeg) :: rest))) : W p l e R s m args below meth c H locs cells slots Q (F0 m pc ls (.int i :: .ref a :: rest)) := pw_lald F hw 32 22 (by decide) (by decide) ha rfl rfl hin hdg kk
theorem as_32 (F : CX p m c cc nL s args own) (hw : WW G S s H locs) (ha : AtO S 32 0 a) {i : Int32} {x : Int64} (hin : vp_in i 18) (hdg : decode cc pc = .ok (.lastore, 1)) (kk : ∀ (S1 : St) (H1 : Heap) (locs1 : List Loc), S1 = sj S 32 0 i.toNatClampNeg x → WW G S1 s H1 locs1 → Ext S S1 → W p l e R s m args below meth c H1 locs1 cells slots Q (F0 m (pc + 1) ls rest)) : W p l e R s m args below meth c H locs cells slots Q (F0 m pc ls (.long x :: .int i :: .ref a :: rest)) := pw_last F hw 32 22 (by decide) (by decide) ha (fun _ => rfl) rfl hin hdg kk
theorem ln_32 (F : CX p m c cc nL s args own) (hw : WW G S s H locs) (ha : AtO S 32 0 a) (hdg : decode cc pc = .ok (.arraylength, 1)) (kk : W p l e R s m args below meth c H locs cells slots Q (F0 m (pc + 1) ls (.int 18 :: rest))) : W p l e R s m args below meth c H locs cells slots Q (F0 m pc ls (.ref a :: rest)) := pw_alen F hw 32 22 (by decide) (by decide) ha rfl rfl rfl hdg kk
theorem al_33 (F : CX p m c cc nL s args own) (hw : WW G S s H locs) (ha : AtO S 33 0 a) {i : Int32} (hin : vp_in i 18) (hdg : decode cc pc = .ok (.laload, 1)) (kk : W p l e R s m args below meth c H locs cells slots Q (F0 m (pc + 1) ls (.long (gj S 33 0 i.toNatClampNeg) :: rest))) : W p l e R s m args below meth c H locs cells slots Q (F0 m pc ls (.int i :: .ref a :: rest)) := pw_lald F hw 33 23 (by decide) (by decide) ha rfl rfl hin hdg kk
theorem as_33 (F : CX p m c cc nL s args own) (hw : WW G S s H locs) (ha : AtO S 33 0 a) {i : Int32} {x : Int64} (hin : vp_in i 18) (hdg : decode cc pc = .ok (.lastore, 1)) (kk : ∀ (S1 : St) (H1 : Heap) (locs1 : List Loc), S1 = sj S 33 0 i.toNatClampNeg x → WW G S1 s H1 locs1 → Ext S S1 → W p l e R s m args below meth c H1 locs1 cells slots Q (F0 m (pc + 1) ls rest)) : W p l e R s m args below meth c H locs cells slots Q (F0 m pc ls (.long x :: .int i :: .ref a :: rest)) := pw_last F hw 33 23 (by decide) (by decide) ha (fun _ => rfl) rfl hin hdg kk
theorem ln_33 (F : CX p m c cc nL s args own) (hw : WW G S s H locs) (ha : AtO S 33 0 a) (hdg : decode cc pc = .ok (.arraylength, 1)) (kk : W p l e R s m args below meth c H locs cells slots Q (F0 m (pc + 1) ls (.int 18 :: rest))) : W p l e R s m args below meth c H locs cells slots Q (F0 m pc ls (.ref a :: rest)) := pw_alen F hw 33 23 (by decide) (by decide) ha rfl rfl rfl hdg kk
theorem al_34 (F : CX p m c cc nL s args own) (hw : WW G S s H locs) (ha : AtO S 34 0 a) {i : Int32} (hin : vp_in i 1024) (hdg : decode cc pc = .ok (.iaload, 1)) (kk : W p l e R s m args below meth c H locs cells slots Q (F0 m (pc + 1) ls (.int (gi S 34 0 i.toNatClampNeg) :: rest))) : W p l e R s m args below meth c H locs cells slots Q (F0 m pc ls (.int i :: .ref a :: rest)) := pw_iald F hw 34 24 (by decide) (by decide) ha rfl rfl hin hdg kk
theorem as_34 (F : CX p m c cc nL s args own) (hw : WW G S s H locs) (ha : AtO S 34 0 a) {i : Int32} {x : Int32} (hin : vp_in i 1024) (hdg : decode cc pc = .ok (.iastore, 1)) (kk : ∀ (S1 : St) (H1 : Heap) (locs1 : List Loc), S1 = si S 34 0 i.toNatClampNeg x → WW G S1 s H1 locs1 → Ext S S1 → W p l e R s m args below meth c H1 locs1 cells slots Q (F0 m (pc + 1) ls rest)) : W p l e R s m args below meth c H locs cells slots Q (F0 m pc ls (.int x :: .int i :: .ref a :: rest)) := pw_iast F hw 34 24 (by decide) (by decide) ha (fun _ => rfl) rfl hin hdg kk
theorem ln_34 (F : CX p m c cc nL s args own) (hw : WW G S s H locs) (ha : AtO S 34 0 a) (hdg : decode cc pc = .ok (.arraylength, 1)) (kk : W p l e R s m args below meth c H locs cells slots Q (F0 m (pc + 1) ls (.int 1024 :: rest))) : W p l e R s m args below meth c H locs cells slots Q (F0 m pc ls (.ref a :: rest)) := pw_alen F hw 34 24 (by decide) (by decide) ha rfl rfl rfl hdg kk
theorem al_35 (F : CX p m c cc nL s args own) (hw : WW G S s H locs) (ha : AtO S 35 0 a) {i : Int32} (hin : vp_in i 1024) (hdg : decode cc pc = .ok (.iaload, 1)) (kk : W p l e R s m args below meth c H locs cells slots Q (F0 m (pc + 1) ls (.int (gi S 35 0 i.toNatClampNeg) :: rest))) : W p l e R s m args below meth c H locs cells slots Q (F0 m pc ls (.int i :: .ref a :: rest)) := pw_iald F hw 35 25 (by decide) (by decide) ha rfl rfl hin hdg kk
theorem as_35 (F : CX p m c cc nL s args own) (hw : WW G S s H locs) (ha : AtO S 35 0 a) {i : Int32} {x : Int32} (hin : vp_in i 1024) (hdg : decode cc pc = .ok (.iastore, 1)) (kk : ∀ (S1 : St) (H1 : Heap) (locs1 : List Loc), S1 = si S 35 0 i.toNatClampNeg x → WW G S1 s H1 locs1 → Ext S S1 → W p l e R s m args below meth c H1 locs1 cells slots Q (F0 m (pc + 1) ls rest)) : W p l e R s m args below meth c H locs cells slots Q (F0 m pc ls (.int x :: .int i :: .ref a :: rest)) := pw_iast F hw 35 25 (by decide) (by decide) ha (fun _ => rfl) rfl hin hdg kk
theorem ln_35 (F : CX p m c cc nL s args own) (hw : WW G S s H locs) (ha : AtO S 35 0 a) (hdg : decode cc pc = .ok (.arraylength, 1)) (kk : W p l e R s m args below meth c H locs cells slots Q (F0 m (pc + 1) ls (.int 1024 :: rest))) : W p l e R s m args below meth c H locs cells slots Q (F0 m pc ls (.ref a :: rest)) := pw_alen F hw 35 25 (by decide) (by decide) ha rfl rfl rfl hdg kk
theorem al_36 (F : CX p m c cc nL s args own) (hw : WW G S s H locs) (ha : AtO S 36 0 a) {i : Int32} (hin : vp_in i 1024) (hdg : decode cc pc = .ok (.iaload, 1)) (kk : W p l e R s m args below meth c H locs cells slots Q (F0 m (pc + 1) ls (.int (gi S 36 0 i.toNatClampNeg) :: rest))) : W p l e R s m args below meth c H locs cells slots Q (F0 m pc ls (.int i :: .ref a :: rest)) := pw_iald F hw 36 26 (by decide) (by decide) ha rfl rfl hin hdg kk
theorem as_36 (F : CX p m c cc nL s args own) (hw : WW G S s H locs) (ha : AtO S 36 0 a) {i : Int32} {x : Int32} (hin : vp_in i 1024) (hdg : decode cc pc = .ok (.iastore, 1)) (kk : ∀ (S1 : St) (H1 : Heap) (locs1 : List Loc), S1 = si S 36 0 i.toNatClampNeg x → WW G S1 s H1 locs1 → Ext S S1 → W p l e R s m args below meth c H1 locs1 cells slots Q (F0 m (pc + 1) ls rest)) : W p l e R s m args below meth c H locs cells slots Q (F0 m pc ls (.int x :: .int i :: .ref a :: rest)) := pw_iast F hw 36 26 (by decide) (by decide) ha (fun _ => rfl) rfl hin hdg kk
theorem ln_36 (F : CX p m c cc nL s args own) (hw : WW G S s H locs) (ha : AtO S 36 0 a) (hdg : decode cc pc = .ok (.arraylength, 1)) (kk : W p l e R s m args below meth c H locs cells slots Q (F0 m (pc + 1) ls (.int 1024 :: rest))) : W p l e R s m args below meth c H locs cells slots Q (F0 m pc ls (.ref a :: rest)) := pw_alen F hw 36 26 (by decide) (by decide) ha rfl rfl rfl hdg kk
theorem al_37 (F : CX p m c cc nL s args own) (hw : WW G S s H locs) (ha : AtO S 37 0 a) {i : Int32} (hin : vp_in i 1024) (hdg : decode cc pc = .ok (.laload, 1)) (kk : W p l e R s m args below meth c H locs cells slots Q (F0 m (pc + 1) ls (.long (gj S 37 0 i.toNatClampNeg) :: rest))) : W p l e R s m args below meth c H locs cells slots Q (F0 m pc ls (.int i :: .ref a :: rest)) := pw_lald F hw 37 27 (by decide) (by decide) ha rfl rfl hin hdg kk
theorem as_37 (F : CX p m c cc nL s args own) (hw : WW G S s H locs) (ha : AtO S 37 0 a) {i : Int32} {x : Int64} (hin : vp_in i 1024) (hdg : decode cc pc = .ok (.lastore, 1)) (kk : ∀ (S1 : St) (H1 : Heap) (locs1 : List Loc), S1 = sj S 37 0 i.toNatClampNeg x → WW G S1 s H1 locs1 → Ext S S1 → W p l e R s m args below meth c H1 locs1 cells slots Q (F0 m (pc + 1) ls rest)) : W p l e R s m args below meth c H locs cells slots Q (F0 m pc ls (.long x :: .int i :: .ref a :: rest)) := pw_last F hw 37 27 (by decide) (by decide) ha (fun _ => rfl) rfl hin hdg kk
theorem ln_37 (F : CX p m c cc nL s args own) (hw : WW G S s H locs) (ha : AtO S 37 0 a) (hdg : decode cc pc = .ok (.arraylength, 1)) (kk : W p l e R s m args below meth c H locs cells slots Q (F0 m (pc + 1) ls (.int 1024 :: rest))) : W p l e R s m args below meth c H locs cells slots Q (F0 m pc ls (.ref a :: rest)) := pw_alen F hw 37 27 (by decide) (by decide) ha rfl rfl rfl hdg kk
theorem al_38 (F : CX p m c cc nL s args own) (hw : WW G S s H locs) (ha : AtO S 38 0 a) {i : Int32} (hin : vp_in i 1024) (hdg : decode cc pc = .ok (.iaload, 1)) (kk : W p l e R s m args below meth c H locs cells slots Q (F0 m (pc + 1) ls (.int (gi S 38 0 i.toNatClampNeg) :: rest))) : W p l e R s m args below meth c H locs cells slots Q (F0 m pc ls (.int i :: .ref a :: rest)) := pw_iald F hw 38 28 (by decide) (by decide) ha rfl rfl hin hdg kk
theorem as_38 (F : CX p m c cc nL s args own) (hw : WW G S s H locs) (ha : AtO S 38 0 a) {i : Int32} {x : Int32} (hin : vp_in i 1024) (hdg : decode cc pc = .ok (.iastore, 1)) (kk : ∀ (S1 : St) (H1 : Heap) (locs1 : List Loc), S1 = si S 38 0 i.toNatClampNeg x → WW G S1 s H1 locs1 → Ext S S1 → W p l e R s m args below meth c H1 locs1 cells slots Q (F0 m (pc + 1) ls rest)) : W p l e R s m args below meth c H locs cells slots Q (F0 m pc ls (.int x :: .int i :: .ref a :: rest)) := pw_iast F hw 38 28 (by decide) (by decide) ha (fun _ => rfl) rfl hin hdg kk
theorem ln_38 (F : CX p m c cc nL s args own) (hw : WW G S s H locs) (ha : AtO S 38 0 a) (hdg : decode cc pc = .ok (.arraylength, 1)) (kk : W p l e R s m args below meth c H locs cells slots Q (F0 m (pc + 1) ls (.int 1024 :: rest))) : W p l e R s m args below meth c H locs cells slots Q (F0 m pc ls (.ref a :: rest)) := pw_alen F hw 38 28 (by decide) (by decide) ha rfl rfl rfl hdg kk
theorem nw_0 (F : CX p m c cc nL s args own) (hw : WW G S s H locs) {idx : Nat} (hcl : Cond.classLink own idx RX0 ∈ wT) (hcells : cells + 1 ≤ R.cells) (hslots : slots + 4 ≤ R.slots) (hdg : decode cc pc = .ok (.new idx, 3)) (kk : ∀ (S1 : St) (a1 : Nat) (H1 : Heap), S1 = sn S 0 → AtO S1 0 (gn S 0) a1 → WW G S1 s H1 locs → Ext S S1 → W p l e R s m args below meth c H1 locs (cells + 1) (slots + 4) Q (F0 m (pc + 3) ls (.ref a1 :: rest))) : W p l e R s m args below meth c H locs cells slots Q (F0 m pc ls rest) :=
  pw_new (ci := 0) (C := RX0) (T := TX0) (N := 4) (fs := [.int 0, .int 0, .long 0, .long 0]) F hw 0 (by decide) twu_RX0 tyX0 tyX0_ok hcl twt_RX0 twn_RX0 rfl (fun S j h1 h2 h3 => by unfold pcS; rw [h1, h2, h3]; rfl) (fun q hq => by rcases (show q = 0 ∨ q = 1 ∨ q = 2 ∨ q = 3 by omega) with rfl | rfl | rfl | rfl <;> rfl) hcells hslots hdg kk
theorem nw_1 (F : CX p m c cc nL s args own) (hw : WW G S s H locs) {idx : Nat} (hcl : Cond.classLink own idx RX1 ∈ wT) (hcells : cells + 1 ≤ R.cells) (hslots : slots + 4 ≤ R.slots) (hdg : decode cc pc = .ok (.new idx, 3)) (kk : ∀ (S1 : St) (a1 : Nat) (H1 : Heap), S1 = sn S 1 → AtO S1 1 (gn S 1) a1 → WW G S1 s H1 locs → Ext S S1 → W p l e R s m args below meth c H1 locs (cells + 1) (slots + 4) Q (F0 m (pc + 3) ls (.ref a1 :: rest))) : W p l e R s m args below meth c H locs cells slots Q (F0 m pc ls rest) :=
  pw_new (ci := 1) (C := RX1) (T := TX1) (N := 4) (fs := [.int 0, .long 0, .long 0, .long 0]) F hw 1 (by decide) twu_RX1 tyX1 tyX1_ok hcl twt_RX1 twn_RX1 rfl (fun S j h1 h2 h3 => by unfold pcS; rw [h1, h2, h3]; rfl) (fun q hq => by rcases (show q = 0 ∨ q = 1 ∨ q = 2 ∨ q = 3 by omega) with rfl | rfl | rfl | rfl <;> rfl) hcells hslots hdg kk
theorem nw_3 (F : CX p m c cc nL s args own) (hw : WW G S s H locs) {idx : Nat} (hcl : Cond.classLink own idx RX3 ∈ wT) (hcells : cells + 1 ≤ R.cells) (hslots : slots + 5 ≤ R.slots) (hdg : decode cc pc = .ok (.new idx, 3)) (kk : ∀ (S1 : St) (a1 : Nat) (H1 : Heap), S1 = sn S 3 → AtO S1 3 (gn S 3) a1 → WW G S1 s H1 locs → Ext S S1 → W p l e R s m args below meth c H1 locs (cells + 1) (slots + 5) Q (F0 m (pc + 3) ls (.ref a1 :: rest))) : W p l e R s m args below meth c H locs cells slots Q (F0 m pc ls rest) :=
  pw_new (ci := 3) (C := RX3) (T := TX3) (N := 5) (fs := [.int 0, .int 0, .int 0, .long 0, .int 0]) F hw 3 (by decide) twu_RX3 tyX3 tyX3_ok hcl twt_RX3 twn_RX3 rfl (fun S j h1 h2 h3 => by unfold pcS; rw [h1, h2, h3]; rfl) (fun q hq => by rcases (show q = 0 ∨ q = 1 ∨ q = 2 ∨ q = 3 ∨ q = 4 by omega) with rfl | rfl | rfl | rfl | rfl <;> rfl) hcells hslots hdg kk
theorem nw_5 (F : CX p m c cc nL s args own) (hw : WW G S s H locs) {idx : Nat} (hcl : Cond.classLink own idx RX5 ∈ wT) (hcells : cells + 1 ≤ R.cells) (hslots : slots + 12 ≤ R.slots) (hdg : decode cc pc = .ok (.new idx, 3)) (kk : ∀ (S1 : St) (a1 : Nat) (H1 : Heap), S1 = sn S 5 → AtO S1 5 (gn S 5) a1 → WW G S1 s H1 locs → Ext S S1 → W p l e R s m args below meth c H1 locs (cells + 1) (slots + 12) Q (F0 m (pc + 3) ls (.ref a1 :: rest))) : W p l e R s m args below meth c H locs cells slots Q (F0 m pc ls rest) :=
  pw_new (ci := 5) (C := RX5) (T := TX5) (N := 12) (fs := [.int 0, .int 0, .long 0, .long 0, .null, .int 0, .long 0, .long 0, .int 0, .int 0, .int 0, .int 0]) F hw 5 (by decide) twu_RX5 tyX5 tyX5_ok hcl twt_RX5 twn_RX5 rfl (fun S j h1 h2 h3 => by unfold pcS; rw [h1, h2, h3]; rfl) (fun q hq => by rcases (show q = 0 ∨ q = 1 ∨ q = 2 ∨ q = 3 ∨ q = 4 ∨ q = 5 ∨ q = 6 ∨ q = 7 ∨ q = 8 ∨ q = 9 ∨ q = 10 ∨ q = 11 by omega) with rfl | rfl | rfl | rfl | rfl | rfl | rfl | rfl | rfl | rfl | rfl | rfl <;> rfl) hcells hslots hdg kk
end RWS
end
section
section JDK
variable {p : Program} {l : Launch} {e : Env} {R : Room} {s : State} {m : MethodId} {args : Array Value} {below : List Frame} {meth : Method} {c : Code} {H : Heap} {locs : List Loc} {cells slots : Nat} {Q : State → Prop}
variable {cc : ByteArray} {pc nL : Nat} {ls : Array Slot} {rest : List Value} {own : String} {a idx : Nat} {lv : List (Nat × Value)}
theorem twx_max : Cond.code Lib.MathLoose.max_long.x Lib.MathLoose.max_long.code 4 (some .long) ∈ wT := wT_mem (n := 422) (by decide +kernel) rfl
theorem twx_min : Cond.code Lib.MathLoose.min_long.x Lib.MathLoose.min_long.code 4 (some .long) ∈ wT := wT_mem (n := 441) (by decide +kernel) rfl
theorem o_init (F : CX p m c cc nL s args own) (hl : lv_has ls nL lv) (h1 : Cond.methodLink own idx objectInit ∈ wT) (hdg : decode cc pc = .ok (.invokespecial idx, 3)) (hR1 : 1 ≤ R.frames) (hR2 : (rest.map fun v => v.category).sum + 12 ≤ R.locals)
    (kk : W p l e R s m args below meth c H locs cells slots Q (F0 m (pc + 3) ls rest)) : W p l e R s m args below meth c H locs cells slots Q (F0 m pc ls (.ref a :: rest)) :=
  W.objInit F.1 F.2.1 F.2.2.2.1 (F.2.2.2.2 _ h1) (F.2.2.2.2 _ twi_objectInit) (F.2.2.2.2 _ two_objectInit) rfl (by rw [F.2.2.1]; exact hl.1) rfl hdg hR1 (by show 2 * 0 + _ + 12 ≤ _; omega) kk
theorem mx_l (F : CX p m c cc nL s args own) (hl : lv_has ls nL lv) (h1 : Cond.methodLink own idx Lib.MathLoose.max_long.x ∈ wT) {x y : Int64} (hdg : decode cc pc = .ok (.invokestatic idx, 3)) (hR1 : 1 ≤ R.frames) (hR2 : (rest.map fun v => v.category).sum + 15 ≤ R.locals) (hc : cells ≤ R.cells) (hs : slots ≤ R.slots)
    (kk : W p l e R s m args below meth c H locs cells slots Q (F0 m (pc + 3) ls (.long (if y < x then x else y) :: rest))) : W p l e R s m args below meth c H locs cells slots Q (F0 m pc ls (.long y :: .long x :: rest)) :=
  va_mmax_long F.1 F.2.1 (by rw [F.2.2.1]; exact hl.1.symm) F.2.2.2.1 (F.2.2.2.2 _ h1) (F.2.2.2.2 _ twi_yJ9_max_f86c9) (F.2.2.2.2 _ twn_RJ9) (F.2.2.2.2 _ twx_max) hR1 hR2 hc hs hdg kk
theorem mn_l (F : CX p m c cc nL s args own) (hl : lv_has ls nL lv) (h1 : Cond.methodLink own idx Lib.MathLoose.min_long.x ∈ wT) {x y : Int64} (hdg : decode cc pc = .ok (.invokestatic idx, 3)) (hR1 : 1 ≤ R.frames) (hR2 : (rest.map fun v => v.category).sum + 15 ≤ R.locals) (hc : cells ≤ R.cells) (hs : slots ≤ R.slots)
    (kk : W p l e R s m args below meth c H locs cells slots Q (F0 m (pc + 3) ls (.long (if y < x then y else x) :: rest))) : W p l e R s m args below meth c H locs cells slots Q (F0 m pc ls (.long y :: .long x :: rest)) :=
  va_mmin_long F.1 F.2.1 (by rw [F.2.2.1]; exact hl.1.symm) F.2.2.2.1 (F.2.2.2.2 _ h1) (F.2.2.2.2 _ twi_yJ9_min_f86c9) (F.2.2.2.2 _ twn_RJ9) (F.2.2.2.2 _ twx_min) hR1 hR2 hc hs hdg kk
end JDK
end
section
def wp_X5_hasTaker (j0 : Nat) (S0 : St) (post : Int32 → St → Prop) : Prop :=
  ((gr S0 5 j0 4) = (some 3) →
  post (1 : Int32) S0) ∧
  (¬ (gr S0 5 j0 4) = (some 3) →
  (¬ (gr S0 5 j0 4) = (some 2) →
  post (0 : Int32) S0) ∧
  ((gr S0 5 j0 4) = (some 2) →
  post (1 : Int32) S0))
set_option maxRecDepth 100000 in
set_option maxHeartbeats 4000000 in
theorem m_X5_hasTaker (l : Launch) (G : GT) (j0 : Nat) (S0 : St) (a0 : Nat) (hA0 : AtO S0 5 j0 a0) (post : Int32 → St → Prop) (hQ : wp_X5_hasTaker j0 S0 post) : Met l yX5_hasTaker (wM yX5_hasTaker cX5_hasTaker 1 (some (FieldType.boolean))) ({ frames := 0, cells := 0, slots := 0, locals := 0 } : Room) (PC G S0 [.ref a0]) (QI G S0 post) 0 0 (QA G) := by
  refine mt_start RX5 (by decide) rfl (Nat.le_of_ble_eq_true rfl) ?_
  intro p e s m args below meth c ls F hr hlk hnm hw hl
  have hx := F.1
  have hb := F.2.1
  have hown := F.2.2.2.1
  have hts := F.2.2.2.2
  have hX : Ext S0 S0 := Ext.rf
  have hsz0 := hw.1.1.1
  have hl : lv_has ls 1 [(0, .ref a0)] := hl
  unfold wp_X5_hasTaker at hQ
  refine lv_aload_n hx hb dX5_hasTaker_0 rfl (lv_at hl 0 rfl) ?_
  have he1 := ww_es hw j0
  refine g_5_4 F hw hA0 twf_RX5_31 dX5_hasTaker_1 ?_
  refine pw_gets F hw 3 (by decide) rfl twf_RX5_37 dX5_hasTaker_4 ?_
  refine pw_acmp_eq (tgt := 20) F hw (by decide) he1 dX5_hasTaker_7 (by decide) (fun hc => ?_) (fun hc => ?_)
  · have hQ := hQ.1 hc
    refine lv_iconst (v := 1) hx hb dX5_hasTaker_20 (by decide) ?_
    refine lv_goto (tgt := 25) hx hb dX5_hasTaker_21 (by decide) ?_
    exact rt_z F hr hlk hw hX hQ rfl (show 0 ≤ 0 from by omega) (show 0 ≤ 0 from by omega) dX5_hasTaker_25
  · have hQ := hQ.2 hc
    refine lv_aload_n hx hb dX5_hasTaker_10 rfl (lv_at hl 0 rfl) ?_
    have he2 := ww_es hw j0
    refine g_5_4 F hw hA0 twf_RX5_31 dX5_hasTaker_11 ?_
    refine pw_gets F hw 2 (by decide) rfl twf_RX5_40 dX5_hasTaker_14 ?_
    refine pw_acmp_ne (tgt := 24) F hw (by decide) he2 dX5_hasTaker_17 (by decide) (fun hc => ?_) (fun hc => ?_)
    · have hQ := hQ.1 hc
      refine lv_iconst (v := 0) hx hb dX5_hasTaker_24 (by decide) ?_
      exact rt_z F hr hlk hw hX hQ rfl (show 0 ≤ 0 from by omega) (show 0 ≤ 0 from by omega) dX5_hasTaker_25
    · have hQ := hQ.2 hc
      refine lv_iconst (v := 1) hx hb dX5_hasTaker_20 (by decide) ?_
      refine lv_goto (tgt := 25) hx hb dX5_hasTaker_21 (by decide) ?_
      exact rt_z F hr hlk hw hX hQ rfl (show 0 ≤ 0 from by omega) (show 0 ≤ 0 from by omega) dX5_hasTaker_25
theorem k_X5_hasTaker {p : Program} {l : Launch} {e : Env} {R : Room} {s : State} {m : MethodId} {args : Array Value} {below : List Frame} {meth : Method} {c : Code} {H : Heap} {locs : List Loc} {cells slots : Nat} {Q : State → Prop} {cc : ByteArray} {pc nL : Nat} {ls : Array Slot} {rest : List Value} {G : GT} {S : St} {own : String} {j0 : Nat} {post : Int32 → St → Prop} {lv : List (Nat × Value)} {idx : Nat} (F : CX p m c cc nL s args own) (hw : WW G S s H locs) (hl : lv_has ls nL lv) {a0 : Nat} (hA0 : AtO S 5 j0 a0) (hQ : wp_X5_hasTaker j0 S post) (h1 : Cond.methodLink own idx yX5_hasTaker ∈ wT) (hR1 : 0 + 1 ≤ R.frames) (hR2 : 8 + (1 + 11) + 0 ≤ R.locals) (hrest : (rest.map fun v => v.category).sum ≤ 8) (hdg : decode cc pc = .ok (.invokevirtual idx, 3)) (hf1 : cells + 0 ≤ R.cells) (hf2 : slots + 0 ≤ R.slots)
    (kk : ∀ (r : Int32) (S1 : St) (H1 : Heap) (locs1 : List Loc), post r S1 → WW G S1 s H1 locs1 → Ext S S1 → W p l e R s m args below meth c H1 locs1 (cells + 0) (slots + 0) Q (F0 m (pc + 3) ls (.int r :: rest))) : W p l e R s m args below meth c H locs cells slots Q (F0 m pc ls (.ref a0 :: rest)) :=
  cl_i (rn_V (n := 0) (As := []) (q := (RX5, TX5, 12)) F hw hl (m_X5_hasTaker l G j0 S a0 hA0 post hQ) 5 (by decide) (by decide) hA0 rfl rfl h1 twi_yX5_hasTaker tws_yX5_hasTaker twn_RX5 two_yX5_hasTaker rfl rfl ⟨rfl, by decide, by decide, by decide +kernel⟩ rfl ⟨hR1, hR2⟩ rfl hrest hdg ⟨hf1, hf2⟩) hw kk

def wp_X8_isWithin (p1 : Int64) (p2 : Int64) (p3 : Int64) (S0 : St) (post : Int32 → St → Prop) : Prop :=
  (p1 < p2 →
  post (0 : Int32) S0) ∧
  (¬ p1 < p2 →
  (p3 < p1 →
  post (0 : Int32) S0) ∧
  (¬ p3 < p1 →
  post (1 : Int32) S0))
set_option maxRecDepth 100000 in
set_option maxHeartbeats 4000000 in
theorem m_X8_isWithin (l : Launch) (G : GT) (p1 : Int64) (p2 : Int64) (p3 : Int64) (S0 : St)  (post : Int32 → St → Prop) (hQ : wp_X8_isWithin p1 p2 p3 S0 post) : Met l yX8_isWithin (wM yX8_isWithin cX8_isWithin 6 (some (FieldType.boolean))) ({ frames := 0, cells := 0, slots := 0, locals := 0 } : Room) (PC G S0 [.long p1, .long p2, .long p3]) (QI G S0 post) 0 0 (QA G) := by
  refine mt_start RX8 (by decide) rfl (Nat.le_of_ble_eq_true rfl) ?_
  intro p e s m args below meth c ls F hr hlk hnm hw hl
  have hx := F.1
  have hb := F.2.1
  have hown := F.2.2.2.1
  have hts := F.2.2.2.2
  have hX : Ext S0 S0 := Ext.rf
  have hsz0 := hw.1.1.1
  have hl : lv_has ls 6 [(0, .long p1), (2, .long p2), (4, .long p3)] := hl
  unfold wp_X8_isWithin at hQ
  refine lv_lload_n hx hb dX8_isWithin_0 rfl (lv_at hl 0 rfl) ?_
  refine lv_lload_n hx hb dX8_isWithin_1 rfl (lv_at hl 1 rfl) ?_
  refine lc_lt (tgt := 17) F dX8_isWithin_2 dX8_isWithin_3 (by decide) (fun hc => ?_) (fun hc => ?_)
  · have hQ := hQ.1 hc
    refine lv_iconst (v := 0) hx hb dX8_isWithin_17 (by decide) ?_
    exact rt_z F hr hlk hw hX hQ rfl (show 0 ≤ 0 from by omega) (show 0 ≤ 0 from by omega) dX8_isWithin_18
  · have hQ := hQ.2 hc
    refine lv_lload_n hx hb dX8_isWithin_6 rfl (lv_at hl 0 rfl) ?_
    refine lv_lload hx hb dX8_isWithin_7 (lv_at hl 2 rfl) ?_
    refine lc_gt (tgt := 17) F dX8_isWithin_9 dX8_isWithin_10 (by decide) (fun hc => ?_) (fun hc => ?_)
    · have hQ := hQ.1 hc
      refine lv_iconst (v := 0) hx hb dX8_isWithin_17 (by decide) ?_
      exact rt_z F hr hlk hw hX hQ rfl (show 0 ≤ 0 from by omega) (show 0 ≤ 0 from by omega) dX8_isWithin_18
    · have hQ := hQ.2 hc
      refine lv_iconst (v := 1) hx hb dX8_isWithin_13 (by decide) ?_
      refine lv_goto (tgt := 18) hx hb dX8_isWithin_14 (by decide) ?_
      exact rt_z F hr hlk hw hX hQ rfl (show 0 ≤ 0 from by omega) (show 0 ≤ 0 from by omega) dX8_isWithin_18
theorem k_X8_isWithin {p : Program} {l : Launch} {e : Env} {R : Room} {s : State} {m : MethodId} {args : Array Value} {below : List Frame} {meth : Method} {c : Code} {H : Heap} {locs : List Loc} {cells slots : Nat} {Q : State → Prop} {cc : ByteArray} {pc nL : Nat} {ls : Array Slot} {rest : List Value} {G : GT} {S : St} {own : String} {p1 : Int64} {p2 : Int64} {p3 : Int64} {post : Int32 → St → Prop} {lv : List (Nat × Value)} {idx : Nat} (F : CX p m c cc nL s args own) (hw : WW G S s H locs) (hl : lv_has ls nL lv)  (hQ : wp_X8_isWithin p1 p2 p3 S post) (h1 : Cond.methodLink own idx yX8_isWithin ∈ wT) (hR1 : 0 + 1 ≤ R.frames) (hR2 : 8 + (6 + 11) + 0 ≤ R.locals) (hrest : (rest.map fun v => v.category).sum ≤ 8) (hdg : decode cc pc = .ok (.invokestatic idx, 3)) (hf1 : cells + 0 ≤ R.cells) (hf2 : slots + 0 ≤ R.slots)
    (kk : ∀ (r : Int32) (S1 : St) (H1 : Heap) (locs1 : List Loc), post r S1 → WW G S1 s H1 locs1 → Ext S S1 → W p l e R s m args below meth c H1 locs1 (cells + 0) (slots + 0) Q (F0 m (pc + 3) ls (.int r :: rest))) : W p l e R s m args below meth c H locs cells slots Q (F0 m pc ls (.long p3 :: .long p2 :: .long p1 :: rest)) :=
  cl_i (rn_S (n := 3) (As := [.long p1, .long p2, .long p3]) F hw hl (m_X8_isWithin l G p1 p2 p3 S  post hQ) h1 twi_yX8_isWithin twn_RX8 two_yX8_isWithin rfl rfl ⟨by decide, by decide, by decide +kernel⟩ rfl ⟨hR1, hR2⟩ rfl hrest hdg ⟨hf1, hf2⟩) hw kk
end
