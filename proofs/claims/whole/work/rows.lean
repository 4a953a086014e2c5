section
-- ===== PART A: goes FIRST, ahead of the names: the tables' words, and 'selects' of the private methods out of them =====
/-- a private method of a class that the tables say can be made, by its rows of tables_1 -/
def lw_okq (q : MethodName × Nat) : Prop := (q.1.cls ≠ "java/lang/invoke/MethodHandle" ∧ q.1.cls ≠ "java/lang/invoke/VarHandle") ∧ Cond.instantiable q.1.cls q.2 ∈ tables_1 ∧ Cond.privateMethod q.1 ∈ tables_1 ∧ Cond.instanceMethod q.1 ∈ tables_1
theorem lw_p0 : lw_okq (⟨"ClockAuctions", "addLot", "(IJJ)I"⟩, 11) := ⟨⟨by decide +kernel, by decide +kernel⟩, List.mem_of_getElem? (i := 15) (by decide +kernel), List.mem_of_getElem? (i := 147) (by decide +kernel), List.mem_of_getElem? (i := 148) (by decide +kernel)⟩
theorem lw_p1 : lw_okq (⟨"ClockAuctions", "lotAt", "(I)LClockAuctions$Lot;"⟩, 11) := ⟨⟨by decide +kernel, by decide +kernel⟩, List.mem_of_getElem? (i := 15) (by decide +kernel), List.mem_of_getElem? (i := 234) (by decide +kernel), List.mem_of_getElem? (i := 235) (by decide +kernel)⟩
theorem lw_p2 : lw_okq (⟨"ClockAuctions", "buyerAt", "(I)LClockAuctions$Buyer;"⟩, 11) := ⟨⟨by decide +kernel, by decide +kernel⟩, List.mem_of_getElem? (i := 15) (by decide +kernel), List.mem_of_getElem? (i := 259) (by decide +kernel), List.mem_of_getElem? (i := 260) (by decide +kernel)⟩
theorem lw_p3 : lw_okq (⟨"ClockAuctions", "freeOf", "(LClockAuctions$Buyer;)J"⟩, 11) := ⟨⟨by decide +kernel, by decide +kernel⟩, List.mem_of_getElem? (i := 15) (by decide +kernel), List.mem_of_getElem? (i := 263) (by decide +kernel), List.mem_of_getElem? (i := 264) (by decide +kernel)⟩
theorem lw_p4 : lw_okq (⟨"ClockAuctions", "lotsAhead", "(LClockAuctions$Lot;)I"⟩, 11) := ⟨⟨by decide +kernel, by decide +kernel⟩, List.mem_of_getElem? (i := 15) (by decide +kernel), List.mem_of_getElem? (i := 283) (by decide +kernel), List.mem_of_getElem? (i := 284) (by decide +kernel)⟩
theorem lw_p5 : lw_okq (⟨"ClockAuctions", "runClock", "(J)I"⟩, 11) := ⟨⟨by decide +kernel, by decide +kernel⟩, List.mem_of_getElem? (i := 15) (by decide +kernel), List.mem_of_getElem? (i := 393) (by decide +kernel), List.mem_of_getElem? (i := 394) (by decide +kernel)⟩
theorem lw_p6 : lw_okq (⟨"ClockAuctions", "dropPressesThatCannotPay", "()V"⟩, 11) := ⟨⟨by decide +kernel, by decide +kernel⟩, List.mem_of_getElem? (i := 15) (by decide +kernel), List.mem_of_getElem? (i := 404) (by decide +kernel), List.mem_of_getElem? (i := 405) (by decide +kernel)⟩
theorem lw_p7 : lw_okq (⟨"ClockAuctions", "firstDuePress", "()LClockAuctions$Buyer;"⟩, 11) := ⟨⟨by decide +kernel, by decide +kernel⟩, List.mem_of_getElem? (i := 15) (by decide +kernel), List.mem_of_getElem? (i := 416) (by decide +kernel), List.mem_of_getElem? (i := 417) (by decide +kernel)⟩
theorem lw_p8 : lw_okq (⟨"ClockAuctions", "sellByClock", "(LClockAuctions$Lot;LClockAuctions$Buyer;)V"⟩, 11) := ⟨⟨by decide +kernel, by decide +kernel⟩, List.mem_of_getElem? (i := 15) (by decide +kernel), List.mem_of_getElem? (i := 420) (by decide +kernel), List.mem_of_getElem? (i := 421) (by decide +kernel)⟩
theorem lw_p9 : lw_okq (⟨"ClockAuctions", "pressesTiedWith", "(LClockAuctions$Buyer;)I"⟩, 11) := ⟨⟨by decide +kernel, by decide +kernel⟩, List.mem_of_getElem? (i := 15) (by decide +kernel), List.mem_of_getElem? (i := 424) (by decide +kernel), List.mem_of_getElem? (i := 425) (by decide +kernel)⟩
theorem lw_p10 : lw_okq (⟨"ClockAuctions", "stopClock", "()V"⟩, 11) := ⟨⟨by decide +kernel, by decide +kernel⟩, List.mem_of_getElem? (i := 15) (by decide +kernel), List.mem_of_getElem? (i := 432) (by decide +kernel), List.mem_of_getElem? (i := 433) (by decide +kernel)⟩
theorem lw_p11 : lw_okq (⟨"ClockAuctions", "dropPressesFrom", "(J)V"⟩, 11) := ⟨⟨by decide +kernel, by decide +kernel⟩, List.mem_of_getElem? (i := 15) (by decide +kernel), List.mem_of_getElem? (i := 436) (by decide +kernel), List.mem_of_getElem? (i := 437) (by decide +kernel)⟩
theorem lw_p12 : lw_okq (⟨"ClockAuctions", "sellRipeOffers", "()V"⟩, 11) := ⟨⟨by decide +kernel, by decide +kernel⟩, List.mem_of_getElem? (i := 15) (by decide +kernel), List.mem_of_getElem? (i := 440) (by decide +kernel), List.mem_of_getElem? (i := 441) (by decide +kernel)⟩
theorem lw_p13 : lw_okq (⟨"ClockAuctions", "bidAt", "(I)LClockAuctions$Bid;"⟩, 11) := ⟨⟨by decide +kernel, by decide +kernel⟩, List.mem_of_getElem? (i := 15) (by decide +kernel), List.mem_of_getElem? (i := 513) (by decide +kernel), List.mem_of_getElem? (i := 514) (by decide +kernel)⟩
theorem lw_p14 : lw_okq (⟨"ClockAuctions", "findWinners", "()V"⟩, 11) := ⟨⟨by decide +kernel, by decide +kernel⟩, List.mem_of_getElem? (i := 15) (by decide +kernel), List.mem_of_getElem? (i := 529) (by decide +kernel), List.mem_of_getElem? (i := 530) (by decide +kernel)⟩
theorem lw_p15 : lw_okq (⟨"ClockAuctions", "isGood", "(LClockAuctions$Bid;)Z"⟩, 11) := ⟨⟨by decide +kernel, by decide +kernel⟩, List.mem_of_getElem? (i := 15) (by decide +kernel), List.mem_of_getElem? (i := 541) (by decide +kernel), List.mem_of_getElem? (i := 542) (by decide +kernel)⟩
def lw_privs_1 : List (MethodName × Nat) := [(⟨"ClockAuctions", "addLot", "(IJJ)I"⟩, 11), (⟨"ClockAuctions", "lotAt", "(I)LClockAuctions$Lot;"⟩, 11), (⟨"ClockAuctions", "buyerAt", "(I)LClockAuctions$Buyer;"⟩, 11), (⟨"ClockAuctions", "freeOf", "(LClockAuctions$Buyer;)J"⟩, 11), (⟨"ClockAuctions", "lotsAhead", "(LClockAuctions$Lot;)I"⟩, 11), (⟨"ClockAuctions", "runClock", "(J)I"⟩, 11), (⟨"ClockAuctions", "dropPressesThatCannotPay", "()V"⟩, 11), (⟨"ClockAuctions", "firstDuePress", "()LClockAuctions$Buyer;"⟩, 11), (⟨"ClockAuctions", "sellByClock", "(LClockAuctions$Lot;LClockAuctions$Buyer;)V"⟩, 11), (⟨"ClockAuctions", "pressesTiedWith", "(LClockAuctions$Buyer;)I"⟩, 11), (⟨"ClockAuctions", "stopClock", "()V"⟩, 11), (⟨"ClockAuctions", "dropPressesFrom", "(J)V"⟩, 11), (⟨"ClockAuctions", "sellRipeOffers", "()V"⟩, 11), (⟨"ClockAuctions", "bidAt", "(I)LClockAuctions$Bid;"⟩, 11), (⟨"ClockAuctions", "findWinners", "()V"⟩, 11), (⟨"ClockAuctions", "isGood", "(LClockAuctions$Bid;)Z"⟩, 11)]
theorem lw_r1 : ∀ q ∈ lw_privs_1, lw_okq q := List.forall_mem_cons.mpr ⟨lw_p0, List.forall_mem_cons.mpr ⟨lw_p1, List.forall_mem_cons.mpr ⟨lw_p2, List.forall_mem_cons.mpr ⟨lw_p3, List.forall_mem_cons.mpr ⟨lw_p4, List.forall_mem_cons.mpr ⟨lw_p5, List.forall_mem_cons.mpr ⟨lw_p6, List.forall_mem_cons.mpr ⟨lw_p7, List.forall_mem_cons.mpr ⟨lw_p8, List.forall_mem_cons.mpr ⟨lw_p9, List.forall_mem_cons.mpr ⟨lw_p10, List.forall_mem_cons.mpr ⟨lw_p11, List.forall_mem_cons.mpr ⟨lw_p12, List.forall_mem_cons.mpr ⟨lw_p13, List.forall_mem_cons.mpr ⟨lw_p14, List.forall_mem_cons.mpr ⟨lw_p15, fun _ h => absurd h List.not_mem_nil⟩⟩⟩⟩⟩⟩⟩⟩⟩⟩⟩⟩⟩⟩⟩⟩
theorem lw_p16 : lw_okq (⟨"ClockAuctions$SetSearch", "addUpRests", "()V"⟩, 6) := ⟨⟨by decide +kernel, by decide +kernel⟩, List.mem_of_getElem? (i := 76) (by decide +kernel), List.mem_of_getElem? (i := 553) (by decide +kernel), List.mem_of_getElem? (i := 554) (by decide +kernel)⟩
theorem lw_p17 : lw_okq (⟨"ClockAuctions$SetSearch", "isBetter", "(JI)Z"⟩, 6) := ⟨⟨by decide +kernel, by decide +kernel⟩, List.mem_of_getElem? (i := 76) (by decide +kernel), List.mem_of_getElem? (i := 560) (by decide +kernel), List.mem_of_getElem? (i := 561) (by decide +kernel)⟩
theorem lw_p18 : lw_okq (⟨"ClockAuctions$SetSearch", "goodAt", "(I)LClockAuctions$Bid;"⟩, 6) := ⟨⟨by decide +kernel, by decide +kernel⟩, List.mem_of_getElem? (i := 76) (by decide +kernel), List.mem_of_getElem? (i := 574) (by decide +kernel), List.mem_of_getElem? (i := 575) (by decide +kernel)⟩
theorem lw_p19 : lw_okq (⟨"ClockAuctions$SetSearch", "restFrom", "(I)J"⟩, 6) := ⟨⟨by decide +kernel, by decide +kernel⟩, List.mem_of_getElem? (i := 76) (by decide +kernel), List.mem_of_getElem? (i := 578) (by decide +kernel), List.mem_of_getElem? (i := 579) (by decide +kernel)⟩
theorem lw_p20 : lw_okq (⟨"ClockAuctions$SetSearch", "spend", "(IJ)Z"⟩, 6) := ⟨⟨by decide +kernel, by decide +kernel⟩, List.mem_of_getElem? (i := 76) (by decide +kernel), List.mem_of_getElem? (i := 582) (by decide +kernel), List.mem_of_getElem? (i := 583) (by decide +kernel)⟩
theorem lw_p21 : lw_okq (⟨"ClockAuctions", "sellSet", "(LClockAuctions$Bid;)V"⟩, 11) := ⟨⟨by decide +kernel, by decide +kernel⟩, List.mem_of_getElem? (i := 15) (by decide +kernel), List.mem_of_getElem? (i := 590) (by decide +kernel), List.mem_of_getElem? (i := 591) (by decide +kernel)⟩
theorem lw_p22 : lw_okq (⟨"ClockAuctions", "playTurn", "(J)V"⟩, 11) := ⟨⟨by decide +kernel, by decide +kernel⟩, List.mem_of_getElem? (i := 15) (by decide +kernel), List.mem_of_getElem? (i := 635) (by decide +kernel), List.mem_of_getElem? (i := 636) (by decide +kernel)⟩
theorem lw_p23 : lw_okq (⟨"ClockAuctions", "soldCount", "()I"⟩, 11) := ⟨⟨by decide +kernel, by decide +kernel⟩, List.mem_of_getElem? (i := 15) (by decide +kernel), List.mem_of_getElem? (i := 654) (by decide +kernel), List.mem_of_getElem? (i := 655) (by decide +kernel)⟩
theorem lw_p24 : lw_okq (⟨"ClockAuctionsModel", "add", "(IJJ)I"⟩, 36) := ⟨⟨by decide +kernel, by decide +kernel⟩, List.mem_of_getElem? (i := 658) (by decide +kernel), List.mem_of_getElem? (i := 780) (by decide +kernel), List.mem_of_getElem? (i := 781) (by decide +kernel)⟩
theorem lw_p25 : lw_okq (⟨"ClockAuctionsModel", "isLot", "(I)Z"⟩, 36) := ⟨⟨by decide +kernel, by decide +kernel⟩, List.mem_of_getElem? (i := 658) (by decide +kernel), List.mem_of_getElem? (i := 794) (by decide +kernel), List.mem_of_getElem? (i := 795) (by decide +kernel)⟩
theorem lw_p26 : lw_okq (⟨"ClockAuctionsModel", "priceAt", "(J)J"⟩, 36) := ⟨⟨by decide +kernel, by decide +kernel⟩, List.mem_of_getElem? (i := 658) (by decide +kernel), List.mem_of_getElem? (i := 805) (by decide +kernel), List.mem_of_getElem? (i := 806) (by decide +kernel)⟩
theorem lw_p27 : lw_okq (⟨"ClockAuctionsModel", "isBuyer", "(I)Z"⟩, 36) := ⟨⟨by decide +kernel, by decide +kernel⟩, List.mem_of_getElem? (i := 658) (by decide +kernel), List.mem_of_getElem? (i := 813) (by decide +kernel), List.mem_of_getElem? (i := 814) (by decide +kernel)⟩
theorem lw_p28 : lw_okq (⟨"ClockAuctionsModel", "goOn", "(J)I"⟩, 36) := ⟨⟨by decide +kernel, by decide +kernel⟩, List.mem_of_getElem? (i := 658) (by decide +kernel), List.mem_of_getElem? (i := 831) (by decide +kernel), List.mem_of_getElem? (i := 832) (by decide +kernel)⟩
theorem lw_p29 : lw_okq (⟨"ClockAuctionsModel", "earliest", "()I"⟩, 36) := ⟨⟨by decide +kernel, by decide +kernel⟩, List.mem_of_getElem? (i := 658) (by decide +kernel), List.mem_of_getElem? (i := 835) (by decide +kernel), List.mem_of_getElem? (i := 836) (by decide +kernel)⟩
theorem lw_p30 : lw_okq (⟨"ClockAuctionsModel", "free", "(I)J"⟩, 36) := ⟨⟨by decide +kernel, by decide +kernel⟩, List.mem_of_getElem? (i := 658) (by decide +kernel), List.mem_of_getElem? (i := 839) (by decide +kernel), List.mem_of_getElem? (i := 840) (by decide +kernel)⟩
theorem lw_p31 : lw_okq (⟨"ClockAuctionsModel", "heldBy", "(I)J"⟩, 36) := ⟨⟨by decide +kernel, by decide +kernel⟩, List.mem_of_getElem? (i := 658) (by decide +kernel), List.mem_of_getElem? (i := 843) (by decide +kernel), List.mem_of_getElem? (i := 844) (by decide +kernel)⟩
def lw_privs_2 : List (MethodName × Nat) := [(⟨"ClockAuctions$SetSearch", "addUpRests", "()V"⟩, 6), (⟨"ClockAuctions$SetSearch", "isBetter", "(JI)Z"⟩, 6), (⟨"ClockAuctions$SetSearch", "goodAt", "(I)LClockAuctions$Bid;"⟩, 6), (⟨"ClockAuctions$SetSearch", "restFrom", "(I)J"⟩, 6), (⟨"ClockAuctions$SetSearch", "spend", "(IJ)Z"⟩, 6), (⟨"ClockAuctions", "sellSet", "(LClockAuctions$Bid;)V"⟩, 11), (⟨"ClockAuctions", "playTurn", "(J)V"⟩, 11), (⟨"ClockAuctions", "soldCount", "()I"⟩, 11), (⟨"ClockAuctionsModel", "add", "(IJJ)I"⟩, 36), (⟨"ClockAuctionsModel", "isLot", "(I)Z"⟩, 36), (⟨"ClockAuctionsModel", "priceAt", "(J)J"⟩, 36), (⟨"ClockAuctionsModel", "isBuyer", "(I)Z"⟩, 36), (⟨"ClockAuctionsModel", "goOn", "(J)I"⟩, 36), (⟨"ClockAuctionsModel", "earliest", "()I"⟩, 36), (⟨"ClockAuctionsModel", "free", "(I)J"⟩, 36), (⟨"ClockAuctionsModel", "heldBy", "(I)J"⟩, 36)]
theorem lw_r2 : ∀ q ∈ lw_privs_2, lw_okq q := List.forall_mem_cons.mpr ⟨lw_p16, List.forall_mem_cons.mpr ⟨lw_p17, List.forall_mem_cons.mpr ⟨lw_p18, List.forall_mem_cons.mpr ⟨lw_p19, List.forall_mem_cons.mpr ⟨lw_p20, List.forall_mem_cons.mpr ⟨lw_p21, List.forall_mem_cons.mpr ⟨lw_p22, List.forall_mem_cons.mpr ⟨lw_p23, List.forall_mem_cons.mpr ⟨lw_p24, List.forall_mem_cons.mpr ⟨lw_p25, List.forall_mem_cons.mpr ⟨lw_p26, List.forall_mem_cons.mpr ⟨lw_p27, List.forall_mem_cons.mpr ⟨lw_p28, List.forall_mem_cons.mpr ⟨lw_p29, List.forall_mem_cons.mpr ⟨lw_p30, List.forall_mem_cons.mpr ⟨lw_p31, fun _ h => absurd h List.not_mem_nil⟩⟩⟩⟩⟩⟩⟩⟩⟩⟩⟩⟩⟩⟩⟩⟩
theorem lw_p32 : lw_okq (⟨"ClockAuctionsModel", "sell", "(I)V"⟩, 36) := ⟨⟨by decide +kernel, by decide +kernel⟩, List.mem_of_getElem? (i := 658) (by decide +kernel), List.mem_of_getElem? (i := 847) (by decide +kernel), List.mem_of_getElem? (i := 848) (by decide +kernel)⟩
theorem lw_p33 : lw_okq (⟨"ClockAuctionsModel", "note", "(IIIJ)V"⟩, 36) := ⟨⟨by decide +kernel, by decide +kernel⟩, List.mem_of_getElem? (i := 658) (by decide +kernel), List.mem_of_getElem? (i := 851) (by decide +kernel), List.mem_of_getElem? (i := 852) (by decide +kernel)⟩
theorem lw_p34 : lw_okq (⟨"ClockAuctionsModel", "next", "(IIIIJ)I"⟩, 36) := ⟨⟨by decide +kernel, by decide +kernel⟩, List.mem_of_getElem? (i := 658) (by decide +kernel), List.mem_of_getElem? (i := 855) (by decide +kernel), List.mem_of_getElem? (i := 856) (by decide +kernel)⟩
theorem lw_p35 : lw_okq (⟨"ClockAuctionsModel", "isBought", "(I)Z"⟩, 36) := ⟨⟨by decide +kernel, by decide +kernel⟩, List.mem_of_getElem? (i := 658) (by decide +kernel), List.mem_of_getElem? (i := 873) (by decide +kernel), List.mem_of_getElem? (i := 874) (by decide +kernel)⟩
theorem lw_p36 : lw_okq (⟨"ClockAuctionsModel", "isGood", "(I)Z"⟩, 36) := ⟨⟨by decide +kernel, by decide +kernel⟩, List.mem_of_getElem? (i := 658) (by decide +kernel), List.mem_of_getElem? (i := 932) (by decide +kernel), List.mem_of_getElem? (i := 933) (by decide +kernel)⟩
theorem lw_p37 : lw_okq (⟨"ClockAuctionsModel", "sumOf", "(I)J"⟩, 36) := ⟨⟨by decide +kernel, by decide +kernel⟩, List.mem_of_getElem? (i := 658) (by decide +kernel), List.mem_of_getElem? (i := 936) (by decide +kernel), List.mem_of_getElem? (i := 937) (by decide +kernel)⟩
theorem lw_p38 : lw_okq (⟨"ClockAuctionsModel", "turn", "(J)V"⟩, 36) := ⟨⟨by decide +kernel, by decide +kernel⟩, List.mem_of_getElem? (i := 658) (by decide +kernel), List.mem_of_getElem? (i := 971) (by decide +kernel), List.mem_of_getElem? (i := 972) (by decide +kernel)⟩
def lw_privs_3 : List (MethodName × Nat) := [(⟨"ClockAuctionsModel", "sell", "(I)V"⟩, 36), (⟨"ClockAuctionsModel", "note", "(IIIJ)V"⟩, 36), (⟨"ClockAuctionsModel", "next", "(IIIIJ)I"⟩, 36), (⟨"ClockAuctionsModel", "isBought", "(I)Z"⟩, 36), (⟨"ClockAuctionsModel", "isGood", "(I)Z"⟩, 36), (⟨"ClockAuctionsModel", "sumOf", "(I)J"⟩, 36), (⟨"ClockAuctionsModel", "turn", "(J)V"⟩, 36)]
theorem lw_r3 : ∀ q ∈ lw_privs_3, lw_okq q := List.forall_mem_cons.mpr ⟨lw_p32, List.forall_mem_cons.mpr ⟨lw_p33, List.forall_mem_cons.mpr ⟨lw_p34, List.forall_mem_cons.mpr ⟨lw_p35, List.forall_mem_cons.mpr ⟨lw_p36, List.forall_mem_cons.mpr ⟨lw_p37, List.forall_mem_cons.mpr ⟨lw_p38, fun _ h => absurd h List.not_mem_nil⟩⟩⟩⟩⟩⟩⟩
def lw_privs : List (MethodName × Nat) := lw_privs_1 ++ (lw_privs_2 ++ (lw_privs_3))
def lw_tbl : List Cond := k2_sels lw_privs ++ tables_1
theorem lw_privs_ok : ∀ q ∈ lw_privs, lw_okq q := by
  show ∀ q ∈ lw_privs_1 ++ (lw_privs_2 ++ (lw_privs_3)), lw_okq q
  exact List.forall_mem_append.mpr ⟨lw_r1, List.forall_mem_append.mpr ⟨lw_r2, lw_r3⟩⟩
-- ===== end of PART A; then your names; then what follows =====
end
section
/-! ===== BEGIN printed: names, fields, word lists, decode rows ===== -/
def RX0 : String := "ClockAuctions$Bid"
def TX0 : u_T := fun k => match k with
  | 0 => ("ClockAuctions$Bid", "number", "I", true)
  | 1 => ("ClockAuctions$Bid", "buyer", "I", true)
  | 2 => ("ClockAuctions$Bid", "cents", "J", true)
  | _ => ("ClockAuctions$Bid", "lotSet", "J", false)
def tyX0 : Nat → FieldType := fun k => match k with
  | 0 => .int
  | 1 => .int
  | 2 => .long
  | _ => .long
abbrev wsX00 : List Cond := u_ws RX0 TX0 4
theorem nmX0 : ∀ a, a < 4 → ∀ b, b < 4 → a ≠ b → (TX0 a).2.1 ≠ (TX0 b).2.1 := by decide +kernel
theorem tyX0_ok : ∀ k, k < 4 → parseFieldDescriptor (TX0 k).2.2.1 = some (tyX0 k) := by decide +kernel
abbrev cX0_init : ByteArray := prog_2_method_1_code
def yX0_init : MethodName := ⟨RX0, "<init>", "(IIJ)V"⟩
abbrev cX0_isFor : ByteArray := prog_2_method_2_code
def yX0_isFor : MethodName := ⟨RX0, "isFor", "(I)Z"⟩
abbrev cX0_addLot : ByteArray := prog_2_method_3_code
def yX0_addLot : MethodName := ⟨RX0, "addLot", "(I)V"⟩
def RX1 : String := "ClockAuctions$Buyer"
def TX1 : u_T := fun k => match k with
  | 0 => ("ClockAuctions$Buyer", "number", "I", true)
  | 1 => ("ClockAuctions$Buyer", "credit", "J", true)
  | 2 => ("ClockAuctions$Buyer", "lateBy", "J", false)
  | _ => ("ClockAuctions$Buyer", "pressTime", "J", false)
def tyX1 : Nat → FieldType := fun k => match k with
  | 0 => .int
  | 1 => .long
  | 2 => .long
  | _ => .long
abbrev wsX10 : List Cond := u_ws RX1 TX1 4
theorem nmX1 : ∀ a, a < 4 → ∀ b, b < 4 → a ≠ b → (TX1 a).2.1 ≠ (TX1 b).2.1 := by decide +kernel
theorem tyX1_ok : ∀ k, k < 4 → parseFieldDescriptor (TX1 k).2.2.1 = some (tyX1 k) := by decide +kernel
abbrev cX1_init : ByteArray := prog_3_method_1_code
def yX1_init : MethodName := ⟨RX1, "<init>", "(IJ)V"⟩
abbrev cX1_hasPressUpTo : ByteArray := prog_3_method_2_code
def yX1_hasPressUpTo : MethodName := ⟨RX1, "hasPressUpTo", "(J)Z"⟩
abbrev cX1_dropPress : ByteArray := prog_3_method_3_code
def yX1_dropPress : MethodName := ⟨RX1, "dropPress", "()V"⟩
def RX2 : String := "ClockAuctions$Chain"
def TX2 : u_T := fun k => match k with
  | 0 => ("ClockAuctions$Chain", "entries", "[LClockAuctions$Entry;", true)
  | 1 => ("ClockAuctions$Chain", "count", "I", false)
  | _ => ("ClockAuctions$Chain", "last", "I", false)
def tyX2 : Nat → FieldType := fun k => match k with
  | 0 => .array (.object "ClockAuctions$Entry")
  | 1 => .int
  | _ => .int
abbrev wsX20 : List Cond := u_ws RX2 TX2 3
theorem nmX2 : ∀ a, a < 3 → ∀ b, b < 3 → a ≠ b → (TX2 a).2.1 ≠ (TX2 b).2.1 := by decide +kernel
theorem tyX2_ok : ∀ k, k < 3 → parseFieldDescriptor (TX2 k).2.2.1 = some (tyX2 k) := by decide +kernel
abbrev cX2_init : ByteArray := prog_4_method_1_code
def yX2_init : MethodName := ⟨RX2, "<init>", "()V"⟩
abbrev cX2_add : ByteArray := prog_4_method_2_code
def yX2_add : MethodName := ⟨RX2, "add", "(IIIJ)V"⟩
abbrev cX2_at : ByteArray := prog_4_method_3_code
def yX2_at : MethodName := ⟨RX2, "at", "(I)LClockAuctions$Entry;"⟩
abbrev cX2_isWhole : ByteArray := prog_4_method_4_code
def yX2_isWhole : MethodName := ⟨RX2, "isWhole", "()Z"⟩
def RX3 : String := "ClockAuctions$Entry"
def TX3 : u_T := fun k => match k with
  | 0 => ("ClockAuctions$Entry", "sort", "I", true)
  | 1 => ("ClockAuctions$Entry", "lot", "I", true)
  | 2 => ("ClockAuctions$Entry", "buyer", "I", true)
  | 3 => ("ClockAuctions$Entry", "cents", "J", true)
  | _ => ("ClockAuctions$Entry", "link", "I", true)
def tyX3 : Nat → FieldType := fun k => match k with
  | 0 => .int
  | 1 => .int
  | 2 => .int
  | 3 => .long
  | _ => .int
abbrev wsX30 : List Cond := u_ws RX3 TX3 5
theorem nmX3 : ∀ a, a < 5 → ∀ b, b < 5 → a ≠ b → (TX3 a).2.1 ≠ (TX3 b).2.1 := by decide +kernel
theorem tyX3_ok : ∀ k, k < 5 → parseFieldDescriptor (TX3 k).2.2.1 = some (tyX3 k) := by decide +kernel
abbrev cX3_init : ByteArray := prog_5_method_1_code
def yX3_init : MethodName := ⟨RX3, "<init>", "(IIIJI)V"⟩
abbrev cX3_linkBehind : ByteArray := prog_5_method_2_code
def yX3_linkBehind : MethodName := ⟨RX3, "linkBehind", "(I)I"⟩
abbrev cX3_linkOf : ByteArray := prog_5_method_3_code
def yX3_linkOf : MethodName := ⟨RX3, "linkOf", "(IIIIJ)I"⟩
def RX4 : String := "ClockAuctions$FallingClock"
def TX4 : u_T := fun k => match k with
  | 0 => ("ClockAuctions$FallingClock", "lot", "LClockAuctions$Lot;", false)
  | 1 => ("ClockAuctions$FallingClock", "from", "J", false)
  | 2 => ("ClockAuctions$FallingClock", "step", "J", false)
  | 3 => ("ClockAuctions$FallingClock", "end", "J", false)
  | 4 => ("ClockAuctions$FallingClock", "time", "J", false)
  | _ => ("ClockAuctions$FallingClock", "stands", "Z", false)
def tyX4 : Nat → FieldType := fun k => match k with
  | 0 => .object "ClockAuctions$Lot"
  | 1 => .long
  | 2 => .long
  | 3 => .long
  | 4 => .long
  | _ => .boolean
abbrev wsX40 : List Cond := u_ws RX4 TX4 6
theorem nmX4 : ∀ a, a < 6 → ∀ b, b < 6 → a ≠ b → (TX4 a).2.1 ≠ (TX4 b).2.1 := by decide +kernel
theorem tyX4_ok : ∀ k, k < 6 → parseFieldDescriptor (TX4 k).2.2.1 = some (tyX4 k) := by decide +kernel
abbrev cX4_init : ByteArray := prog_6_method_1_code
def yX4_init : MethodName := ⟨RX4, "<init>", "()V"⟩
abbrev cX4_endOf : ByteArray := prog_6_method_2_code
def yX4_endOf : MethodName := ⟨RX4, "endOf", "(JJ)J"⟩
abbrev cX4_begin : ByteArray := prog_6_method_3_code
def yX4_begin : MethodName := ⟨RX4, "begin", "(LClockAuctions$Lot;JJJ)V"⟩
abbrev cX4_priceAt : ByteArray := prog_6_method_4_code
def yX4_priceAt : MethodName := ⟨RX4, "priceAt", "(J)J"⟩
abbrev cX4_goOn : ByteArray := prog_6_method_5_code
def yX4_goOn : MethodName := ⟨RX4, "goOn", "(J)V"⟩
abbrev cX4_goBackTo : ByteArray := prog_6_method_6_code
def yX4_goBackTo : MethodName := ⟨RX4, "goBackTo", "(J)V"⟩
def RX5 : String := "ClockAuctions$Lot"
def TX5 : u_T := fun k => match k with
  | 0 => ("ClockAuctions$Lot", "number", "I", true)
  | 1 => ("ClockAuctions$Lot", "kind", "I", true)
  | 2 => ("ClockAuctions$Lot", "grams", "J", false)
  | 3 => ("ClockAuctions$Lot", "reserve", "J", false)
  | 4 => ("ClockAuctions$Lot", "state", "LClockAuctions$State;", false)
  | 5 => ("ClockAuctions$Lot", "taker", "I", false)
  | 6 => ("ClockAuctions$Lot", "cents", "J", false)
  | 7 => ("ClockAuctions$Lot", "offeredOn", "J", false)
  | 8 => ("ClockAuctions$Lot", "soldByClock", "Z", false)
  | 9 => ("ClockAuctions$Lot", "parted", "Z", false)
  | 10 => ("ClockAuctions$Lot", "reopened", "Z", false)
  | _ => ("ClockAuctions$Lot", "tied", "I", false)
def tyX5 : Nat → FieldType := fun k => match k with
  | 0 => .int
  | 1 => .int
  | 2 => .long
  | 3 => .long
  | 4 => .object "ClockAuctions$State"
  | 5 => .int
  | 6 => .long
  | 7 => .long
  | 8 => .boolean
  | 9 => .boolean
  | 10 => .boolean
  | _ => .int
abbrev wsX50 : List Cond := u_ws RX5 TX5 12
theorem nmX5 : ∀ a, a < 12 → ∀ b, b < 12 → a ≠ b → (TX5 a).2.1 ≠ (TX5 b).2.1 := by decide +kernel
theorem tyX5_ok : ∀ k, k < 12 → parseFieldDescriptor (TX5 k).2.2.1 = some (tyX5 k) := by decide +kernel
abbrev cX5_init : ByteArray := prog_7_method_1_code
def yX5_init : MethodName := ⟨RX5, "<init>", "(IIJJ)V"⟩
abbrev cX5_hasTaker : ByteArray := prog_7_method_2_code
def yX5_hasTaker : MethodName := ⟨RX5, "hasTaker", "()Z"⟩
abbrev cX5_canGoBack : ByteArray := prog_7_method_3_code
def yX5_canGoBack : MethodName := ⟨RX5, "canGoBack", "()Z"⟩
abbrev cX5_isOpenOf : ByteArray := prog_7_method_4_code
def yX5_isOpenOf : MethodName := ⟨RX5, "isOpenOf", "(I)Z"⟩
abbrev cX5_goesBefore : ByteArray := prog_7_method_5_code
def yX5_goesBefore : MethodName := ⟨RX5, "goesBefore", "(LClockAuctions$Lot;)Z"⟩
abbrev cX5_isTiedWith : ByteArray := prog_7_method_6_code
def yX5_isTiedWith : MethodName := ⟨RX5, "isTiedWith", "(I)Z"⟩
abbrev cX5_leastOffer : ByteArray := prog_7_method_7_code
def yX5_leastOffer : MethodName := ⟨RX5, "leastOffer", "()J"⟩
abbrev cX5_offerOf : ByteArray := prog_7_method_8_code
def yX5_offerOf : MethodName := ⟨RX5, "offerOf", "(I)J"⟩
abbrev cX5_sellTo : ByteArray := prog_7_method_9_code
def yX5_sellTo : MethodName := ⟨RX5, "sellTo", "(IJ)V"⟩
def RX6 : String := "ClockAuctions$SetSearch"
def TX6 : u_T := fun k => match k with
  | 0 => ("ClockAuctions$SetSearch", "good", "[LClockAuctions$Bid;", true)
  | 1 => ("ClockAuctions$SetSearch", "restSums", "[J", true)
  | 2 => ("ClockAuctions$SetSearch", "purses", "[J", true)
  | 3 => ("ClockAuctions$SetSearch", "count", "I", false)
  | 4 => ("ClockAuctions$SetSearch", "bestChosen", "I", false)
  | _ => ("ClockAuctions$SetSearch", "bestSum", "J", false)
def tyX6 : Nat → FieldType := fun k => match k with
  | 0 => .array (.object "ClockAuctions$Bid")
  | 1 => .array .long
  | 2 => .array .long
  | 3 => .int
  | 4 => .int
  | _ => .long
abbrev wsX60 : List Cond := u_ws RX6 TX6 6
theorem nmX6 : ∀ a, a < 6 → ∀ b, b < 6 → a ≠ b → (TX6 a).2.1 ≠ (TX6 b).2.1 := by decide +kernel
theorem tyX6_ok : ∀ k, k < 6 → parseFieldDescriptor (TX6 k).2.2.1 = some (tyX6 k) := by decide +kernel
abbrev cX6_init : ByteArray := prog_8_method_1_code
def yX6_init : MethodName := ⟨RX6, "<init>", "()V"⟩
abbrev cX6_clear : ByteArray := prog_8_method_2_code
def yX6_clear : MethodName := ⟨RX6, "clear", "()V"⟩
abbrev cX6_setPurse : ByteArray := prog_8_method_3_code
def yX6_setPurse : MethodName := ⟨RX6, "setPurse", "(IJ)V"⟩
abbrev cX6_add : ByteArray := prog_8_method_4_code
def yX6_add : MethodName := ⟨RX6, "add", "(LClockAuctions$Bid;)V"⟩
abbrev cX6_hasChosen : ByteArray := prog_8_method_5_code
def yX6_hasChosen : MethodName := ⟨RX6, "hasChosen", "(I)Z"⟩
abbrev cX6_chosenCount : ByteArray := prog_8_method_6_code
def yX6_chosenCount : MethodName := ⟨RX6, "chosenCount", "()I"⟩
abbrev cX6_find : ByteArray := prog_8_method_7_code
def yX6_find : MethodName := ⟨RX6, "find", "()V"⟩
abbrev cX6_addUpRests : ByteArray := prog_8_method_8_code
def yX6_addUpRests : MethodName := ⟨RX6, "addUpRests", "()V"⟩
abbrev cX6_tryFrom : ByteArray := prog_8_method_9_code
def yX6_tryFrom : MethodName := ⟨RX6, "tryFrom", "(LClockAuctions$SetSearch;IIJJ)V"⟩
abbrev cX6_goodAt : ByteArray := prog_8_method_10_code
def yX6_goodAt : MethodName := ⟨RX6, "goodAt", "(I)LClockAuctions$Bid;"⟩
abbrev cX6_restFrom : ByteArray := prog_8_method_11_code
def yX6_restFrom : MethodName := ⟨RX6, "restFrom", "(I)J"⟩
abbrev cX6_isBetter : ByteArray := prog_8_method_12_code
def yX6_isBetter : MethodName := ⟨RX6, "isBetter", "(JI)Z"⟩
abbrev cX6_spend : ByteArray := prog_8_method_13_code
def yX6_spend : MethodName := ⟨RX6, "spend", "(IJ)Z"⟩
def RX7 : String := "ClockAuctions$State"
def TX7 : u_T := fun k => match k with
  | _ => ("", "", "", false)
def tyX7 : Nat → FieldType := fun k => match k with
  | _ => .int
abbrev wsX70 : List Cond := u_ws RX7 TX7 0
theorem nmX7 : ∀ a, a < 0 → ∀ b, b < 0 → a ≠ b → (TX7 a).2.1 ≠ (TX7 b).2.1 := by decide +kernel
theorem tyX7_ok : ∀ k, k < 0 → parseFieldDescriptor (TX7 k).2.2.1 = some (tyX7 k) := by decide +kernel
def RX8 : String := "ClockAuctions"
def TX8 : u_T := fun k => match k with
  | 0 => ("ClockAuctions", "lots", "[LClockAuctions$Lot;", true)
  | 1 => ("ClockAuctions", "buyers", "[LClockAuctions$Buyer;", true)
  | 2 => ("ClockAuctions", "bids", "[LClockAuctions$Bid;", true)
  | 3 => ("ClockAuctions", "running", "LClockAuctions$FallingClock;", true)
  | 4 => ("ClockAuctions", "chain", "LClockAuctions$Chain;", true)
  | 5 => ("ClockAuctions", "search", "LClockAuctions$SetSearch;", true)
  | 6 => ("ClockAuctions", "lotCount", "I", false)
  | 7 => ("ClockAuctions", "buyerCount", "I", false)
  | 8 => ("ClockAuctions", "bidCount", "I", false)
  | 9 => ("ClockAuctions", "day", "J", false)
  | _ => ("ClockAuctions", "latestSetsStood", "Z", false)
def tyX8 : Nat → FieldType := fun k => match k with
  | 0 => .array (.object "ClockAuctions$Lot")
  | 1 => .array (.object "ClockAuctions$Buyer")
  | 2 => .array (.object "ClockAuctions$Bid")
  | 3 => .object "ClockAuctions$FallingClock"
  | 4 => .object "ClockAuctions$Chain"
  | 5 => .object "ClockAuctions$SetSearch"
  | 6 => .int
  | 7 => .int
  | 8 => .int
  | 9 => .long
  | _ => .boolean
abbrev wsX80 : List Cond := u_ws RX8 TX8 11
theorem nmX8 : ∀ a, a < 11 → ∀ b, b < 11 → a ≠ b → (TX8 a).2.1 ≠ (TX8 b).2.1 := by decide +kernel
theorem tyX8_ok : ∀ k, k < 11 → parseFieldDescriptor (TX8 k).2.2.1 = some (tyX8 k) := by decide +kernel
abbrev cX8_init : ByteArray := prog_1_method_1_code
def yX8_init : MethodName := ⟨RX8, "<init>", "()V"⟩
abbrev cX8_lot : ByteArray := prog_1_method_2_code
def yX8_lot : MethodName := ⟨RX8, "lot", "(IJJ)I"⟩
abbrev cX8_buyer : ByteArray := prog_1_method_3_code
def yX8_buyer : MethodName := ⟨RX8, "buyer", "(J)I"⟩
abbrev cX8_winner : ByteArray := prog_1_method_4_code
def yX8_winner : MethodName := ⟨RX8, "winner", "(I)I"⟩
abbrev cX8_price : ByteArray := prog_1_method_5_code
def yX8_price : MethodName := ⟨RX8, "price", "(I)J"⟩
abbrev cX8_left : ByteArray := prog_1_method_6_code
def yX8_left : MethodName := ⟨RX8, "left", "(I)J"⟩
abbrev cX8_held : ByteArray := prog_1_method_7_code
def yX8_held : MethodName := ⟨RX8, "held", "(I)J"⟩
abbrev cX8_fee : ByteArray := prog_1_method_8_code
def yX8_fee : MethodName := ⟨RX8, "fee", "(I)J"⟩
abbrev cX8_order : ByteArray := prog_1_method_9_code
def yX8_order : MethodName := ⟨RX8, "order", "(II)I"⟩
abbrev cX8_part : ByteArray := prog_1_method_10_code
def yX8_part : MethodName := ⟨RX8, "part", "(IJ)I"⟩
abbrev cX8_again : ByteArray := prog_1_method_11_code
def yX8_again : MethodName := ⟨RX8, "again", "(I)I"⟩
abbrev cX8_back : ByteArray := prog_1_method_12_code
def yX8_back : MethodName := ⟨RX8, "back", "(I)I"⟩
abbrev cX8_start : ByteArray := prog_1_method_13_code
def yX8_start : MethodName := ⟨RX8, "start", "(IJJ)I"⟩
abbrev cX8_delay : ByteArray := prog_1_method_14_code
def yX8_delay : MethodName := ⟨RX8, "delay", "(IJ)Z"⟩
abbrev cX8_press : ByteArray := prog_1_method_15_code
def yX8_press : MethodName := ⟨RX8, "press", "(IJ)Z"⟩
abbrev cX8_tick : ByteArray := prog_1_method_16_code
def yX8_tick : MethodName := ⟨RX8, "tick", "(J)I"⟩
abbrev cX8_outage : ByteArray := prog_1_method_17_code
def yX8_outage : MethodName := ⟨RX8, "outage", "(JZ)Z"⟩
abbrev cX8_clock : ByteArray := prog_1_method_18_code
def yX8_clock : MethodName := ⟨RX8, "clock", "()J"⟩
abbrev cX8_tie : ByteArray := prog_1_method_19_code
def yX8_tie : MethodName := ⟨RX8, "tie", "(II)I"⟩
abbrev cX8_rise : ByteArray := prog_1_method_20_code
def yX8_rise : MethodName := ⟨RX8, "rise", "(IIJ)I"⟩
abbrev cX8_bid : ByteArray := prog_1_method_21_code
def yX8_bid : MethodName := ⟨RX8, "bid", "(IJ)I"⟩
abbrev cX8_on : ByteArray := prog_1_method_22_code
def yX8_on : MethodName := ⟨RX8, "on", "(II)Z"⟩
abbrev cX8_sets : ByteArray := prog_1_method_23_code
def yX8_sets : MethodName := ⟨RX8, "sets", "(J)I"⟩
abbrev cX8_wins : ByteArray := prog_1_method_24_code
def yX8_wins : MethodName := ⟨RX8, "wins", "(I)Z"⟩
abbrev cX8_sum : ByteArray := prog_1_method_25_code
def yX8_sum : MethodName := ⟨RX8, "sum", "()J"⟩
abbrev cX8_proved : ByteArray := prog_1_method_26_code
def yX8_proved : MethodName := ⟨RX8, "proved", "()Z"⟩
abbrev cX8_record : ByteArray := prog_1_method_27_code
def yX8_record : MethodName := ⟨RX8, "record", "(II)I"⟩
abbrev cX8_chained : ByteArray := prog_1_method_28_code
def yX8_chained : MethodName := ⟨RX8, "chained", "()Z"⟩
abbrev cX8_play : ByteArray := prog_1_method_29_code
def yX8_play : MethodName := ⟨RX8, "play", "(JI)I"⟩
abbrev cX8_playTurn : ByteArray := prog_1_method_30_code
def yX8_playTurn : MethodName := ⟨RX8, "playTurn", "(J)V"⟩
abbrev cX8_soldCount : ByteArray := prog_1_method_31_code
def yX8_soldCount : MethodName := ⟨RX8, "soldCount", "()I"⟩
abbrev cX8_isWithin : ByteArray := prog_1_method_32_code
def yX8_isWithin : MethodName := ⟨RX8, "isWithin", "(JJJ)Z"⟩
abbrev cX8_shareOf : ByteArray := prog_1_method_33_code
def yX8_shareOf : MethodName := ⟨RX8, "shareOf", "(JJJ)J"⟩
abbrev cX8_lotAt : ByteArray := prog_1_method_34_code
def yX8_lotAt : MethodName := ⟨RX8, "lotAt", "(I)LClockAuctions$Lot;"⟩
abbrev cX8_buyerAt : ByteArray := prog_1_method_35_code
def yX8_buyerAt : MethodName := ⟨RX8, "buyerAt", "(I)LClockAuctions$Buyer;"⟩
abbrev cX8_bidAt : ByteArray := prog_1_method_36_code
def yX8_bidAt : MethodName := ⟨RX8, "bidAt", "(I)LClockAuctions$Bid;"⟩
abbrev cX8_addLot : ByteArray := prog_1_method_37_code
def yX8_addLot : MethodName := ⟨RX8, "addLot", "(IJJ)I"⟩
abbrev cX8_freeOf : ByteArray := prog_1_method_38_code
def yX8_freeOf : MethodName := ⟨RX8, "freeOf", "(LClockAuctions$Buyer;)J"⟩
abbrev cX8_lotsAhead : ByteArray := prog_1_method_39_code
def yX8_lotsAhead : MethodName := ⟨RX8, "lotsAhead", "(LClockAuctions$Lot;)I"⟩
abbrev cX8_runClock : ByteArray := prog_1_method_40_code
def yX8_runClock : MethodName := ⟨RX8, "runClock", "(J)I"⟩
abbrev cX8_dropPressesThatCannotPay : ByteArray := prog_1_method_41_code
def yX8_dropPressesThatCannotPay : MethodName := ⟨RX8, "dropPressesThatCannotPay", "()V"⟩
abbrev cX8_firstDuePress : ByteArray := prog_1_method_42_code
def yX8_firstDuePress : MethodName := ⟨RX8, "firstDuePress", "()LClockAuctions$Buyer;"⟩
abbrev cX8_sellByClock : ByteArray := prog_1_method_43_code
def yX8_sellByClock : MethodName := ⟨RX8, "sellByClock", "(LClockAuctions$Lot;LClockAuctions$Buyer;)V"⟩
abbrev cX8_pressesTiedWith : ByteArray := prog_1_method_44_code
def yX8_pressesTiedWith : MethodName := ⟨RX8, "pressesTiedWith", "(LClockAuctions$Buyer;)I"⟩
abbrev cX8_stopClock : ByteArray := prog_1_method_45_code
def yX8_stopClock : MethodName := ⟨RX8, "stopClock", "()V"⟩
abbrev cX8_dropPressesFrom : ByteArray := prog_1_method_46_code
def yX8_dropPressesFrom : MethodName := ⟨RX8, "dropPressesFrom", "(J)V"⟩
abbrev cX8_sellRipeOffers : ByteArray := prog_1_method_47_code
def yX8_sellRipeOffers : MethodName := ⟨RX8, "sellRipeOffers", "()V"⟩
abbrev cX8_findWinners : ByteArray := prog_1_method_48_code
def yX8_findWinners : MethodName := ⟨RX8, "findWinners", "()V"⟩
abbrev cX8_isGood : ByteArray := prog_1_method_49_code
def yX8_isGood : MethodName := ⟨RX8, "isGood", "(LClockAuctions$Bid;)Z"⟩
abbrev cX8_sellSet : ByteArray := prog_1_method_50_code
def yX8_sellSet : MethodName := ⟨RX8, "sellSet", "(LClockAuctions$Bid;)V"⟩
def RX9 : String := "ClockAuctionsModel"
def TX9 : u_T := fun k => match k with
  | 0 => ("ClockAuctionsModel", "lots", "I", false)
  | 1 => ("ClockAuctionsModel", "kind", "[I", true)
  | 2 => ("ClockAuctionsModel", "grams", "[J", true)
  | 3 => ("ClockAuctionsModel", "reserve", "[J", true)
  | 4 => ("ClockAuctionsModel", "state", "[I", true)
  | 5 => ("ClockAuctionsModel", "buyer", "[I", true)
  | 6 => ("ClockAuctionsModel", "price", "[J", true)
  | 7 => ("ClockAuctionsModel", "byClock", "[Z", true)
  | 8 => ("ClockAuctionsModel", "parted", "[Z", true)
  | 9 => ("ClockAuctionsModel", "reopened", "[Z", true)
  | 10 => ("ClockAuctionsModel", "offeredAt", "[J", true)
  | 11 => ("ClockAuctionsModel", "ties", "[I", true)
  | 12 => ("ClockAuctionsModel", "buyers", "I", false)
  | 13 => ("ClockAuctionsModel", "credit", "[J", true)
  | 14 => ("ClockAuctionsModel", "delay", "[J", true)
  | 15 => ("ClockAuctionsModel", "presses", "[J", true)
  | 16 => ("ClockAuctionsModel", "day", "J", false)
  | 17 => ("ClockAuctionsModel", "now", "I", false)
  | 18 => ("ClockAuctionsModel", "time", "J", false)
  | 19 => ("ClockAuctionsModel", "end", "J", false)
  | 20 => ("ClockAuctionsModel", "from", "J", false)
  | 21 => ("ClockAuctionsModel", "step", "J", false)
  | 22 => ("ClockAuctionsModel", "stands", "Z", false)
  | 23 => ("ClockAuctionsModel", "bids", "I", false)
  | 24 => ("ClockAuctionsModel", "bidBuyer", "[I", true)
  | 25 => ("ClockAuctionsModel", "bidCents", "[J", true)
  | 26 => ("ClockAuctionsModel", "bidLots", "[J", true)
  | 27 => ("ClockAuctionsModel", "winners", "I", false)
  | 28 => ("ClockAuctionsModel", "sum", "J", false)
  | 29 => ("ClockAuctionsModel", "proved", "Z", false)
  | 30 => ("ClockAuctionsModel", "records", "I", false)
  | 31 => ("ClockAuctionsModel", "sorts", "[I", true)
  | 32 => ("ClockAuctionsModel", "recordLots", "[I", true)
  | 33 => ("ClockAuctionsModel", "recordBuyers", "[I", true)
  | 34 => ("ClockAuctionsModel", "recordPrices", "[J", true)
  | _ => ("ClockAuctionsModel", "chain", "[I", true)
def tyX9 : Nat → FieldType := fun k => match k with
  | 0 => .int
  | 1 => .array .int
  | 2 => .array .long
  | 3 => .array .long
  | 4 => .array .int
  | 5 => .array .int
  | 6 => .array .long
  | 7 => .array .boolean
  | 8 => .array .boolean
  | 9 => .array .boolean
  | 10 => .array .long
  | 11 => .array .int
  | 12 => .int
  | 13 => .array .long
  | 14 => .array .long
  | 15 => .array .long
  | 16 => .long
  | 17 => .int
  | 18 => .long
  | 19 => .long
  | 20 => .long
  | 21 => .long
  | 22 => .boolean
  | 23 => .int
  | 24 => .array .int
  | 25 => .array .long
  | 26 => .array .long
  | 27 => .int
  | 28 => .long
  | 29 => .boolean
  | 30 => .int
  | 31 => .array .int
  | 32 => .array .int
  | 33 => .array .int
  | 34 => .array .long
  | _ => .array .int
abbrev wsX90 : List Cond := u_ws RX9 TX9 36
theorem nmX9 : ∀ a, a < 36 → ∀ b, b < 36 → a ≠ b → (TX9 a).2.1 ≠ (TX9 b).2.1 := by decide +kernel
theorem tyX9_ok : ∀ k, k < 36 → parseFieldDescriptor (TX9 k).2.2.1 = some (tyX9 k) := by decide +kernel
abbrev cX9_init : ByteArray := prog_11_method_1_code
def yX9_init : MethodName := ⟨RX9, "<init>", "()V"⟩
abbrev cX9_isLot : ByteArray := prog_11_method_2_code
def yX9_isLot : MethodName := ⟨RX9, "isLot", "(I)Z"⟩
abbrev cX9_isBuyer : ByteArray := prog_11_method_3_code
def yX9_isBuyer : MethodName := ⟨RX9, "isBuyer", "(I)Z"⟩
abbrev cX9_next : ByteArray := prog_11_method_4_code
def yX9_next : MethodName := ⟨RX9, "next", "(IIIIJ)I"⟩
abbrev cX9_note : ByteArray := prog_11_method_5_code
def yX9_note : MethodName := ⟨RX9, "note", "(IIIJ)V"⟩
abbrev cX9_heldBy : ByteArray := prog_11_method_6_code
def yX9_heldBy : MethodName := ⟨RX9, "heldBy", "(I)J"⟩
abbrev cX9_free : ByteArray := prog_11_method_7_code
def yX9_free : MethodName := ⟨RX9, "free", "(I)J"⟩
abbrev cX9_up : ByteArray := prog_11_method_8_code
def yX9_up : MethodName := ⟨RX9, "up", "(JJ)J"⟩
abbrev cX9_add : ByteArray := prog_11_method_9_code
def yX9_add : MethodName := ⟨RX9, "add", "(IJJ)I"⟩
abbrev cX9_lot : ByteArray := prog_11_method_10_code
def yX9_lot : MethodName := ⟨RX9, "lot", "(IJJ)I"⟩
abbrev cX9_buyer : ByteArray := prog_11_method_11_code
def yX9_buyer : MethodName := ⟨RX9, "buyer", "(J)I"⟩
abbrev cX9_start : ByteArray := prog_11_method_12_code
def yX9_start : MethodName := ⟨RX9, "start", "(IJJ)I"⟩
abbrev cX9_priceAt : ByteArray := prog_11_method_13_code
def yX9_priceAt : MethodName := ⟨RX9, "priceAt", "(J)J"⟩
abbrev cX9_clock : ByteArray := prog_11_method_14_code
def yX9_clock : MethodName := ⟨RX9, "clock", "()J"⟩
abbrev cX9_press : ByteArray := prog_11_method_15_code
def yX9_press : MethodName := ⟨RX9, "press", "(IJ)Z"⟩
abbrev cX9_delay : ByteArray := prog_11_method_16_code
def yX9_delay : MethodName := ⟨RX9, "delay", "(IJ)Z"⟩
abbrev cX9_outage : ByteArray := prog_11_method_17_code
def yX9_outage : MethodName := ⟨RX9, "outage", "(JZ)Z"⟩
abbrev cX9_earliest : ByteArray := prog_11_method_18_code
def yX9_earliest : MethodName := ⟨RX9, "earliest", "()I"⟩
abbrev cX9_sell : ByteArray := prog_11_method_19_code
def yX9_sell : MethodName := ⟨RX9, "sell", "(I)V"⟩
abbrev cX9_goOn : ByteArray := prog_11_method_20_code
def yX9_goOn : MethodName := ⟨RX9, "goOn", "(J)I"⟩
abbrev cX9_tick : ByteArray := prog_11_method_21_code
def yX9_tick : MethodName := ⟨RX9, "tick", "(J)I"⟩
abbrev cX9_tie : ByteArray := prog_11_method_22_code
def yX9_tie : MethodName := ⟨RX9, "tie", "(II)I"⟩
abbrev cX9_isBought : ByteArray := prog_11_method_23_code
def yX9_isBought : MethodName := ⟨RX9, "isBought", "(I)Z"⟩
abbrev cX9_winner : ByteArray := prog_11_method_24_code
def yX9_winner : MethodName := ⟨RX9, "winner", "(I)I"⟩
abbrev cX9_price : ByteArray := prog_11_method_25_code
def yX9_price : MethodName := ⟨RX9, "price", "(I)J"⟩
abbrev cX9_part : ByteArray := prog_11_method_26_code
def yX9_part : MethodName := ⟨RX9, "part", "(IJ)I"⟩
abbrev cX9_left : ByteArray := prog_11_method_27_code
def yX9_left : MethodName := ⟨RX9, "left", "(I)J"⟩
abbrev cX9_again : ByteArray := prog_11_method_28_code
def yX9_again : MethodName := ⟨RX9, "again", "(I)I"⟩
abbrev cX9_back : ByteArray := prog_11_method_29_code
def yX9_back : MethodName := ⟨RX9, "back", "(I)I"⟩
abbrev cX9_fee : ByteArray := prog_11_method_30_code
def yX9_fee : MethodName := ⟨RX9, "fee", "(I)J"⟩
abbrev cX9_order : ByteArray := prog_11_method_31_code
def yX9_order : MethodName := ⟨RX9, "order", "(II)I"⟩
abbrev cX9_held : ByteArray := prog_11_method_32_code
def yX9_held : MethodName := ⟨RX9, "held", "(I)J"⟩
abbrev cX9_rise : ByteArray := prog_11_method_33_code
def yX9_rise : MethodName := ⟨RX9, "rise", "(IIJ)I"⟩
abbrev cX9_bid : ByteArray := prog_11_method_34_code
def yX9_bid : MethodName := ⟨RX9, "bid", "(IJ)I"⟩
abbrev cX9_on : ByteArray := prog_11_method_35_code
def yX9_on : MethodName := ⟨RX9, "on", "(II)Z"⟩
abbrev cX9_isGood : ByteArray := prog_11_method_36_code
def yX9_isGood : MethodName := ⟨RX9, "isGood", "(I)Z"⟩
abbrev cX9_sumOf : ByteArray := prog_11_method_37_code
def yX9_sumOf : MethodName := ⟨RX9, "sumOf", "(I)J"⟩
abbrev cX9_size : ByteArray := prog_11_method_38_code
def yX9_size : MethodName := ⟨RX9, "size", "(I)I"⟩
abbrev cX9_isFirst : ByteArray := prog_11_method_39_code
def yX9_isFirst : MethodName := ⟨RX9, "isFirst", "(II)Z"⟩
abbrev cX9_sets : ByteArray := prog_11_method_40_code
def yX9_sets : MethodName := ⟨RX9, "sets", "(J)I"⟩
abbrev cX9_wins : ByteArray := prog_11_method_41_code
def yX9_wins : MethodName := ⟨RX9, "wins", "(I)Z"⟩
abbrev cX9_sum : ByteArray := prog_11_method_42_code
def yX9_sum : MethodName := ⟨RX9, "sum", "()J"⟩
abbrev cX9_proved : ByteArray := prog_11_method_43_code
def yX9_proved : MethodName := ⟨RX9, "proved", "()Z"⟩
abbrev cX9_record : ByteArray := prog_11_method_44_code
def yX9_record : MethodName := ⟨RX9, "record", "(II)I"⟩
abbrev cX9_chained : ByteArray := prog_11_method_45_code
def yX9_chained : MethodName := ⟨RX9, "chained", "()Z"⟩
abbrev cX9_turn : ByteArray := prog_11_method_46_code
def yX9_turn : MethodName := ⟨RX9, "turn", "(J)V"⟩
abbrev cX9_play : ByteArray := prog_11_method_47_code
def yX9_play : MethodName := ⟨RX9, "play", "(JI)I"⟩
def RJx29ce0 : String := "java/lang/Enum"
def TJx29ce0 : u_T := fun k => match k with
  | _ => ("", "", "", false)
def tyJx29ce0 : Nat → FieldType := fun k => match k with
  | _ => .int
abbrev wsJx29ce00 : List Cond := u_ws RJx29ce0 TJx29ce0 0
theorem nmJx29ce0 : ∀ a, a < 0 → ∀ b, b < 0 → a ≠ b → (TJx29ce0 a).2.1 ≠ (TJx29ce0 b).2.1 := by decide +kernel
theorem tyJx29ce0_ok : ∀ k, k < 0 → parseFieldDescriptor (TJx29ce0 k).2.2.1 = some (tyJx29ce0 k) := by decide +kernel
def RJ6 : String := "java/lang/Integer"
def TJ6 : u_T := fun k => match k with
  | _ => ("", "", "", false)
def tyJ6 : Nat → FieldType := fun k => match k with
  | _ => .int
abbrev wsJ60 : List Cond := u_ws RJ6 TJ6 0
theorem nmJ6 : ∀ a, a < 0 → ∀ b, b < 0 → a ≠ b → (TJ6 a).2.1 ≠ (TJ6 b).2.1 := by decide +kernel
theorem tyJ6_ok : ∀ k, k < 0 → parseFieldDescriptor (TJ6 k).2.2.1 = some (tyJ6 k) := by decide +kernel
abbrev cJ6_bitCount_0f7a4 : ByteArray := prog_13_method_49_code
def yJ6_bitCount_0f7a4 : MethodName := ⟨RJ6, "bitCount", "(I)I"⟩
def RJ9 : String := "java/lang/Math"
def TJ9 : u_T := fun k => match k with
  | _ => ("", "", "", false)
def tyJ9 : Nat → FieldType := fun k => match k with
  | _ => .int
abbrev wsJ90 : List Cond := u_ws RJ9 TJ9 0
theorem nmJ9 : ∀ a, a < 0 → ∀ b, b < 0 → a ≠ b → (TJ9 a).2.1 ≠ (TJ9 b).2.1 := by decide +kernel
theorem tyJ9_ok : ∀ k, k < 0 → parseFieldDescriptor (TJ9 k).2.2.1 = some (tyJ9 k) := by decide +kernel
abbrev cJ9_max_f86c9 : ByteArray := prog_14_method_66_code
def yJ9_max_f86c9 : MethodName := ⟨RJ9, "max", "(JJ)J"⟩
abbrev cJ9_min_f86c9 : ByteArray := prog_14_method_70_code
def yJ9_min_f86c9 : MethodName := ⟨RJ9, "min", "(JJ)J"⟩
def RL : String := "ClockAuctionsLaw"
abbrev cL_law : ByteArray := code
def yL_law : MethodName := ⟨RL, "law", "([I)Z"⟩
abbrev vwCl : List vw_C := [(RX0, TX0, 4), (RX1, TX1, 4), (RX2, TX2, 3), (RX3, TX3, 5), (RX4, TX4, 6), (RX5, TX5, 12), (RX6, TX6, 6), (RX8, TX8, 11), (RX9, TX9, 36)]
end
section
/-! ===== the words that every method may use ===== -/
def wT : List Cond := lw_tbl.filter goodWord
theorem wT_mem {n : Nat} {w : Cond} (h : lw_tbl[n]? = some w) (hg : goodWord w = true) : w ∈ wT := List.mem_filter.mpr ⟨List.mem_of_getElem? h, hg⟩
theorem wT_tbl : ∀ w ∈ wT, w ∈ lw_tbl := fun _ h => (List.mem_filter.mp h).1
theorem wT_good {w : Cond} (h : w ∈ wT) : (w.onTables && w.keeps) = true ∨ ∃ ty, w = .arrayClass ty := good_of_word (List.mem_filter.mp h).2
abbrev wM (y : MethodName) (cc : ByteArray) (n : Nat) (ret : Option FieldType) : List Cond := Cond.code y cc n ret :: wT
theorem goodM {y : MethodName} {cc : ByteArray} {n : Nat} {ret : Option FieldType} (h : Cond.code y cc n ret ∈ wT) : GoodIn wT (wM y cc n ret) := fun w hw => by
  rcases List.mem_cons.mp hw with rfl | hw
  · exact ⟨h, wT_good h⟩
  · exact ⟨hw, wT_good hw⟩
theorem goodV {own C : String} {idx : Nat} {y : MethodName} {cc : ByteArray} {n : Nat} {ret : Option FieldType} (h1 : Cond.methodLink own idx y ∈ wT) (h2 : Cond.instanceMethod y ∈ wT) (h3 : Cond.selects C y y ∈ wT) (h4 : Cond.initialized C ∈ wT) (h5 : Cond.code y cc n ret ∈ wT) : GoodIn wT (wsV own idx C y (wM y cc n ret)) := fun w hw => by
  unfold wsV at hw
  rcases List.mem_append.mp hw with hw | hw
  · simp only [List.mem_cons, List.not_mem_nil, or_false] at hw
    rcases hw with rfl | rfl | rfl | rfl
    · exact ⟨h1, wT_good h1⟩
    · exact ⟨h2, wT_good h2⟩
    · exact ⟨h3, wT_good h3⟩
    · exact ⟨h4, wT_good h4⟩
  · exact goodM h5 w hw
theorem goodS {own : String} {idx : Nat} {y : MethodName} {cc : ByteArray} {n : Nat} {ret : Option FieldType} (h1 : Cond.methodLink own idx y ∈ wT) (h2 : Cond.static y ∈ wT) (h4 : Cond.initialized y.cls ∈ wT) (h5 : Cond.code y cc n ret ∈ wT) : GoodIn wT (va_wsS own idx y (wM y cc n ret)) := fun w hw => by
  unfold va_wsS at hw
  rcases List.mem_append.mp hw with hw | hw
  · simp only [List.mem_cons, List.not_mem_nil, or_false] at hw
    rcases hw with rfl | rfl | rfl
    · exact ⟨h1, wT_good h1⟩
    · exact ⟨h2, wT_good h2⟩
    · exact ⟨h4, wT_good h4⟩
  · exact goodM h5 w hw
/-! ===== the store: ints, longs, references (as numbers of objects), addresses, how many of each kind (99: the heap) ===== -/
abbrev St : Type := (Nat → Nat → Nat → Int32) × (Nat → Nat → Nat → Int64) × (Nat → Nat → Nat → Option Nat) × (Nat → Nat → Nat) × (Nat → Nat)
def gi (S : St) (k j f : Nat) : Int32 := S.1 k j f
def gj (S : St) (k j f : Nat) : Int64 := S.2.1 k j f
def gr (S : St) (k j f : Nat) : Option Nat := S.2.2.1 k j f
def ga (S : St) (k j : Nat) : Nat := S.2.2.2.1 k j
def gn (S : St) (k : Nat) : Nat := S.2.2.2.2 k
def up3 {α : Type} (F : Nat → Nat → Nat → α) (k j f : Nat) (v : α) : Nat → Nat → Nat → α := fun a b c => if a = k ∧ b = j ∧ c = f then v else F a b c
def si (S : St) (k j f : Nat) (v : Int32) : St := (up3 S.1 k j f v, S.2)
def sj (S : St) (k j f : Nat) (v : Int64) : St := (S.1, up3 S.2.1 k j f v, S.2.2)
def sr (S : St) (k j f : Nat) (v : Option Nat) : St := (S.1, S.2.1, up3 S.2.2.1 k j f v, S.2.2.2)
/-- one more object of kind k, with zeros, at the heap's end -/
def sn (S : St) (k : Nat) : St :=
  ((fun a b c => if a = k ∧ b = gn S k then 0 else S.1 a b c), (fun a b c => if a = k ∧ b = gn S k then 0 else S.2.1 a b c), (fun a b c => if a = k ∧ b = gn S k then none else S.2.2.1 a b c), (fun a b => if a = k ∧ b = gn S k then gn S 99 else S.2.2.2.1 a b), (fun a => if a = k ∨ a = 99 then S.2.2.2.2 a + 1 else S.2.2.2.2 a))
theorem gi_si (S : St) (k j f : Nat) (v : Int32) (a b c : Nat) : gi (si S k j f v) a b c = if a = k ∧ b = j ∧ c = f then v else gi S a b c := rfl
theorem gi_sj (S : St) (k j f : Nat) (v : Int64) (a b c : Nat) : gi (sj S k j f v) a b c = gi S a b c := rfl
theorem gi_sr (S : St) (k j f : Nat) (v : Option Nat) (a b c : Nat) : gi (sr S k j f v) a b c = gi S a b c := rfl
theorem gi_sn (S : St) (k : Nat) (a b c : Nat) : gi (sn S k) a b c = if a = k ∧ b = gn S k then 0 else gi S a b c := rfl
theorem gj_si (S : St) (k j f : Nat) (v : Int32) (a b c : Nat) : gj (si S k j f v) a b c = gj S a b c := rfl
theorem gj_sj (S : St) (k j f : Nat) (v : Int64) (a b c : Nat) : gj (sj S k j f v) a b c = if a = k ∧ b = j ∧ c = f then v else gj S a b c := rfl
theorem gj_sr (S : St) (k j f : Nat) (v : Option Nat) (a b c : Nat) : gj (sr S k j f v) a b c = gj S a b c := rfl
theorem gj_sn (S : St) (k : Nat) (a b c : Nat) : gj (sn S k) a b c = if a = k ∧ b = gn S k then 0 else gj S a b c := rfl
theorem gr_si (S : St) (k j f : Nat) (v : Int32) (a b c : Nat) : gr (si S k j f v) a b c = gr S a b c := rfl
theorem gr_sj (S : St) (k j f : Nat) (v : Int64) (a b c : Nat) : gr (sj S k j f v) a b c = gr S a b c := rfl
theorem gr_sr (S : St) (k j f : Nat) (v : Option Nat) (a b c : Nat) : gr (sr S k j f v) a b c = if a = k ∧ b = j ∧ c = f then v else gr S a b c := rfl
theorem gr_sn (S : St) (k : Nat) (a b c : Nat) : gr (sn S k) a b c = if a = k ∧ b = gn S k then none else gr S a b c := rfl
theorem gn_si (S : St) (k j f : Nat) (v : Int32) (a : Nat) : gn (si S k j f v) a = gn S a := rfl
theorem gn_sj (S : St) (k j f : Nat) (v : Int64) (a : Nat) : gn (sj S k j f v) a = gn S a := rfl
theorem gn_sr (S : St) (k j f : Nat) (v : Option Nat) (a : Nat) : gn (sr S k j f v) a = gn S a := rfl
theorem gn_sn (S : St) (k : Nat) (a : Nat) : gn (sn S k) a = if a = k ∨ a = 99 then gn S a + 1 else gn S a := rfl
theorem ga_sn (S : St) (k : Nat) (a b : Nat) : ga (sn S k) a b = if a = k ∧ b = gn S k then gn S 99 else ga S a b := rfl
def Ext (S S' : St) : Prop := ∀ k j, j < gn S k → j < gn S' k ∧ ga S' k j = ga S k j
theorem Ext.rf {S : St} : Ext S S := fun _ _ h => ⟨h, rfl⟩
theorem Ext.trans {S S1 S2 : St} (h1 : Ext S S1) (h2 : Ext S1 S2) : Ext S S2 := fun k j h => ⟨(h2 k j (h1 k j h).1).1, ((h2 k j (h1 k j h).1).2).trans (h1 k j h).2⟩
def AtO (S : St) (k j a : Nat) : Prop := j < gn S k ∧ ga S k j = a
theorem AtO.ext {S S' : St} {k j a : Nat} (h : AtO S k j a) (hx : Ext S S') : AtO S' k j a := ⟨(hx k j h.1).1, (hx k j h.1).2.trans h.2⟩
/-- only the row (k, j) may differ -/
def Upd (S S' : St) (k j : Nat) : Prop := (∀ k' j', ¬ (k' = k ∧ j' = j) → gi S' k' j' = gi S k' j' ∧ gj S' k' j' = gj S k' j' ∧ gr S' k' j' = gr S k' j') ∧ ga S' = ga S ∧ gn S' = gn S
theorem Upd.ext {S S' : St} {k j : Nat} (h : Upd S S' k j) : Ext S S' := fun a b hb => ⟨by rw [h.2.2]; exact hb, by rw [h.2.1]⟩
theorem upd_si (S : St) (k j f : Nat) (v : Int32) : Upd S (si S k j f v) k j := ⟨fun a b h => ⟨by funext c; exact (gi_si S k j f v a b c).trans (if_neg fun q => h ⟨q.1, q.2.1⟩), rfl, rfl⟩, rfl, rfl⟩
theorem upd_sj (S : St) (k j f : Nat) (v : Int64) : Upd S (sj S k j f v) k j := ⟨fun a b h => ⟨rfl, by funext c; exact (gj_sj S k j f v a b c).trans (if_neg fun q => h ⟨q.1, q.2.1⟩), rfl⟩, rfl, rfl⟩
theorem upd_sr (S : St) (k j f : Nat) (v : Option Nat) : Upd S (sr S k j f v) k j := ⟨fun a b h => ⟨rfl, rfl, by funext c; exact (gr_sr S k j f v a b c).trans (if_neg fun q => h ⟨q.1, q.2.1⟩)⟩, rfl, rfl⟩
/-! ===== the picture ===== -/
def pcM (cA : Nat → ClassId) (es : Nat → Nat) (ad : Nat → Nat → Nat) (k : Nat) (I : Nat → Int32) (J : Nat → Int64) (R : Nat → Option Nat) : va_E := match k with
  | 0 => .inr (0, [.int (I 0), .int (I 1), .long (J 2), .long (J 3)])
  | 1 => .inr (1, [.int (I 0), .long (J 1), .long (J 2), .long (J 3)])
  | 2 => .inr (2, [.ref (ad 13 0), .int (I 1), .int (I 2)])
  | 3 => .inr (3, [.int (I 0), .int (I 1), .int (I 2), .long (J 3), .int (I 4)])
  | 4 => .inr (4, [va_rf (Option.map (ad 5) (R 0)), .long (J 1), .long (J 2), .long (J 3), .long (J 4), .int (I 5)])
  | 5 => .inr (5, [.int (I 0), .int (I 1), .long (J 2), .long (J 3), va_rf (Option.map es (R 4)), .int (I 5), .long (J 6), .long (J 7), .int (I 8), .int (I 9), .int (I 10), .int (I 11)])
  | 6 => .inr (6, [.ref (ad 14 0), .ref (ad 15 0), .ref (ad 16 0), .int (I 3), .int (I 4), .long (J 5)])
  | 7 => .inr (7, [.ref (ad 10 0), .ref (ad 11 0), .ref (ad 12 0), .ref (ad 4 0), .ref (ad 2 0), .ref (ad 6 0), .int (I 6), .int (I 7), .int (I 8), .long (J 9), .int (I 10)])
  | 8 => .inr (8, [.int (I 0), .ref (ad 17 0), .ref (ad 18 0), .ref (ad 19 0), .ref (ad 20 0), .ref (ad 21 0), .ref (ad 22 0), .ref (ad 23 0), .ref (ad 24 0), .ref (ad 25 0), .ref (ad 26 0), .ref (ad 27 0), .int (I 12), .ref (ad 28 0), .ref (ad 29 0), .ref (ad 30 0), .long (J 16), .int (I 17), .long (J 18), .long (J 19), .long (J 20), .long (J 21), .int (I 22), .int (I 23), .ref (ad 31 0), .ref (ad 32 0), .ref (ad 33 0), .int (I 27), .long (J 28), .int (I 29), .int (I 30), .ref (ad 34 0), .ref (ad 35 0), .ref (ad 36 0), .ref (ad 37 0), .ref (ad 38 0)])
  | 10 => .inl (cA 10, (60, .inr (.inr (.inr (.inr (fun e => Option.map (ad 5) (R e)))))))
  | 11 => .inl (cA 11, (30, .inr (.inr (.inr (.inr (fun e => Option.map (ad 1) (R e)))))))
  | 12 => .inl (cA 12, (18, .inr (.inr (.inr (.inr (fun e => Option.map (ad 0) (R e)))))))
  | 13 => .inl (cA 13, (240, .inr (.inr (.inr (.inr (fun e => Option.map (ad 3) (R e)))))))
  | 14 => .inl (cA 14, (18, .inr (.inr (.inr (.inr (fun e => Option.map (ad 0) (R e)))))))
  | 15 => .inl (cA 15, (19, .inr (.inl J)))
  | 16 => .inl (cA 16, (30, .inr (.inl J)))
  | 17 => .inl (cA 17, (60, .inl I))
  | 18 => .inl (cA 18, (60, .inr (.inl J)))
  | 19 => .inl (cA 19, (60, .inr (.inl J)))
  | 20 => .inl (cA 20, (60, .inl I))
  | 21 => .inl (cA 21, (60, .inl I))
  | 22 => .inl (cA 22, (60, .inr (.inl J)))
  | 23 => .inl (cA 23, (60, .inl I))
  | 24 => .inl (cA 24, (60, .inl I))
  | 25 => .inl (cA 25, (60, .inl I))
  | 26 => .inl (cA 26, (60, .inr (.inl J)))
  | 27 => .inl (cA 27, (60, .inl I))
  | 28 => .inl (cA 28, (30, .inr (.inl J)))
  | 29 => .inl (cA 29, (30, .inr (.inl J)))
  | 30 => .inl (cA 30, (30, .inr (.inl J)))
  | 31 => .inl (cA 31, (18, .inl I))
  | 32 => .inl (cA 32, (18, .inr (.inl J)))
  | 33 => .inl (cA 33, (18, .inr (.inl J)))
  | 34 => .inl (cA 34, (1024, .inl I))
  | 35 => .inl (cA 35, (1024, .inl I))
  | 36 => .inl (cA 36, (1024, .inl I))
  | 37 => .inl (cA 37, (1024, .inr (.inl J)))
  | 38 => .inl (cA 38, (1024, .inl I))
  | _ => .inr (0, [])
def tysM (cA : Nat → ClassId) : List (ClassId × FieldType) := [(cA 10, .object "ClockAuctions$Lot"), (cA 11, .object "ClockAuctions$Buyer"), (cA 12, .object "ClockAuctions$Bid"), (cA 13, .object "ClockAuctions$Entry"), (cA 14, .object "ClockAuctions$Bid"), (cA 15, .long), (cA 16, .long), (cA 17, .int), (cA 18, .long), (cA 19, .long), (cA 20, .int), (cA 21, .int), (cA 22, .long), (cA 23, .boolean), (cA 24, .boolean), (cA 25, .boolean), (cA 26, .long), (cA 27, .int), (cA 28, .long), (cA 29, .long), (cA 30, .long), (cA 31, .int), (cA 32, .long), (cA 33, .long), (cA 34, .int), (cA 35, .int), (cA 36, .int), (cA 37, .long), (cA 38, .int)]
def kB (n : Nat → Nat) (k : Nat) : Nat := match k with
  | 5 => 6
  | 4 => n 5
  | 10 => n 5
  | 11 => n 1
  | 12 => n 0
  | 13 => n 3
  | 14 => n 0
  | _ => 0
abbrev GT : Type := va_G × Nat × (Nat → ClassId) × (Nat → Nat)
def pcS (G : GT) (S : St) (k j : Nat) : va_E := pcM G.2.2.1 G.2.2.2 (ga S) k (gi S k j) (gj S k j) (gr S k j)
def stN (j : Nat) : String := match j with
  | 0 => "OPEN"
  | 1 => "ON"
  | 2 => "OFFERED"
  | 3 => "SOLD"
  | 4 => "UNSOLD"
  | _ => "BACK"
def pwFix (k : Nat) : Prop := k < 39 ∧ k ≠ 0 ∧ k ≠ 1 ∧ k ≠ 3 ∧ k ≠ 5 ∧ k ≠ 9
def PW (G : GT) (S : St) (U : State) (H : Heap) : Prop :=
  (H.size = gn S 99 ∧ G.2.1 ≤ H.size) ∧
  (∀ k j, k < 39 → k ≠ 9 → j < gn S k → va_at G.1 vwCl (ga S k j, pcS G S k j) H ∧ G.2.1 ≤ ga S k j) ∧
  (∀ k j k' j', k < 39 → k' < 39 → k ≠ 9 → k' ≠ 9 → j < gn S k → j' < gn S k' → ga S k j = ga S k' j' → k = k' ∧ j = j') ∧
  (∀ k j f i, gr S k j f = some i → i < kB (gn S) k) ∧
  (∀ k, pwFix k → 0 < gn S k) ∧
  (∀ i j, i < 6 → j < 6 → G.2.2.2 i = G.2.2.2 j → i = j) ∧
  va_K G.1 vwCl (tysM G.2.2.1) U ∧
  (∀ j, j < 6 → va_Z "ClockAuctions$State" (stN j) "LClockAuctions$State;" (.ref (G.2.2.2 j)) (fun q => G.2.1 ≤ q) U H)
theorem PW.K {G : GT} {S : St} {U : State} {H : Heap} (h : PW G S U H) : va_K G.1 vwCl (tysM G.2.2.1) U := h.2.2.2.2.2.2.1
theorem PW.moved {G : GT} {S : St} {U U' : State} {H : Heap} (hvm : U.vm.Alike U'.vm) (h : PW G S U H) : PW G S U' H :=
  ⟨h.1, h.2.1, h.2.2.1, h.2.2.2.1, h.2.2.2.2.1, h.2.2.2.2.2.1, va_K.moved hvm h.K, fun j hj => va_Z.moved hvm (h.2.2.2.2.2.2.2 j hj)⟩
theorem PW.upd {G : GT} {S S' : St} {U : State} {H H1 : Heap} (h : PW G S U H) {k j : Nat} (hk : k < 39) (hk9 : k ≠ 9) (hj : j < gn S k) (hU : Upd S S' k j) (hat : va_at G.1 vwCl (ga S k j, pcS G S' k j) H1) (z : H1.size = H.size) (oq : ∀ q, q ≠ ga S k j → H1[q]? = H[q]?) (hwf : ∀ k j f i, gr S' k j f = some i → i < kB (gn S') k) : PW G S' U H1 := by
  obtain ⟨hI, hA, hN⟩ := hU
  obtain ⟨h1, h2, h3, h4, h5, h6, h7, h8⟩ := h
  refine ⟨⟨by rw [z, hN]; exact h1.1, by rw [z]; exact h1.2⟩, fun k' j' a b c => ?_, fun k1 j1 k2 j2 => by rw [hA, hN]; exact h3 k1 j1 k2 j2, hwf, fun k' hk' => by rw [hN]; exact h5 k' hk', h6, h7, fun i hi => (h8 i hi).kept fun q hq hb => oq q fun e => hb (by rw [e]; exact (h2 k j hk hk9 hj).2)⟩
  rw [hN] at c
  rw [hA]
  by_cases e : k' = k ∧ j' = j
  · obtain ⟨rfl, rfl⟩ := e
    exact ⟨hat, (h2 k' j' a b c).2⟩
  · have e2 : pcS G S' k' j' = pcS G S k' j' := by
      unfold pcS
      rw [hA, (hI k' j' e).1, (hI k' j' e).2.1, (hI k' j' e).2.2]
    rw [e2]
    obtain ⟨q1, q2⟩ := h2 k' j' a b c
    exact ⟨q1.kept (oq _ fun z => e (h3 k' j' k j a hk b hk9 c hj z)), q2⟩
theorem pw_wf {G : GT} {S : St} {U : State} {H : Heap} (h : PW G S U H) : ∀ k j f i, gr S k j f = some i → i < kB (gn S) k := h.2.2.2.1
theorem wf_same {S S' : St} (h : ∀ k j f i, gr S k j f = some i → i < kB (gn S) k) (e1 : S'.2.2.1 = S.2.2.1) (e2 : S'.2.2.2.2 = S.2.2.2.2) : ∀ k j f i, gr S' k j f = some i → i < kB (gn S') k := fun k j f i q => by
  have e3 : gr S' = gr S := e1
  have e4 : gn S' = gn S := e2
  rw [e3] at q
  rw [e4]
  exact h k j f i q
theorem wf_sr {S : St} {k j f : Nat} {v : Option Nat} (h : ∀ k j f i, gr S k j f = some i → i < kB (gn S) k) (hv : ∀ i, v = some i → i < kB (gn S) k) : ∀ k' j' f' i, gr (sr S k j f v) k' j' f' = some i → i < kB (gn (sr S k j f v)) k' := fun k' j' f' i q => by
  rw [gr_sr] at q
  by_cases e : k' = k ∧ j' = j ∧ f' = f
  · rw [if_pos e] at q
    obtain ⟨rfl, rfl, rfl⟩ := e
    exact hv i q
  · rw [if_neg e] at q
    exact h k' j' f' i q
/-- all fields of an object, or an array's elements, are as they were, but the world is a larger one -/
theorem kB_mono {n n' : Nat → Nat} (h : ∀ k, n k ≤ n' k) (k : Nat) : kB n k ≤ kB n' k := by
  unfold kB
  split <;> first | exact Nat.le_refl _ | exact h _
/-- the whole world, and what was there before -/
def WW (G : GT) (S : St) (s : State) (H : Heap) (locs : List Loc) : Prop := PW G S s H ∧ va_S (fun q => G.2.1 ≤ q) s.heap H locs
abbrev CX (p : Program) (m : MethodId) (c : Code) (cc : ByteArray) (nL : Nat) (s : State) (args : Array Value) (own : String) : Prop := CallFix p m c cc nL s args wT own
section ROWS
variable {p : Program} {l : Launch} {e : Env} {R : Room} {s : State} {m : MethodId} {args : Array Value} {below : List Frame} {meth : Method} {c : Code} {H : Heap} {locs : List Loc} {cells slots : Nat} {Q : State → Prop}
variable {cc : ByteArray} {pc nL : Nat} {ls : Array Slot} {rest : List Value} {G : GT} {S : St} {own : String} {a j : Nat}
theorem W.tight {g : JFrame} {k : Nat} (hsz : H.size ≤ s.heap.size + k) (kk : W p l e R s m args below meth c H locs k slots Q g) : W p l e R s m args below meth c H locs cells slots Q g :=
  fun T hT X => kk T hT { X with same := ⟨X.same.1, X.same.2.1, by show T.heap.size ≤ _; rw [hT]; exact hsz, X.same.2.2.2⟩ }
theorem pw_one {k : Nat} (hw : WW G S s H locs) (hk : k < 39) (hk9 : k ≠ 9) (ha : AtO S k j a) : va_P G.1 vwCl [(a, pcS G S k j)] H := fun i q hq => by
  obtain ⟨hj, rfl⟩ := ha
  cases i with
  | zero =>
    have h := Option.some.inj hq
    subst h
    exact (hw.1.2.1 k j hk hk9 hj).1
  | succ i => simp at hq
theorem pw_get (F : CX p m c cc nL s args own) (hw : WW G S s H locs) (k : Nat) (hk : k < 39) (hk9 : k ≠ 9) (ha : AtO S k j a) {ref C : String} {T : u_T} {N ci index : Nat} (hin : ∀ w ∈ u_ws C T N, w ∈ wT) {fs : List Value} (he : pcS G S k j = .inr (ci, fs)) (hc : vwCl[ci]? = some (C, T, N)) (f : Nat) (hf : f < N) (hl : Cond.fieldLink own index ref (T f).2.1 (T f).2.2.1 ∈ wT) (hsame : ∀ x, s.fieldFound? (T f).1 (T f).2.1 (T f).2.2.1 = some x → s.fieldFound? ref (T f).2.1 (T f).2.2.1 = some x) {v : Value} (hv : fs[f]? = some v) (hdg : decode cc pc = .ok (.getfield index, 3))
    (kk : W p l e R s m args below meth c H locs cells slots Q (F0 m (pc + 3) ls (v :: rest))) : W p l e R s m args below meth c H locs cells slots Q (F0 m pc ls (.ref a :: rest)) :=
  va_get (D := G.1) (cl := vwCl) (ci := ci) (C := C) (T := T) (N := N) F.1 F.2.1 F.2.2.2.2 hin F.2.2.2.1 hw.1.K (pw_one hw hk hk9 ha) 0 (by rw [he]; rfl) hc f hf (F.2.2.2.2 _ hl) hsame hv hdg kk
theorem pw_put (F : CX p m c cc nL s args own) (hw : WW G S s H locs) (k : Nat) (hk : k < 39) (hk9 : k ≠ 9) (ha : AtO S k j a) {ref C : String} {T : u_T} {N ci index : Nat} (hin : ∀ w ∈ u_ws C T N, w ∈ wT) (ty0 : Nat → FieldType) (hty : ∀ k, k < N → parseFieldDescriptor (T k).2.2.1 = some (ty0 k)) (hnm : ∀ a, a < N → ∀ b, b < N → a ≠ b → (T a).2.1 ≠ (T b).2.1) {fs : List Value} (he : pcS G S k j = .inr (ci, fs)) (hc : vwCl[ci]? = some (C, T, N)) (f : Nat) (hf : f < N) (hl : Cond.fieldLink own index ref (T f).2.1 (T f).2.2.1 ∈ wT) (hsame : ∀ x, s.fieldFound? (T f).1 (T f).2.1 (T f).2.2.1 = some x → s.fieldFound? ref (T f).2.1 (T f).2.2.1 = some x)
    (hfin : (T f).2.2.2 = false) {ty : FieldType} {v : Value} (hd : parseFieldDescriptor (T f).2.2.1 = some ty) (hn : narrow ty v = v) (hfit : fits ty v = true) (hlen : f < fs.length) {S' : St} (hE : pcS G S' k j = .inr (ci, fs.set f v)) (hU : Upd S S' k j) (hwf : ∀ k j f i, gr S' k j f = some i → i < kB (gn S') k) (hdg : decode cc pc = .ok (.putfield index, 3))
    (kk : ∀ (H1 : Heap) (locs1 : List Loc), WW G S' s H1 locs1 → Ext S S' → W p l e R s m args below meth c H1 locs1 cells slots Q (F0 m (pc + 3) ls rest)) : W p l e R s m args below meth c H locs cells slots Q (F0 m pc ls (v :: .ref a :: rest)) := by
  obtain ⟨hx, hb, hml, hown, hts⟩ := F
  obtain ⟨hP, hS⟩ := hw
  have hap := va_apart (own := own) hts hin ty0 hty hnm hP.K hc
  obtain ⟨hj, rfl⟩ := ha
  obtain ⟨hat, hbs⟩ := hP.2.1 k j hk hk9 hj
  rw [he] at hat
  obtain ⟨r, h1, cell, q1, q2, q3, q4⟩ := hat
  have hr : r = (C, T, N) := Option.some.inj (h1.symm.trans hc)
  subst hr
  obtain ⟨hSl, hfc, kC, hkC, hkind⟩ := hP.K.1 ci _ hc
  obtain ⟨cf, kf, fi, fd, hi, hsl⟩ := hSl f hf
  have hlay := hts _ (hin _ (u_in_lay hf))
  unfold u_lay at hlay
  rw [if_neg (by rw [hfin]; decide)] at hlay
  have hst := (u_facts hfc hkC (u_lays hts hin hf) hi).1
  have h6 := u_store hfc hkC hkind hlay hi hd hn hfit
  refine W.putK hx hb (f := fd) ⟨hown, hts _ hl, ⟨_, _, _, hsame _ hi⟩, hst⟩ (by rw [q2]; exact h6) q1 q3 (by rw [hsl]; exact k2_hasslot (q4 f hf)) rfl rfl hdg fun H' e1 e2 e3 => ?_
  rw [hsl] at e1 ⊢
  refine kk H' _ ⟨hP.upd hk hk9 hj hU ?_ e2 e3 hwf, hS.put e2 e3 hbs⟩ hU.ext
  rw [hE]
  exact ⟨_, hc, t_OB.to (V := updV (vp_V fs) f v) ⟨_, e1, q2, q3, t_set q4 hap hf v⟩ (fun j _ => vp_updV_set hlen v j)⟩
theorem pw_putF (F : CX p m c cc nL s args own) (hw : WW G S s H locs) (k : Nat) (hk : k < 39) (hk9 : k ≠ 9) (ha : AtO S k j a) {ref C : String} {T : u_T} {N ci index : Nat} (hin : ∀ w ∈ u_ws C T N, w ∈ wT) (ty0 : Nat → FieldType) (hty : ∀ k, k < N → parseFieldDescriptor (T k).2.2.1 = some (ty0 k)) (hnm : ∀ a, a < N → ∀ b, b < N → a ≠ b → (T a).2.1 ≠ (T b).2.1) {fs : List Value} (he : pcS G S k j = .inr (ci, fs)) (hc : vwCl[ci]? = some (C, T, N)) (f : Nat) (hf : f < N) (hl : Cond.fieldLink own index ref (T f).2.1 (T f).2.2.1 ∈ wT) (hsame : ∀ x, s.fieldFound? (T f).1 (T f).2.1 (T f).2.2.1 = some x → s.fieldFound? ref (T f).2.1 (T f).2.2.1 = some x)
    (hfin : (T f).2.2.2 = true) (hin2 : meth.name = "<init>") (hdecl : (T f).1 = own) {ty : FieldType} {v : Value} (hd : parseFieldDescriptor (T f).2.2.1 = some ty) (hn : narrow ty v = v) (hfit : fits ty v = true) (hlen : f < fs.length) {S' : St} (hE : pcS G S' k j = .inr (ci, fs.set f v)) (hU : Upd S S' k j) (hwf : ∀ k j f i, gr S' k j f = some i → i < kB (gn S') k) (hdg : decode cc pc = .ok (.putfield index, 3))
    (kk : ∀ (H1 : Heap) (locs1 : List Loc), WW G S' s H1 locs1 → Ext S S' → W p l e R s m args below meth c H1 locs1 cells slots Q (F0 m (pc + 3) ls rest)) : W p l e R s m args below meth c H locs cells slots Q (F0 m pc ls (v :: .ref a :: rest)) := by
  obtain ⟨hx, hb, hml, hown, hts⟩ := F
  obtain ⟨hP, hS⟩ := hw
  have hap := va_apart (own := own) hts hin ty0 hty hnm hP.K hc
  obtain ⟨hj, rfl⟩ := ha
  obtain ⟨hat, hbs⟩ := hP.2.1 k j hk hk9 hj
  rw [he] at hat
  obtain ⟨r, h1, cell, q1, q2, q3, q4⟩ := hat
  have hr : r = (C, T, N) := Option.some.inj (h1.symm.trans hc)
  subst hr
  obtain ⟨hSl, hfc, kC, hkC, hkind⟩ := hP.K.1 ci _ hc
  obtain ⟨cf, kf, fi, fd, hi, hsl⟩ := hSl f hf
  have hlay := hts _ (hin _ (u_in_lay hf))
  unfold u_lay at hlay
  rw [if_pos hfin] at hlay
  have hst := (u_facts hfc hkC (u_lays hts hin hf) hi).1
  have hcf : m.cls = cf := by
    obtain ⟨_, _, c', _, _, _, -, -, hf', -, -, -, hown2, -⟩ := Cond.laysFinal_spec hlay
    have e1 : c' = cf := by have := hi.symm.trans hf'; simp at this; exact this.1.symm
    rw [hdecl] at hown2
    rw [← e1]; exact Option.some.inj (hown.symm.trans hown2)
  have h6 := u_fits hfc hkC hkind (Or.inr hlay) hi hd hn hfit
  refine W.putFinK hx hb hown (hts _ hl) (hsame _ hi) hst hcf hin2 (by rw [q2]; exact h6) q1 q3 (by rw [hsl]; exact k2_hasslot (q4 f hf)) rfl rfl hdg fun H' e1 e2 e3 => ?_
  rw [hsl] at e1 ⊢
  refine kk H' _ ⟨hP.upd hk hk9 hj hU ?_ e2 e3 hwf, hS.put e2 e3 hbs⟩ hU.ext
  rw [hE]
  exact ⟨_, hc, t_OB.to (V := updV (vp_V fs) f v) ⟨_, e1, q2, q3, t_set q4 hap hf v⟩ (fun j _ => vp_updV_set hlen v j)⟩
theorem pw_recv (hw : WW G S s H locs) (k : Nat) (hk : k < 39) (hk9 : k ≠ 9) (ha : AtO S k j a) {ci : Nat} {q : vw_C} {fs : List Value} (he : pcS G S k j = .inr (ci, fs)) (hc : vwCl[ci]? = some q) : ∃ cell : Cell, H[a]? = some cell ∧ cell.vm.isStatics = false ∧ s.vm.findClass q.1 = some cell.cls :=
  va_recv (D := G.1) (cl := vwCl) hw.1.K (pw_one hw hk hk9 ha) (q0 := 0) (ci := ci) (fs := fs) hc (by rw [he]; rfl)
/-! arrays -/
theorem pw_arr (hw : WW G S s H locs) (k : Nat) (hk : k < 39) (hk9 : k ≠ 9) (ha : AtO S k j a) {cA : ClassId} {A : vp_A} (he : pcS G S k j = .inl (cA, A)) : H[a]? = some (vp_cell cA A) := by
  obtain ⟨hj, rfl⟩ := ha
  have h := (hw.1.2.1 k j hk hk9 hj).1
  rw [he] at h
  exact h
theorem pw_iald (F : CX p m c cc nL s args own) (hw : WW G S s H locs) (k t : Nat) (hk : k < 39) (hk9 : k ≠ 9) (ha : AtO S k j a) {n : Nat} (he : pcS G S k j = .inl (G.2.2.1 k, (n, .inl (gi S k j)))) (ht : (tysM G.2.2.1)[t]? = some (G.2.2.1 k, .int)) {i : Int32} (hin : vp_in i n) (hdg : decode cc pc = .ok (.iaload, 1))
    (kk : W p l e R s m args below meth c H locs cells slots Q (F0 m (pc + 1) ls (.int (gi S k j i.toNatClampNeg) :: rest))) : W p l e R s m args below meth c H locs cells slots Q (F0 m pc ls (.int i :: .ref a :: rest)) :=
  va_iald (D := G.1) (cl := vwCl) F.1 F.2.1 hw.1.K (pw_one hw hk hk9 ha) 0 t (by rw [he]; rfl) ht hin hdg kk
theorem pw_zald (F : CX p m c cc nL s args own) (hw : WW G S s H locs) (k t : Nat) (hk : k < 39) (hk9 : k ≠ 9) (ha : AtO S k j a) {n : Nat} (he : pcS G S k j = .inl (G.2.2.1 k, (n, .inl (gi S k j)))) (ht : (tysM G.2.2.1)[t]? = some (G.2.2.1 k, .boolean)) {i : Int32} (hin : vp_in i n) (hdg : decode cc pc = .ok (.baload, 1))
    (kk : W p l e R s m args below meth c H locs cells slots Q (F0 m (pc + 1) ls (.int (gi S k j i.toNatClampNeg) :: rest))) : W p l e R s m args below meth c H locs cells slots Q (F0 m pc ls (.int i :: .ref a :: rest)) :=
  va_zald (D := G.1) (cl := vwCl) F.1 F.2.1 hw.1.K (pw_one hw hk hk9 ha) 0 t (by rw [he]; rfl) ht hin hdg kk
theorem pw_lald (F : CX p m c cc nL s args own) (hw : WW G S s H locs) (k t : Nat) (hk : k < 39) (hk9 : k ≠ 9) (ha : AtO S k j a) {n : Nat} (he : pcS G S k j = .inl (G.2.2.1 k, (n, .inr (.inl (gj S k j))))) (ht : (tysM G.2.2.1)[t]? = some (G.2.2.1 k, .long)) {i : Int32} (hin : vp_in i n) (hdg : decode cc pc = .ok (.laload, 1))
    (kk : W p l e R s m args below meth c H locs cells slots Q (F0 m (pc + 1) ls (.long (gj S k j i.toNatClampNeg) :: rest))) : W p l e R s m args below meth c H locs cells slots Q (F0 m pc ls (.int i :: .ref a :: rest)) :=
  va_lald (D := G.1) (cl := vwCl) F.1 F.2.1 hw.1.K (pw_one hw hk hk9 ha) 0 t (by rw [he]; rfl) ht hin hdg kk
theorem pw_aald (F : CX p m c cc nL s args own) (hw : WW G S s H locs) (k t k2 : Nat) (hk : k < 39) (hk9 : k ≠ 9) (ha : AtO S k j a) {n : Nat} {C : String} (he : pcS G S k j = .inl (G.2.2.1 k, (n, .inr (.inr (.inr (.inr (fun e => Option.map (ga S k2) (gr S k j e)))))))) (hkb : kB (gn S) k = gn S k2) (ht : (tysM G.2.2.1)[t]? = some (G.2.2.1 k, .object C)) {i : Int32} (hin : vp_in i n) (hdg : decode cc pc = .ok (.aaload, 1))
    (kn : gr S k j i.toNatClampNeg = none → W p l e R s m args below meth c H locs cells slots Q (F0 m (pc + 1) ls (.null :: rest)))
    (ks : ∀ j2 a2 : Nat, gr S k j i.toNatClampNeg = some j2 → AtO S k2 j2 a2 → W p l e R s m args below meth c H locs cells slots Q (F0 m (pc + 1) ls (.ref a2 :: rest))) : W p l e R s m args below meth c H locs cells slots Q (F0 m pc ls (.int i :: .ref a :: rest)) := by
  refine va_aldq (D := G.1) (cl := vwCl) (C := C) F.1 F.2.1 hw.1.K (pw_one hw hk hk9 ha) 0 t (by rw [he]; rfl) ht hin hdg ?_
  cases hr : gr S k j i.toNatClampNeg with
  | none => exact kn hr
  | some j2 => exact ks j2 _ hr ⟨by rw [← hkb]; exact pw_wf hw.1 _ _ _ _ hr, rfl⟩
theorem pw_alen (F : CX p m c cc nL s args own) (hw : WW G S s H locs) (k t : Nat) (hk : k < 39) (hk9 : k ≠ 9) (ha : AtO S k j a) {A : vp_A} (he : pcS G S k j = .inl (G.2.2.1 k, A)) {ty : FieldType} (ht : (tysM G.2.2.1)[t]? = some (G.2.2.1 k, ty)) {v : Int32} (hv : Int32.ofNat A.1 = v) (hdg : decode cc pc = .ok (.arraylength, 1))
    (kk : W p l e R s m args below meth c H locs cells slots Q (F0 m (pc + 1) ls (.int v :: rest))) : W p l e R s m args below meth c H locs cells slots Q (F0 m pc ls (.ref a :: rest)) :=
  va_alen (D := G.1) (cl := vwCl) F.1 F.2.1 hw.1.K (pw_one hw hk hk9 ha) 0 t (by rw [he]; rfl) ht hv hdg kk
theorem pw_iast (F : CX p m c cc nL s args own) (hw : WW G S s H locs) (k t : Nat) (hk : k < 39) (hk9 : k ≠ 9) (ha : AtO S k j a) {n : Nat} (he : ∀ S : St, pcS G S k j = .inl (G.2.2.1 k, (n, .inl (gi S k j)))) (ht : (tysM G.2.2.1)[t]? = some (G.2.2.1 k, .int)) {i x : Int32} (hin : vp_in i n) (hdg : decode cc pc = .ok (.iastore, 1))
    (kk : ∀ (S1 : St) (H1 : Heap) (locs1 : List Loc), S1 = si S k j i.toNatClampNeg x → WW G S1 s H1 locs1 → Ext S S1 → W p l e R s m args below meth c H1 locs1 cells slots Q (F0 m (pc + 1) ls rest)) : W p l e R s m args below meth c H locs cells slots Q (F0 m pc ls (.int x :: .int i :: .ref a :: rest)) := by
  have h0 := pw_arr hw k hk hk9 ha (he S)
  have hlt : i.toNatClampNeg < n := Nat.not_le.mp fun q => hin (Or.inr q)
  have hU := upd_si S k j i.toNatClampNeg x
  obtain ⟨hj, rfl⟩ := ha
  refine W.iast F.1 F.2.1 h0 ((hw.1.K.2 t _ ht).1 n (fun j2 => .int (gi S k j j2))) (fun q => by cases q) (by show ¬ (i < 0 ∨ (arrV _ _ _).slots.size ≤ _); rw [arrV_size]; exact hin) rfl rfl hdg fun H1 e z oq => ?_
  refine kk _ H1 _ rfl ⟨hw.1.upd hk hk9 hj hU ?_ z oq (wf_same (pw_wf hw.1) rfl rfl), hw.2.put z oq (hw.1.2.1 k j hk hk9 hj).2⟩ hU.ext
  rw [he]
  show H1[ga S k j]? = some (vp_cell _ _)
  rw [e, vp_cell_i, vp_cell_i, arrV_store]
  congr 2
  funext q
  by_cases hq : q = i.toNatClampNeg
  · subst hq
    simp [updV, gi_si]
  · simp [updV, gi_si, hq]
theorem pw_zast (F : CX p m c cc nL s args own) (hw : WW G S s H locs) (k t : Nat) (hk : k < 39) (hk9 : k ≠ 9) (ha : AtO S k j a) {n : Nat} (he : ∀ S : St, pcS G S k j = .inl (G.2.2.1 k, (n, .inl (gi S k j)))) (ht : (tysM G.2.2.1)[t]? = some (G.2.2.1 k, .boolean)) {i x : Int32} (hin : vp_in i n) (hx : narrow .boolean (.int x) = .int x) (hdg : decode cc pc = .ok (.bastore, 1))
    (kk : ∀ (S1 : St) (H1 : Heap) (locs1 : List Loc), S1 = si S k j i.toNatClampNeg x → WW G S1 s H1 locs1 → Ext S S1 → W p l e R s m args below meth c H1 locs1 cells slots Q (F0 m (pc + 1) ls rest)) : W p l e R s m args below meth c H locs cells slots Q (F0 m pc ls (.int x :: .int i :: .ref a :: rest)) := by
  have h0 := pw_arr hw k hk hk9 ha (he S)
  have hlt : i.toNatClampNeg < n := Nat.not_le.mp fun q => hin (Or.inr q)
  have hU := upd_si S k j i.toNatClampNeg x
  obtain ⟨hj, rfl⟩ := ha
  refine W.zast F.1 F.2.1 h0 ((hw.1.K.2 t _ ht).1 n (fun j2 => .int (gi S k j j2))) (fun q => by cases q) (by show ¬ (i < 0 ∨ (arrV _ _ _).slots.size ≤ _); rw [arrV_size]; exact hin) rfl rfl hdg fun H1 e z oq => ?_
  refine kk _ H1 _ rfl ⟨hw.1.upd hk hk9 hj hU ?_ z oq (wf_same (pw_wf hw.1) rfl rfl), hw.2.put z oq (hw.1.2.1 k j hk hk9 hj).2⟩ hU.ext
  rw [he]
  show H1[ga S k j]? = some (vp_cell _ _)
  rw [e, hx, vp_cell_i, vp_cell_i, arrV_store]
  congr 2
  funext q
  by_cases hq : q = i.toNatClampNeg
  · subst hq
    simp [updV, gi_si]
  · simp [updV, gi_si, hq]
theorem pw_last (F : CX p m c cc nL s args own) (hw : WW G S s H locs) (k t : Nat) (hk : k < 39) (hk9 : k ≠ 9) (ha : AtO S k j a) {n : Nat} (he : ∀ S : St, pcS G S k j = .inl (G.2.2.1 k, (n, .inr (.inl (gj S k j))))) (ht : (tysM G.2.2.1)[t]? = some (G.2.2.1 k, .long)) {i : Int32} {x : Int64} (hin : vp_in i n) (hdg : decode cc pc = .ok (.lastore, 1))
    (kk : ∀ (S1 : St) (H1 : Heap) (locs1 : List Loc), S1 = sj S k j i.toNatClampNeg x → WW G S1 s H1 locs1 → Ext S S1 → W p l e R s m args below meth c H1 locs1 cells slots Q (F0 m (pc + 1) ls rest)) : W p l e R s m args below meth c H locs cells slots Q (F0 m pc ls (.long x :: .int i :: .ref a :: rest)) := by
  have h0 := pw_arr hw k hk hk9 ha (he S)
  have hlt : i.toNatClampNeg < n := Nat.not_le.mp fun q => hin (Or.inr q)
  have hU := upd_sj S k j i.toNatClampNeg x
  obtain ⟨hj, rfl⟩ := ha
  refine W.last F.1 F.2.1 h0 ((hw.1.K.2 t _ ht).1 n (fun j2 => .long (gj S k j j2))) (fun q => by cases q) (by show ¬ (i < 0 ∨ (arrV _ _ _).slots.size ≤ _); rw [arrV_size]; exact hin) rfl rfl hdg fun H1 e z oq => ?_
  refine kk _ H1 _ rfl ⟨hw.1.upd hk hk9 hj hU ?_ z oq (wf_same (pw_wf hw.1) rfl rfl), hw.2.put z oq (hw.1.2.1 k j hk hk9 hj).2⟩ hU.ext
  rw [he]
  show H1[ga S k j]? = some (vp_cell _ _)
  rw [e, vp_cell_l, vp_cell_l, arrV_store]
  congr 2
  funext q
  by_cases hq : q = i.toNatClampNeg
  · subst hq
    simp [updV, gj_sj]
  · simp [updV, gj_sj, hq]
theorem pw_aast (F : CX p m c cc nL s args own) (hw : WW G S s H locs) (k t k2 : Nat) {j2 a2 : Nat} (hk : k < 39) (hk9 : k ≠ 9) (hk2 : k2 < 39) (hk29 : k2 ≠ 9) (ha : AtO S k j a) (ha2 : AtO S k2 j2 a2) {n ci : Nat} {r : vw_C} {vs : List Value} (he : ∀ S : St, pcS G S k j = .inl (G.2.2.1 k, (n, .inr (.inr (.inr (.inr (fun e => Option.map (ga S k2) (gr S k j e)))))))) (he2 : pcS G S k2 j2 = .inr (ci, vs)) (hc : vwCl[ci]? = some r) (hkb : kB (gn S) k = gn S k2) (ht : (tysM G.2.2.1)[t]? = some (G.2.2.1 k, .object r.1)) {i : Int32} (hin : vp_in i n) (hdg : decode cc pc = .ok (.aastore, 1))
    (kk : ∀ (S1 : St) (H1 : Heap) (locs1 : List Loc), S1 = sr S k j i.toNatClampNeg (some j2) → WW G S1 s H1 locs1 → Ext S S1 → W p l e R s m args below meth c H1 locs1 cells slots Q (F0 m (pc + 1) ls rest)) : W p l e R s m args below meth c H locs cells slots Q (F0 m pc ls (.ref a2 :: .int i :: .ref a :: rest)) := by
  have h0 := pw_arr hw k hk hk9 ha (he S)
  have hlt : i.toNatClampNeg < n := Nat.not_le.mp fun q => hin (Or.inr q)
  have hn0 : ¬ i < 0 := fun q => hin (Or.inl q)
  have hU := upd_sr S k j i.toNatClampNeg (some j2)
  obtain ⟨r', hr', cellV, g1, g2, g3, -⟩ := (pw_one hw hk2 hk29 ha2) 0 (a2, .inr (ci, vs)) (by rw [he2]; rfl)
  have hcls := (hw.1.K.1 ci r hc).2
  obtain ⟨kA, comp, k1, k2', k3, -⟩ := (hw.1.K.2 t _ ht).2
  have hcomp : comp = G.1.1 ci := Option.some.inj (k3.symm.trans hcls.1)
  subst hcomp
  obtain ⟨kC, hkC, -⟩ := hcls.2
  obtain ⟨hj, rfl⟩ := ha
  refine W.aast F.1 F.2.1 h0 (fun q h => by cases h) (fun h => by cases h) k1 k2' rfl hkC ⟨hn0, by show _ < (arrV _ _ _).slots.size; rw [arrV_size]; exact hlt⟩ g1 (fun q h => by rw [g3] at h; cases h) (by rw [g2]; exact hkC) (by rw [g2]; exact va_assign hcls) rfl rfl hdg fun H1 e z oq => ?_
  refine kk _ H1 _ rfl ⟨hw.1.upd hk hk9 hj hU ?_ z oq (wf_sr (pw_wf hw.1) (fun q hq => by cases hq; rw [hkb]; exact ha2.1)), hw.2.put z oq (hw.1.2.1 k j hk hk9 hj).2⟩ hU.ext
  rw [he]
  show H1[ga S k j]? = some (vp_cell _ _)
  rw [e, vp_cell_q, vp_cell_q, arrV_store]
  congr 2
  funext q
  by_cases hq : q = i.toNatClampNeg
  · subst hq
    simp [updV, gr_sr, va_rf, ← ha2.2]
    rfl
  · simp [updV, gr_sr, hq]
    rfl
end ROWS
end
section
/-- the same contents, with the addresses of a larger world -/
theorem pcM_ad {cA : Nat → ClassId} {es : Nat → Nat} {ad ad2 : Nat → Nat → Nat} {n : Nat → Nat} (k : Nat) (hk : k < 39) (h1 : ∀ k j, j < n k → ad2 k j = ad k j) (h2 : ∀ k, pwFix k → 0 < n k) {I : Nat → Int32} {J : Nat → Int64} {R : Nat → Option Nat} (h3 : ∀ f i, R f = some i → i < kB n k) : pcM cA es ad2 k I J R = pcM cA es ad k I J R := by
  have hc : ∀ k, pwFix k → ad2 k 0 = ad k 0 := fun k h => h1 k 0 (h2 k h)
  have hm : ∀ (k2 f : Nat), kB n k = n k2 → Option.map (ad2 k2) (R f) = Option.map (ad k2) (R f) := fun k2 f hb => by
    cases hr : R f with
    | none => rfl
    | some i => simp only [Option.map_some]; rw [h1 k2 i (by rw [← hb]; exact h3 f i hr)]
  match k, hk, hm with
  | 0, _, _ => exact rfl
  | 1, _, _ => exact rfl
  | 2, _, hm => simp only [pcM, hc 13 (by unfold pwFix; decide)]
  | 3, _, _ => exact rfl
  | 4, _, hm => simp only [pcM, hm 5 0 rfl]
  | 5, _, _ => exact rfl
  | 6, _, hm => simp only [pcM, hc 14 (by unfold pwFix; decide), hc 15 (by unfold pwFix; decide), hc 16 (by unfold pwFix; decide)]
  | 7, _, hm => simp only [pcM, hc 10 (by unfold pwFix; decide), hc 11 (by unfold pwFix; decide), hc 12 (by unfold pwFix; decide), hc 4 (by unfold pwFix; decide), hc 2 (by unfold pwFix; decide), hc 6 (by unfold pwFix; decide)]
  | 8, _, hm => simp only [pcM, hc 17 (by unfold pwFix; decide), hc 18 (by unfold pwFix; decide), hc 19 (by unfold pwFix; decide), hc 20 (by unfold pwFix; decide), hc 21 (by unfold pwFix; decide), hc 22 (by unfold pwFix; decide), hc 23 (by unfold pwFix; decide), hc 24 (by unfold pwFix; decide), hc 25 (by unfold pwFix; decide), hc 26 (by unfold pwFix; decide), hc 27 (by unfold pwFix; decide), hc 28 (by unfold pwFix; decide), hc 29 (by unfold pwFix; decide), hc 30 (by unfold pwFix; decide), hc 31 (by unfold pwFix; decide), hc 32 (by unfold pwFix; decide), hc 33 (by unfold pwFix; decide), hc 34 (by unfold pwFix; decide), hc 35 (by unfold pwFix; decide), hc 36 (by unfold pwFix; decide), hc 37 (by unfold pwFix; decide), hc 38 (by unfold pwFix; decide)]
  | 9, _, _ => exact rfl
  | 10, _, hm => simp only [pcM]; rw [show (fun e => Option.map (ad2 5) (R e)) = fun e => Option.map (ad 5) (R e) from funext fun e => hm 5 e rfl]
  | 11, _, hm => simp only [pcM]; rw [show (fun e => Option.map (ad2 1) (R e)) = fun e => Option.map (ad 1) (R e) from funext fun e => hm 1 e rfl]
  | 12, _, hm => simp only [pcM]; rw [show (fun e => Option.map (ad2 0) (R e)) = fun e => Option.map (ad 0) (R e) from funext fun e => hm 0 e rfl]
  | 13, _, hm => simp only [pcM]; rw [show (fun e => Option.map (ad2 3) (R e)) = fun e => Option.map (ad 3) (R e) from funext fun e => hm 3 e rfl]
  | 14, _, hm => simp only [pcM]; rw [show (fun e => Option.map (ad2 0) (R e)) = fun e => Option.map (ad 0) (R e) from funext fun e => hm 0 e rfl]
  | 15, _, _ => exact rfl
  | 16, _, _ => exact rfl
  | 17, _, _ => exact rfl
  | 18, _, _ => exact rfl
  | 19, _, _ => exact rfl
  | 20, _, _ => exact rfl
  | 21, _, _ => exact rfl
  | 22, _, _ => exact rfl
  | 23, _, _ => exact rfl
  | 24, _, _ => exact rfl
  | 25, _, _ => exact rfl
  | 26, _, _ => exact rfl
  | 27, _, _ => exact rfl
  | 28, _, _ => exact rfl
  | 29, _, _ => exact rfl
  | 30, _, _ => exact rfl
  | 31, _, _ => exact rfl
  | 32, _, _ => exact rfl
  | 33, _, _ => exact rfl
  | 34, _, _ => exact rfl
  | 35, _, _ => exact rfl
  | 36, _, _ => exact rfl
  | 37, _, _ => exact rfl
  | 38, _, _ => exact rfl
  | k + 39, h, _ => exact absurd h (by omega)
section ROWS2
variable {p : Program} {l : Launch} {e : Env} {R : Room} {s : State} {m : MethodId} {args : Array Value} {below : List Frame} {meth : Method} {c : Code} {H : Heap} {locs : List Loc} {cells slots : Nat} {Q : State → Prop}
variable {cc : ByteArray} {pc nL : Nat} {ls : Array Slot} {rest : List Value} {G : GT} {S : St} {own : String} {a j : Nat}
theorem pw_new (F : CX p m c cc nL s args own) (hw : WW G S s H locs) (k : Nat) (hk : k = 0 ∨ k = 1 ∨ k = 3 ∨ k = 5) {C : String} {T : u_T} {N ci index : Nat} (hin : ∀ w ∈ u_ws C T N, w ∈ wT) (ty : Nat → FieldType) (hty : ∀ k, k < N → parseFieldDescriptor (T k).2.2.1 = some (ty k)) (hcl : Cond.classLink own index C ∈ wT) (hinst : Cond.instantiable C N ∈ wT) (hini : Cond.initialized C ∈ wT) (hc : vwCl[ci]? = some (C, T, N)) {fs : List Value} (he : ∀ (S : St) (j : Nat), gi S k j = (fun _ => 0) → gj S k j = (fun _ => 0) → gr S k j = (fun _ => none) → pcS G S k j = .inr (ci, fs)) (hfs : ∀ j, j < N → defaultValue (ty j) = vp_V fs j)
    (hcells : cells + 1 ≤ R.cells) (hslots : slots + N ≤ R.slots) (hdg : decode cc pc = .ok (.new index, 3))
    (kk : ∀ (S1 : St) (a1 : Nat) (H1 : Heap), S1 = sn S k → AtO S1 k (gn S k) a1 → WW G S1 s H1 locs → Ext S S1 → W p l e R s m args below meth c H1 locs (cells + 1) (slots + N) Q (F0 m (pc + 3) ls (.ref a1 :: rest))) : W p l e R s m args below meth c H locs cells slots Q (F0 m pc ls rest) := by
  obtain ⟨hx, hb, hml, hown, hts⟩ := F
  obtain ⟨hP, hS⟩ := hw
  have hKn := hP.K.1 ci _ hc
  have hk39 : k < 39 := by omega
  have hk9 : k ≠ 9 := by omega
  have hk99 : k ≠ 99 := by omega
  have hnf : ¬ pwFix k := fun h => by unfold pwFix at h; omega
  have gnk : ∀ k', k' < 39 → k' ≠ k → gn (sn S k) k' = gn S k' := fun k' h1 h2 => by rw [gn_sn, if_neg (by omega)]
  have gnself : gn (sn S k) k = gn S k + 1 := by rw [gn_sn, if_pos (Or.inl rfl)]
  have gn99 : gn (sn S k) 99 = gn S 99 + 1 := by rw [gn_sn, if_pos (Or.inr rfl)]
  have gnle : ∀ k', gn S k' ≤ gn (sn S k) k' := fun k' => by rw [gn_sn]; split <;> omega
  have gaold : ∀ k' j', j' < gn S k' → ga (sn S k) k' j' = ga S k' j' := fun k' j' h => by rw [ga_sn, if_neg (by rintro ⟨rfl, rfl⟩; omega)]
  have ganew : ga (sn S k) k (gn S k) = H.size := by rw [ga_sn, if_pos ⟨rfl, rfl⟩]; exact hP.1.1.symm
  have hX : Ext S (sn S k) := fun k' j' h => ⟨Nat.lt_of_lt_of_le h (gnle k'), gaold k' j' h⟩
  refine W.newcK hx hb hown (hts _ hcl) (hts _ hinst) (hts _ hini) rfl hdg hcells hslots hKn.2.1 rfl fun H1 kC hkC e1 z1 o1 => ?_
  have hlt : ∀ k' j', k' < 39 → k' ≠ 9 → j' < gn S k' → ga S k' j' < H.size := fun k' j' a1 a2 a3 => (hP.2.1 k' j' a1 a2 a3).1.lt
  have old : ∀ k' j', j' < gn (sn S k) k' → k' < 39 → ¬ (k' = k ∧ j' = gn S k) → j' < gn S k' := fun k' j' h1 h2 h3 => by
    by_cases e2 : k' = k
    · subst e2
      rw [gnself] at h1
      have : j' ≠ gn S k' := fun q => h3 ⟨rfl, q⟩
      omega
    · rw [gnk k' h2 e2] at h1
      exact h1
  refine kk (sn S k) H.size H1 rfl ⟨by rw [gnself]; omega, ganew⟩ ⟨⟨⟨by rw [z1, gn99, hP.1.1], by rw [z1]; exact Nat.le_trans hP.1.2 (Nat.le_succ _)⟩, fun k' j' q1 q2 q3 => ?_, fun k1 j1 k2 j2 q1 q2 q3 q4 q5 q6 q7 => ?_, fun k' j' f i q => ?_, fun k' hk' => Nat.lt_of_lt_of_le (hP.2.2.2.2.1 k' hk') (gnle k'), hP.2.2.2.2.2.1, hP.K, fun i hi => (hP.2.2.2.2.2.2.2 i hi).kept fun q hq _ => o1 q hq⟩, ⟨Nat.le_trans hS.1 (by omega), fun x h1 h2 => (o1 x (Nat.lt_of_lt_of_le h1 hS.1)).trans (hS.2.1 x h1 h2), hS.2.2⟩⟩ hX
  · by_cases e2 : k' = k ∧ j' = gn S k
    · obtain ⟨rfl, rfl⟩ := e2
      rw [ganew]
      refine ⟨?_, hP.1.2⟩
      rw [he (sn S k') (gn S k') (by funext f; rw [gi_sn, if_pos ⟨rfl, rfl⟩]) (by funext f; rw [gj_sn, if_pos ⟨rfl, rfl⟩]) (by funext f; rw [gr_sn, if_pos ⟨rfl, rfl⟩])]
      exact ⟨_, hc, (u_born ty hts hin hKn hkC e1 hty).to hfs⟩
    · have h4 := old k' j' q3 q1 e2
      obtain ⟨g1, g2⟩ := hP.2.1 k' j' q1 q2 h4
      rw [gaold k' j' h4]
      refine ⟨?_, g2⟩
      have e3 : pcS G (sn S k) k' j' = pcS G S k' j' := by
        unfold pcS
        rw [show gi (sn S k) k' j' = gi S k' j' by funext f; rw [gi_sn, if_neg e2], show gj (sn S k) k' j' = gj S k' j' by funext f; rw [gj_sn, if_neg e2], show gr (sn S k) k' j' = gr S k' j' by funext f; rw [gr_sn, if_neg e2]]
        exact pcM_ad (n := gn S) k' q1 gaold hP.2.2.2.2.1 (fun f i => hP.2.2.2.1 k' j' f i)
      rw [e3]
      exact g1.kept (o1 _ (hlt k' j' q1 q2 h4))
  · by_cases e2 : k1 = k ∧ j1 = gn S k <;> by_cases e3 : k2 = k ∧ j2 = gn S k
    · exact ⟨e2.1.trans e3.1.symm, e2.2.trans e3.2.symm⟩
    · obtain ⟨rfl, rfl⟩ := e2
      have h4 := old k2 j2 q6 q2 e3
      rw [ganew, gaold k2 j2 h4] at q7
      have := hlt k2 j2 q2 q4 h4
      omega
    · obtain ⟨rfl, rfl⟩ := e3
      have h4 := old k1 j1 q5 q1 e2
      rw [ganew, gaold k1 j1 h4] at q7
      have := hlt k1 j1 q1 q3 h4
      omega
    · have h4 := old k1 j1 q5 q1 e2
      have h5 := old k2 j2 q6 q2 e3
      rw [gaold k1 j1 h4, gaold k2 j2 h5] at q7
      exact hP.2.2.1 k1 j1 k2 j2 q1 q2 q3 q4 h4 h5 q7
  · rw [gr_sn] at q
    split at q
    · cases q
    · exact Nat.lt_of_lt_of_le (hP.2.2.2.1 k' j' f i q) (kB_mono gnle k')
theorem pw_gets (F : CX p m c cc nL s args own) (hw : WW G S s H locs) (i : Nat) (hi : i < 6) {n : String} (hn : stN i = n) {index : Nat} (hl : Cond.fieldLink own index "ClockAuctions$State" n "LClockAuctions$State;" ∈ wT) (hdg : decode cc pc = .ok (.getstatic index, 3))
    (kk : W p l e R s m args below meth c H locs cells slots Q (F0 m (pc + 3) ls (va_rf (Option.map G.2.2.2 (some i)) :: rest))) : W p l e R s m args below meth c H locs cells slots Q (F0 m pc ls rest) := by
  subst hn
  obtain ⟨cf, kf, fi, f, a, cell, h1, h2, h3, h4, h5, h6, h7, h8⟩ := hw.1.2.2.2.2.2.2.2 i hi
  exact W.gets F.1 F.2.1 F.2.2.2.1 (F.2.2.2.2 _ hl) h1 h2 h3 h4 h5 (fun e => by rw [e] at h6; cases h6) h7 rfl hdg kk
theorem es_inj {G : GT} {e : Option Nat} {i : Nat} (h6 : ∀ i j, i < 6 → j < 6 → G.2.2.2 i = G.2.2.2 j → i = j) (hi : i < 6) (he : ∀ i, e = some i → i < 6) : (Option.map G.2.2.2 e = Option.map G.2.2.2 (some i)) ↔ e = some i := by
  cases e with
  | none => simp
  | some k =>
    simp only [Option.map_some, Option.some.injEq]
    exact ⟨h6 k i (he k rfl) hi, fun h => by rw [h]⟩
theorem pw_acmp_eq (F : CX p m c cc nL s args own) (hw : WW G S s H locs) {e2 : Option Nat} {i : Nat} (hi : i < 6) (he : ∀ i, e2 = some i → i < 6) {off : Int} {tgt : Nat} (hdg : decode cc pc = .ok (.if_acmp .eq off, 3)) (ht : (pc : Int) + off = (tgt : Int))
    (kt : e2 = some i → W p l e R s m args below meth c H locs cells slots Q (F0 m tgt ls rest)) (kf : ¬ e2 = some i → W p l e R s m args below meth c H locs cells slots Q (F0 m (pc + 3) ls rest)) : W p l e R s m args below meth c H locs cells slots Q (F0 m pc ls (va_rf (Option.map G.2.2.2 (some i)) :: va_rf (Option.map G.2.2.2 e2) :: rest)) := by
  have h := es_inj (G := G) hw.1.2.2.2.2.2.1 hi he
  exact lv_acmp_eq F.1 F.2.1 hdg ht (fun q => kt (h.mp q)) (fun q => kf fun z => q (h.mpr z))
theorem pw_acmp_ne (F : CX p m c cc nL s args own) (hw : WW G S s H locs) {e2 : Option Nat} {i : Nat} (hi : i < 6) (he : ∀ i, e2 = some i → i < 6) {off : Int} {tgt : Nat} (hdg : decode cc pc = .ok (.if_acmp .ne off, 3)) (ht : (pc : Int) + off = (tgt : Int))
    (kt : ¬ e2 = some i → W p l e R s m args below meth c H locs cells slots Q (F0 m tgt ls rest)) (kf : e2 = some i → W p l e R s m args below meth c H locs cells slots Q (F0 m (pc + 3) ls rest)) : W p l e R s m args below meth c H locs cells slots Q (F0 m pc ls (va_rf (Option.map G.2.2.2 (some i)) :: va_rf (Option.map G.2.2.2 e2) :: rest)) := by
  have h := es_inj (G := G) hw.1.2.2.2.2.2.1 hi he
  exact lv_acmp_ne F.1 F.2.1 hdg ht (fun q => kt fun z => q (h.mpr z)) (fun q => kf (h.mp q))
theorem ww_es (hw : WW G S s H locs) (j : Nat) : ∀ i, gr S 5 j 4 = some i → i < 6 := fun i h => pw_wf hw.1 5 j 4 i h
/-! a long compare and its branch -/
theorem lc_eq (F : CX p m c cc nL s args own) {x y : Int64} {off : Int} {tgt : Nat} (h1 : decode cc pc = .ok (.lcmp, 1)) (h2 : decode cc (pc + 1) = .ok (.ifCond .eq off, 3)) (ht : ((pc + 1 : Nat) : Int) + off = (tgt : Int))
    (kt : x = y → W p l e R s m args below meth c H locs cells slots Q (F0 m tgt ls rest)) (kf : ¬ x = y → W p l e R s m args below meth c H locs cells slots Q (F0 m (pc + 1 + 3) ls rest)) : W p l e R s m args below meth c H locs cells slots Q (F0 m pc ls (.long y :: .long x :: rest)) :=
  W.lcmp F.1 F.2.1 h1 (lv_if_eq F.1 F.2.1 h2 ht (fun q => kt ((lg_cmp_eq x y).mp q)) (fun q => kf fun z => q ((lg_cmp_eq x y).mpr z)))
theorem lc_ne (F : CX p m c cc nL s args own) {x y : Int64} {off : Int} {tgt : Nat} (h1 : decode cc pc = .ok (.lcmp, 1)) (h2 : decode cc (pc + 1) = .ok (.ifCond .ne off, 3)) (ht : ((pc + 1 : Nat) : Int) + off = (tgt : Int))
    (kt : ¬ x = y → W p l e R s m args below meth c H locs cells slots Q (F0 m tgt ls rest)) (kf : x = y → W p l e R s m args below meth c H locs cells slots Q (F0 m (pc + 1 + 3) ls rest)) : W p l e R s m args below meth c H locs cells slots Q (F0 m pc ls (.long y :: .long x :: rest)) :=
  W.lcmp F.1 F.2.1 h1 (lv_if_ne F.1 F.2.1 h2 ht (fun q => kt fun z => q ((lg_cmp_eq x y).mpr z)) (fun q => kf ((lg_cmp_eq x y).mp q)))
theorem lc_lt (F : CX p m c cc nL s args own) {x y : Int64} {off : Int} {tgt : Nat} (h1 : decode cc pc = .ok (.lcmp, 1)) (h2 : decode cc (pc + 1) = .ok (.ifCond .lt off, 3)) (ht : ((pc + 1 : Nat) : Int) + off = (tgt : Int))
    (kt : x < y → W p l e R s m args below meth c H locs cells slots Q (F0 m tgt ls rest)) (kf : ¬ x < y → W p l e R s m args below meth c H locs cells slots Q (F0 m (pc + 1 + 3) ls rest)) : W p l e R s m args below meth c H locs cells slots Q (F0 m pc ls (.long y :: .long x :: rest)) :=
  W.lcmp F.1 F.2.1 h1 (lv_if_lt F.1 F.2.1 h2 ht (fun q => kt ((lg_cmp_lt x y).mp q)) (fun q => kf fun z => q ((lg_cmp_lt x y).mpr z)))
theorem lc_ge (F : CX p m c cc nL s args own) {x y : Int64} {off : Int} {tgt : Nat} (h1 : decode cc pc = .ok (.lcmp, 1)) (h2 : decode cc (pc + 1) = .ok (.ifCond .ge off, 3)) (ht : ((pc + 1 : Nat) : Int) + off = (tgt : Int))
    (kt : y ≤ x → W p l e R s m args below meth c H locs cells slots Q (F0 m tgt ls rest)) (kf : ¬ y ≤ x → W p l e R s m args below meth c H locs cells slots Q (F0 m (pc + 1 + 3) ls rest)) : W p l e R s m args below meth c H locs cells slots Q (F0 m pc ls (.long y :: .long x :: rest)) :=
  W.lcmp F.1 F.2.1 h1 (lv_if_ge F.1 F.2.1 h2 ht (fun q => kt ((lg_cmp_ge x y).mp q)) (fun q => kf fun z => q ((lg_cmp_ge x y).mpr z)))
theorem lc_gt (F : CX p m c cc nL s args own) {x y : Int64} {off : Int} {tgt : Nat} (h1 : decode cc pc = .ok (.lcmp, 1)) (h2 : decode cc (pc + 1) = .ok (.ifCond .gt off, 3)) (ht : ((pc + 1 : Nat) : Int) + off = (tgt : Int))
    (kt : y < x → W p l e R s m args below meth c H locs cells slots Q (F0 m tgt ls rest)) (kf : ¬ y < x → W p l e R s m args below meth c H locs cells slots Q (F0 m (pc + 1 + 3) ls rest)) : W p l e R s m args below meth c H locs cells slots Q (F0 m pc ls (.long y :: .long x :: rest)) :=
  W.lcmp F.1 F.2.1 h1 (lv_if_gt F.1 F.2.1 h2 ht (fun q => kt ((lg_cmp_gt x y).mp q)) (fun q => kf fun z => q ((lg_cmp_gt x y).mpr z)))
theorem lc_le (F : CX p m c cc nL s args own) {x y : Int64} {off : Int} {tgt : Nat} (h1 : decode cc pc = .ok (.lcmp, 1)) (h2 : decode cc (pc + 1) = .ok (.ifCond .le off, 3)) (ht : ((pc + 1 : Nat) : Int) + off = (tgt : Int))
    (kt : x ≤ y → W p l e R s m args below meth c H locs cells slots Q (F0 m tgt ls rest)) (kf : ¬ x ≤ y → W p l e R s m args below meth c H locs cells slots Q (F0 m (pc + 1 + 3) ls rest)) : W p l e R s m args below meth c H locs cells slots Q (F0 m pc ls (.long y :: .long x :: rest)) :=
  W.lcmp F.1 F.2.1 h1 (lv_if_le F.1 F.2.1 h2 ht (fun q => kt ((lg_cmp_le x y).mp q)) (fun q => kf fun z => q ((lg_cmp_le x y).mpr z)))
end ROWS2
/-! ===== contracts ===== -/
abbrev QB (G : GT) (S0 : St) : St → State → Prop := fun u t => PW G u t t.heap ∧ Ext S0 u
abbrev QA (G : GT) : Nat → Prop := fun q => G.2.1 ≤ q
def QI (G : GT) (S0 : St) (post : Int32 → St → Prop) : Array Value → State → Outcome → State → Prop := va_Qi (S := St) post (QB G S0) (QA G)
def QJ (G : GT) (S0 : St) (post : Int64 → St → Prop) : Array Value → State → Outcome → State → Prop := va_Ql (S := St) post (QB G S0) (QA G)
def QV (G : GT) (S0 : St) (post : St → Prop) : Array Value → State → Outcome → State → Prop := va_Qv (S := St) post (QB G S0) (QA G)
def QR (k : Nat) (G : GT) (S0 : St) (post : Option Nat → St → Prop) : Array Value → State → Outcome → State → Prop := va_Qq (S := Option Nat × St) (fun ra u => post u.1 u.2 ∧ ra = Option.map (ga u.2 k) u.1 ∧ ∀ i, u.1 = some i → i < gn u.2 k) (fun u => QB G S0 u.2) (QA G)
abbrev PC (G : GT) (S : St) (av : List Value) : Array Value → State → Prop := va_Pc av (fun U => PW G S U U.heap)
theorem mt_start {l : Launch} {y : MethodName} {cc : ByteArray} {n : Nat} {ret : Option FieldType} {rm : Room} {G : GT} {S : St} {av : List Value} {Qc : Array Value → State → Outcome → State → Prop} {mc ms : Nat} (own : String) (hy : plainName y.cls = true) (ho : y.cls = own) (hlen : (lg_sl av).length ≤ n)
    (body : ∀ (p : Program) (e : Env) (s : State) (m : MethodId) (args : Array Value) (below : List Frame) (meth : Method) (c : Code) (ls : Array Slot), CX p m c cc n s args own → meth.sig.returnType = ret → meth.locks = false → meth.name = y.name → WW G S s s.heap [] → lv_has ls n (lv_args 0 av) → W p l e rm s m args below meth c s.heap [] 0 0 (MQ below Qc args s mc ms (QA G)) (F0 m 0 ls [])) : Met l y (wM y cc n ret) rm (PC G S av) Qc mc ms (QA G) := by
  refine Met.ofW (cc := cc) (maxL := n) (ret := ret) hy rfl ?_
  intro p e s m args below meth c s₁ B hml hv
  obtain ⟨rfl, hP⟩ := hv
  have hl := lv_entry av (n := n) hlen
  rw [lg_entry_eq]
  have hts := atoms_spec (ws := wM y cc n ret) B.pre
  exact body p e s m _ below meth c _ ⟨B.exec, B.bytes, hml, by rw [← ho]; exact findClass_of_methodNamed B.named, fun w hw => hts w (List.mem_cons_of_mem _ hw)⟩ B.returns B.notSynchronized (name_of_methodNamed B.named B.method).1 ⟨hP, va_S.rf⟩ hl
section ENDS
variable {p : Program} {l : Launch} {e : Env} {R : Room} {s : State} {m : MethodId} {args : Array Value} {below : List Frame} {meth : Method} {c : Code} {H : Heap} {locs : List Loc} {cells slots mc ms : Nat} {Q : State → Prop}
variable {cc : ByteArray} {pc nL : Nat} {ls : Array Slot} {rest : List Value} {G : GT} {S S0 : St} {own : String} {a j : Nat}
theorem rt_i {post : Int32 → St → Prop} {v : Int32} (F : CX p m c cc nL s args own) (hr : meth.sig.returnType = some .int) (hlk : meth.locks = false) (hw : WW G S s H locs) (hX : Ext S0 S) (hp : post v S) (hc : cells ≤ mc) (hs : slots ≤ ms) (hdg : decode cc pc = .ok (.ireturn, 1)) : W p l e R s m args below meth c H locs cells slots (MQ below (QI G S0 post) args s mc ms (QA G)) (F0 m pc ls [.int v]) :=
  W.widen hc hs (W.iret (v := v) F.1 F.2.1 hr (fun t ht hW => ⟨⟨v, S, rfl, hp, by rw [ht]; exact hw.1.moved hW.alike, hX⟩, hw.2.F ht⟩) hw.2.2.2 hdg hlk)
theorem rt_z {post : Int32 → St → Prop} {v : Int32} (F : CX p m c cc nL s args own) (hr : meth.sig.returnType = some .boolean) (hlk : meth.locks = false) (hw : WW G S s H locs) (hX : Ext S0 S) (hp : post v S) (hn : narrow .boolean (.int v) = .int v) (hc : cells ≤ mc) (hs : slots ≤ ms) (hdg : decode cc pc = .ok (.ireturn, 1)) : W p l e R s m args below meth c H locs cells slots (MQ below (QI G S0 post) args s mc ms (QA G)) (F0 m pc ls [.int v]) :=
  W.widen hc hs (W.zret (v := v) (ty := .boolean) F.1 F.2.1 hr hn (fun t ht hW => ⟨⟨v, S, rfl, hp, by rw [ht]; exact hw.1.moved hW.alike, hX⟩, hw.2.F ht⟩) hw.2.2.2 hdg hlk)
theorem rt_l {post : Int64 → St → Prop} {v : Int64} (F : CX p m c cc nL s args own) (hr : meth.sig.returnType = some .long) (hlk : meth.locks = false) (hw : WW G S s H locs) (hX : Ext S0 S) (hp : post v S) (hc : cells ≤ mc) (hs : slots ≤ ms) (hdg : decode cc pc = .ok (.lreturn, 1)) : W p l e R s m args below meth c H locs cells slots (MQ below (QJ G S0 post) args s mc ms (QA G)) (F0 m pc ls [.long v]) :=
  W.widen hc hs (W.lret (v := v) F.1 F.2.1 hr (fun t ht hW => ⟨⟨v, S, rfl, hp, by rw [ht]; exact hw.1.moved hW.alike, hX⟩, hw.2.F ht⟩) hw.2.2.2 hdg hlk)
theorem rt_v {post : St → Prop} (F : CX p m c cc nL s args own) (hr : meth.sig.returnType = none) (hlk : meth.locks = false) (hw : WW G S s H locs) (hX : Ext S0 S) (hp : post S) (hc : cells ≤ mc) (hs : slots ≤ ms) (hdg : decode cc pc = .ok (.return_, 1)) : W p l e R s m args below meth c H locs cells slots (MQ below (QV G S0 post) args s mc ms (QA G)) (F0 m pc ls []) :=
  W.widen hc hs (W.vret F.1 F.2.1 hr (fun t ht hW => ⟨⟨S, rfl, hp, by rw [ht]; exact hw.1.moved hW.alike, hX⟩, hw.2.F ht⟩) hw.2.2.2 hdg hlk)
theorem rt_n {k : Nat} {C : String} {post : Option Nat → St → Prop} (F : CX p m c cc nL s args own) (hr : meth.sig.returnType = some (.object C)) (hlk : meth.locks = false) (hw : WW G S s H locs) (hX : Ext S0 S) (hp : post none S) (hc : cells ≤ mc) (hs : slots ≤ ms) (hdg : decode cc pc = .ok (.areturn, 1)) : W p l e R s m args below meth c H locs cells slots (MQ below (QR k G S0 post) args s mc ms (QA G)) (F0 m pc ls [.null]) :=
  W.widen hc hs (W.aret (v := .null) F.1 F.2.1 hr (Or.inl ⟨C, rfl⟩) (Or.inl rfl) (fun t ht hW => ⟨⟨none, (none, S), rfl, ⟨hp, rfl, fun i h => by cases h⟩, by rw [ht]; exact hw.1.moved hW.alike, hX⟩, hw.2.F ht⟩) hw.2.2.2 hdg hlk)
theorem rt_a {k : Nat} {C : String} {post : Option Nat → St → Prop} (F : CX p m c cc nL s args own) (hr : meth.sig.returnType = some (.object C)) (hlk : meth.locks = false) (hw : WW G S s H locs) (hX : Ext S0 S) (ha : AtO S k j a) (hp : post (some j) S) (hc : cells ≤ mc) (hs : slots ≤ ms) (hdg : decode cc pc = .ok (.areturn, 1)) : W p l e R s m args below meth c H locs cells slots (MQ below (QR k G S0 post) args s mc ms (QA G)) (F0 m pc ls [.ref a]) :=
  W.widen hc hs (W.aret (v := .ref a) F.1 F.2.1 hr (Or.inl ⟨C, rfl⟩) (Or.inr ⟨a, rfl⟩) (fun t ht hW => ⟨⟨some a, (some j, S), rfl, ⟨hp, by rw [← ha.2]; rfl, fun i h => by cases h; exact ha.1⟩, by rw [ht]; exact hw.1.moved hW.alike, hX⟩, hw.2.F ht⟩) hw.2.2.2 hdg hlk)
/-! calls -/
theorem cl_i {post : Int32 → St → Prop} {ar : Array Value} {st0 : List Value} (hr : va_Run p l e R s m args below meth c H locs cells slots mc ms (F0 m pc ls st0) rest (QI G S post ar) (QA G)) (hw : WW G S s H locs)
    (kk : ∀ (r : Int32) (S1 : St) (H1 : Heap) (locs1 : List Loc), post r S1 → WW G S1 s H1 locs1 → Ext S S1 → W p l e R s m args below meth c H1 locs1 (cells + mc) (slots + ms) Q (F0 m (pc + 3) ls (.int r :: rest))) : W p l e R s m args below meth c H locs cells slots Q (F0 m pc ls st0) :=
  va_calli hr hw.2 (fun _ _ h => h) (fun _ h => h) (fun r u t H1 locs1 ht hvm hp hB _ _ hS => kk r u H1 locs1 hp ⟨by rw [← ht]; exact hB.1.moved hvm.symm, hS⟩ hB.2)
theorem cl_l {post : Int64 → St → Prop} {ar : Array Value} {st0 : List Value} (hr : va_Run p l e R s m args below meth c H locs cells slots mc ms (F0 m pc ls st0) rest (QJ G S post ar) (QA G)) (hw : WW G S s H locs)
    (kk : ∀ (r : Int64) (S1 : St) (H1 : Heap) (locs1 : List Loc), post r S1 → WW G S1 s H1 locs1 → Ext S S1 → W p l e R s m args below meth c H1 locs1 (cells + mc) (slots + ms) Q (F0 m (pc + 3) ls (.long r :: rest))) : W p l e R s m args below meth c H locs cells slots Q (F0 m pc ls st0) :=
  va_calll hr hw.2 (fun _ _ h => h) (fun _ h => h) (fun r u t H1 locs1 ht hvm hp hB _ _ hS => kk r u H1 locs1 hp ⟨by rw [← ht]; exact hB.1.moved hvm.symm, hS⟩ hB.2)
theorem cl_v {post : St → Prop} {ar : Array Value} {st0 : List Value} (hr : va_Run p l e R s m args below meth c H locs cells slots mc ms (F0 m pc ls st0) rest (QV G S post ar) (QA G)) (hw : WW G S s H locs)
    (kk : ∀ (S1 : St) (H1 : Heap) (locs1 : List Loc), post S1 → WW G S1 s H1 locs1 → Ext S S1 → W p l e R s m args below meth c H1 locs1 (cells + mc) (slots + ms) Q (F0 m (pc + 3) ls rest)) : W p l e R s m args below meth c H locs cells slots Q (F0 m pc ls st0) :=
  va_callv hr hw.2 (fun _ _ h => h) (fun _ h => h) (fun u t H1 locs1 ht hvm hp hB _ _ hS => kk u H1 locs1 hp ⟨by rw [← ht]; exact hB.1.moved hvm.symm, hS⟩ hB.2)
theorem cl_r {k : Nat} {post : Option Nat → St → Prop} {ar : Array Value} {st0 : List Value} (hr : va_Run p l e R s m args below meth c H locs cells slots mc ms (F0 m pc ls st0) rest (QR k G S post ar) (QA G)) (hw : WW G S s H locs)
    (kn : ∀ (S1 : St) (H1 : Heap) (locs1 : List Loc), post none S1 → WW G S1 s H1 locs1 → Ext S S1 → W p l e R s m args below meth c H1 locs1 (cells + mc) (slots + ms) Q (F0 m (pc + 3) ls (.null :: rest)))
    (ks : ∀ (j2 a2 : Nat) (S1 : St) (H1 : Heap) (locs1 : List Loc), post (some j2) S1 → AtO S1 k j2 a2 → WW G S1 s H1 locs1 → Ext S S1 → W p l e R s m args below meth c H1 locs1 (cells + mc) (slots + ms) Q (F0 m (pc + 3) ls (.ref a2 :: rest))) : W p l e R s m args below meth c H locs cells slots Q (F0 m pc ls st0) :=
  va_callq hr hw.2 (fun _ _ h => h) (fun _ h => h) (fun r u t H1 locs1 ht hvm hp hB _ _ hS => by
    obtain ⟨r2, S1⟩ := u
    obtain ⟨hp, rfl, hv⟩ := hp
    have hw1 : WW G S1 s H1 locs1 := ⟨by rw [← ht]; exact hB.1.moved hvm.symm, hS⟩
    cases r2 with
    | none => exact kn S1 H1 locs1 hp hw1 hB.2
    | some j2 => exact ks j2 _ S1 H1 locs1 hp ⟨hv j2 rfl, rfl⟩ hw1 hB.2)
theorem fb_PC {av : List Value} : FrameBlind (PC G S av) := fun a U g mk q => ⟨q.1, q.2.moved (U := U) (U' := U.calling g mk a) (Vm.Alike.refl U.vm)⟩
theorem rn_V {y : MethodName} {bytes : ByteArray} {maxL n index : Nat} {ret : Option FieldType} {rm : Room} {Qc : Array Value → State → Outcome → State → Prop} {b : Nat} {As st0 : List Value} {lv : List (Nat × Value)} (F : CX p m c cc nL s args own) (hw : WW G S s H locs) (hl : lv_has ls nL lv) (hM : Met l y (wM y bytes maxL ret) rm (PC G S (.ref b :: As)) Qc mc ms (QA G)) (k : Nat) (hk : k < 39) (hk9 : k ≠ 9) (ha : AtO S k j b) {ci : Nat} {q : vw_C} {fs : List Value} (he : pcS G S k j = .inr (ci, fs)) (hc : vwCl[ci]? = some q) (h1 : Cond.methodLink own index y ∈ wT) (h2 : Cond.instanceMethod y ∈ wT) (h3 : Cond.selects q.1 y y ∈ wT) (h4 : Cond.initialized q.1 ∈ wT) (h5 : Cond.code y bytes maxL ret ∈ wT)
    (hrc : rm.cells = mc) (hrs : rm.slots = ms) (hd : y.cls = q.1 ∧ y.cls ≠ "java/lang/invoke/MethodHandle" ∧ y.cls ≠ "java/lang/invoke/VarHandle" ∧ (parseMethodDescriptor y.desc).map (fun d => d.parameters.length) = some n) (hn : As.length = n) (hR : rm.frames + 1 ≤ R.frames ∧ 8 + (maxL + 11) + rm.locals ≤ R.locals) (hst : st0 = As.reverse ++ .ref b :: rest) (hrest : (rest.map fun v => v.category).sum ≤ 8) (hdg : decode cc pc = .ok (.invokevirtual index, 3)) (hf : cells + mc ≤ R.cells ∧ slots + ms ≤ R.slots) :
    va_Run p l e R s m args below meth c H locs cells slots mc ms (F0 m pc ls st0) rest (Qc (Value.ref b :: As).toArray) (QA G) :=
  va_runV (C := q.1) (As := As) (rest := rest) F hM (cwV n F.2.2.2.2 (goodV h1 h2 h3 h4 h5) rfl hrc hrs hd hR) ⟨fb_PC, pw_recv hw k hk hk9 ha he hc, fun U hU hW => ⟨rfl, by show PW G S U U.heap; rw [hU]; exact hw.1.moved hW.alike⟩⟩ rfl hn hl.1 hst (lv_room hrest) hdg hf
theorem rn_S {y : MethodName} {bytes : ByteArray} {maxL n index : Nat} {ret : Option FieldType} {rm : Room} {Qc : Array Value → State → Outcome → State → Prop} {As st0 : List Value} {lv : List (Nat × Value)} (F : CX p m c cc nL s args own) (hw : WW G S s H locs) (hl : lv_has ls nL lv) (hM : Met l y (wM y bytes maxL ret) rm (PC G S As) Qc mc ms (QA G)) (h1 : Cond.methodLink own index y ∈ wT) (h2 : Cond.static y ∈ wT) (h4 : Cond.initialized y.cls ∈ wT) (h5 : Cond.code y bytes maxL ret ∈ wT)
    (hrc : rm.cells = mc) (hrs : rm.slots = ms) (hd : y.cls ≠ "java/lang/invoke/MethodHandle" ∧ y.cls ≠ "java/lang/invoke/VarHandle" ∧ (parseMethodDescriptor y.desc).map (fun d => d.parameters.length) = some n) (hn : As.length = n) (hR : rm.frames + 1 ≤ R.frames ∧ 8 + (maxL + 11) + rm.locals ≤ R.locals) (hst : st0 = As.reverse ++ rest) (hrest : (rest.map fun v => v.category).sum ≤ 8) (hdg : decode cc pc = .ok (.invokestatic index, 3)) (hf : cells + mc ≤ R.cells ∧ slots + ms ≤ R.slots) :
    va_Run p l e R s m args below meth c H locs cells slots mc ms (F0 m pc ls st0) rest (Qc As.toArray) (QA G) :=
  va_runS (As := As) (rest := rest) F hM (va_cwS n F.2.2.2.2 (goodS h1 h2 h4 h5) rfl hrc hrs hd hR) ⟨fb_PC, fun U hU hW => ⟨rfl, by show PW G S U U.heap; rw [hU]; exact hw.1.moved hW.alike⟩⟩ rfl hn hl.1 hst (lv_room hrest) hdg hf
theorem rn_I {y : MethodName} {bytes : ByteArray} {maxL n index : Nat} {rm : Room} {Qc : Array Value → State → Outcome → State → Prop} {b : Nat} {As st0 : List Value} {lv : List (Nat × Value)} (F : CX p m c cc nL s args own) (hw : WW G S s H locs) (hl : lv_has ls nL lv) (hM : Met l y (wM y bytes maxL none) rm (PC G S (.ref b :: As)) Qc mc ms (QA G)) (h1 : Cond.methodLink own index y ∈ wT) (h2 : Cond.instanceMethod y ∈ wT) (h4 : Cond.initialized y.cls ∈ wT) (h5 : Cond.code y bytes maxL none ∈ wT) (hy1 : y.name = "<init>")
    (hrc : rm.cells = mc) (hrs : rm.slots = ms) (hd : y.cls ≠ "java/lang/invoke/MethodHandle" ∧ y.cls ≠ "java/lang/invoke/VarHandle" ∧ (parseMethodDescriptor y.desc).map (fun d => d.parameters.length) = some n) (hn : As.length = n) (hR : rm.frames + 1 ≤ R.frames ∧ 8 + (maxL + 11) + rm.locals ≤ R.locals) (hst : st0 = As.reverse ++ .ref b :: rest) (hrest : (rest.map fun v => v.category).sum ≤ 8) (hdg : decode cc pc = .ok (.invokespecial index, 3)) (hf : cells + mc ≤ R.cells ∧ slots + ms ≤ R.slots) :
    va_Run p l e R s m args below meth c H locs cells slots mc ms (F0 m pc ls st0) rest (Qc (Value.ref b :: As).toArray) (QA G) :=
  va_runI (As := As) (rest := rest) F hM (cwI n F.2.2.2.2 (goodM h5) rfl hrc hrs (F.2.2.2.2 _ h4) (F.2.2.2.2 _ h1) (F.2.2.2.2 _ h2) hy1 hd hR) ⟨fb_PC, fun U hU hW => ⟨rfl, by show PW G S U U.heap; rw [hU]; exact hw.1.moved hW.alike⟩⟩ rfl hn hl.1 hst (lv_room hrest) hdg hf
end ENDS
end
